section
def MS.psS (x : MS) (sg : Nat) : MS := MS.s_opn (MS.s_signCount (MS.s_signPlaces (MS.s_signs x (va_up x.signs x.signCount sg)) (va_up x.signPlaces x.signCount x.frm)) (x.signCount + 1)) (x.opn + 1)
def MS.osF (x : MS) (sg : Nat) : Bool × MS := if x.opn = 8 then (false, x.flS 3 x.frm) else (x.psS sg).nx
theorem d_M_opens_0 : decode prog_14_method_80_code 0 = .ok (.aload_n 0, 1) := by decide +kernel
theorem d_M_opens_1 : decode prog_14_method_80_code 1 = .ok (.getfield 436, 3) := by decide +kernel
theorem d_M_opens_4 : decode prog_14_method_80_code 4 = .ok (.bipush 8, 2) := by decide +kernel
theorem d_M_opens_6 : decode prog_14_method_80_code 6 = .ok (.if_icmp .ne 13, 3) := by decide +kernel
theorem d_M_opens_19 : decode prog_14_method_80_code 19 = .ok (.aload_n 0, 1) := by decide +kernel
theorem d_M_opens_20 : decode prog_14_method_80_code 20 = .ok (.dup, 1) := by decide +kernel
theorem d_M_opens_21 : decode prog_14_method_80_code 21 = .ok (.getfield 436, 3) := by decide +kernel
theorem d_M_opens_24 : decode prog_14_method_80_code 24 = .ok (.iconst 1, 1) := by decide +kernel
theorem d_M_opens_25 : decode prog_14_method_80_code 25 = .ok (.iadd, 1) := by decide +kernel
theorem d_M_opens_26 : decode prog_14_method_80_code 26 = .ok (.putfield 436, 3) := by decide +kernel
theorem d_M_opens_29 : decode prog_14_method_80_code 29 = .ok (.aload_n 0, 1) := by decide +kernel
theorem d_M_opens_30 : decode prog_14_method_80_code 30 = .ok (.getfield 126, 3) := by decide +kernel
theorem d_M_opens_33 : decode prog_14_method_80_code 33 = .ok (.aload_n 0, 1) := by decide +kernel
theorem d_M_opens_34 : decode prog_14_method_80_code 34 = .ok (.getfield 439, 3) := by decide +kernel
theorem d_M_opens_37 : decode prog_14_method_80_code 37 = .ok (.iload_n 1, 1) := by decide +kernel
theorem d_M_opens_38 : decode prog_14_method_80_code 38 = .ok (.iastore, 1) := by decide +kernel
theorem d_M_opens_39 : decode prog_14_method_80_code 39 = .ok (.aload_n 0, 1) := by decide +kernel
theorem d_M_opens_40 : decode prog_14_method_80_code 40 = .ok (.getfield 129, 3) := by decide +kernel
theorem d_M_opens_43 : decode prog_14_method_80_code 43 = .ok (.aload_n 0, 1) := by decide +kernel
theorem d_M_opens_44 : decode prog_14_method_80_code 44 = .ok (.getfield 439, 3) := by decide +kernel
theorem d_M_opens_47 : decode prog_14_method_80_code 47 = .ok (.aload_n 0, 1) := by decide +kernel
theorem d_M_opens_48 : decode prog_14_method_80_code 48 = .ok (.getfield 345, 3) := by decide +kernel
theorem d_M_opens_51 : decode prog_14_method_80_code 51 = .ok (.iastore, 1) := by decide +kernel
theorem d_M_opens_52 : decode prog_14_method_80_code 52 = .ok (.aload_n 0, 1) := by decide +kernel
theorem d_M_opens_53 : decode prog_14_method_80_code 53 = .ok (.dup, 1) := by decide +kernel
theorem d_M_opens_54 : decode prog_14_method_80_code 54 = .ok (.getfield 439, 3) := by decide +kernel
theorem d_M_opens_57 : decode prog_14_method_80_code 57 = .ok (.iconst 1, 1) := by decide +kernel
theorem d_M_opens_58 : decode prog_14_method_80_code 58 = .ok (.iadd, 1) := by decide +kernel
theorem d_M_opens_59 : decode prog_14_method_80_code 59 = .ok (.putfield 439, 3) := by decide +kernel
theorem d_M_opens_62 : decode prog_14_method_80_code 62 = .ok (.aload_n 0, 1) := by decide +kernel
theorem d_M_opens_63 : decode prog_14_method_80_code 63 = .ok (.invokevirtual 373, 3) := by decide +kernel
theorem d_M_opens_66 : decode prog_14_method_80_code 66 = .ok (.ireturn, 1) := by decide +kernel
theorem d_M_opens_9 : decode prog_14_method_80_code 9 = .ok (.aload_n 0, 1) := by decide +kernel
theorem d_M_opens_10 : decode prog_14_method_80_code 10 = .ok (.iconst 3, 1) := by decide +kernel
theorem d_M_opens_11 : decode prog_14_method_80_code 11 = .ok (.aload_n 0, 1) := by decide +kernel
theorem d_M_opens_12 : decode prog_14_method_80_code 12 = .ok (.getfield 345, 3) := by decide +kernel
theorem d_M_opens_15 : decode prog_14_method_80_code 15 = .ok (.invokevirtual 224, 3) := by decide +kernel
theorem d_M_opens_18 : decode prog_14_method_80_code 18 = .ok (.ireturn, 1) := by decide +kernel
set_option maxHeartbeats 4000000 in
set_option maxRecDepth 100000 in
theorem k_opens (l : Launch) (D : va_G) (dA : Nat → ClassId) (sz : Nat) (h : Nat) (ad : Nat → Nat) (x : MS) (sg : Nat) (hlx : x.lx) (hsc : x.signCount < 32) (hop : x.opn ≤ 8) : Met l ⟨"SeriesVaultModel", "opens", "(I)Z"⟩ [Cond.code ⟨"SeriesVaultModel", "opens", "(I)Z"⟩ prog_14_method_80_code 2 (some FieldType.boolean)] { frames := 4, cells := 0, slots := 0, locals := 67 } (pC D dA [.ref h, .int (nI sg)] (MW dA h ad x) sz) (va_Qi (fun (r9 : Int32) (u9 : MS) => r9 = bI (x.osF sg).1 ∧ u9 = (x.osF sg).2) (fun (u9 : MS) t9 => bW D (va_A (MW dA h ad x) sz) (MW dA h ad u9) t9) (va_A (MW dA h ad x) sz)) 0 0 (va_A (MW dA h ad x) sz) := by
  refine mkC (y := ⟨"SeriesVaultModel", "opens", "(I)Z"⟩) (cc := prog_14_method_80_code) (maxL := 2) (av := [.ref h, .int (nI sg)]) (ws := MW dA h ad x) (sz := sz) (Qc := fun A => va_Qi (fun (r9 : Int32) (u9 : MS) => r9 = bI (x.osF sg).1 ∧ u9 = (x.osF sg).2) (fun (u9 : MS) t9 => bW D A (MW dA h ad u9) t9) A) (by decide) (Nat.le_of_ble_eq_true rfl) ?_
  intro A p e s m below meth c ls hsz hB
  obtain ⟨hx, hb, hr, hml, hown, hin, hlk, hE, hK, hP, hD, hS, hA, hN, hl⟩ := hB
  have hown : s.vm.findClass "SeriesVaultModel" = some m.cls := hown
  have hl : lv_has ls 2 [(0, .ref h), (1, .int (nI sg))] := hl
  obtain ⟨H, hH⟩ : ∃ z, z = s.heap := ⟨_, rfl⟩
  have hP : va_P D vwCl (MW dA h ad x) H := by rw [hH]; exact hP
  have hS : va_S A s.heap H [] := by rw [hH]; exact hS
  rw [← hH]
  obtain ⟨hl1, hft, htl, hf0⟩ := hlx
  refine lv_aload_n hx hb d_M_opens_0 rfl (lv_at hl 0 rfl) ?_
  refine gF (v := .int (nI x.opn)) hx hb hown hE hK hP 0 rfl rfl layM 69 (by decide) w478 rfl d_M_opens_1 ?_
  refine lv_bipush (v := 8) hx hb d_M_opens_4 (by decide) ?_
  refine lv_icmp_ne hx hb d_M_opens_6 (tgt := 19) rfl (fun g1 => ?_) (fun g1 => ?_)
  · have g1 := mt (nI_eq (a := x.opn) (b := 8) (by omega) (by omega)).mpr g1
    refine lv_aload_n hx hb d_M_opens_19 rfl (lv_at hl 0 rfl) ?_
    refine lv_dup hx hb d_M_opens_20 rfl ?_
    refine gF (v := .int (nI x.opn)) hx hb hown hE hK hP 0 rfl rfl layM 69 (by decide) w478 rfl d_M_opens_21 ?_
    refine lv_iconst (v := 1) hx hb d_M_opens_24 (by decide) ?_
    refine lv_iadd hx hb d_M_opens_25 (tpi (y := nI (x.opn + 1)) (nI_add (x.opn) (1)) ?_)
    refine pF (v := .int (nI (x.opn + 1))) hx hb hown hE hK hP hD hS 0 rfl rfl layM tyM tokM nmM 69 (by decide) w478 rfl rfl rfl (Nat.le_of_ble_eq_true rfl) d_M_opens_26 (fun H locs hP hD hS => ?_)
    have hP : va_P D vwCl (MW dA h ad (MS.s_opn x (x.opn + 1))) H := hP
    have hD : va_D A (MW dA h ad (MS.s_opn x (x.opn + 1))) := hD
    refine lv_aload_n hx hb d_M_opens_29 rfl (lv_at hl 0 rfl) ?_
    refine gF (v := .ref (ad 66)) hx hb hown hE hK hP 0 rfl rfl layM 66 (by decide) w532 rfl d_M_opens_30 ?_
    refine lv_aload_n hx hb d_M_opens_33 rfl (lv_at hl 0 rfl) ?_
    refine gF (v := .int (nI x.signCount)) hx hb hown hE hK hP 0 rfl rfl layM 68 (by decide) w477 rfl d_M_opens_34 ?_
    refine lv_iload_n hx hb d_M_opens_37 rfl (lv_at hl 1 rfl) ?_
    refine nistN (v := sg) hx hb hK hP hD hS 33 1 rfl rfl (x.signCount) (by omega) (by decide) d_M_opens_38 (fun H locs hP hD hS => ?_)
    have hP : va_P D vwCl (MW dA h ad (MS.s_opn (MS.s_signs x (va_up x.signs x.signCount sg)) (x.opn + 1))) H := hP
    have hD : va_D A (MW dA h ad (MS.s_opn (MS.s_signs x (va_up x.signs x.signCount sg)) (x.opn + 1))) := hD
    refine lv_aload_n hx hb d_M_opens_39 rfl (lv_at hl 0 rfl) ?_
    refine gF (v := .ref (ad 67)) hx hb hown hE hK hP 0 rfl rfl layM 67 (by decide) w533 rfl d_M_opens_40 ?_
    refine lv_aload_n hx hb d_M_opens_43 rfl (lv_at hl 0 rfl) ?_
    refine gF (v := .int (nI x.signCount)) hx hb hown hE hK hP 0 rfl rfl layM 68 (by decide) w477 rfl d_M_opens_44 ?_
    refine lv_aload_n hx hb d_M_opens_47 rfl (lv_at hl 0 rfl) ?_
    refine gF (v := .int (nI x.frm)) hx hb hown hE hK hP 0 rfl rfl layM 45 (by decide) w464 rfl d_M_opens_48 ?_
    refine nistN (v := x.frm) hx hb hK hP hD hS 34 1 rfl rfl (x.signCount) (by omega) (by decide) d_M_opens_51 (fun H locs hP hD hS => ?_)
    have hP : va_P D vwCl (MW dA h ad (MS.s_opn (MS.s_signPlaces (MS.s_signs x (va_up x.signs x.signCount sg)) (va_up x.signPlaces x.signCount x.frm)) (x.opn + 1))) H := hP
    have hD : va_D A (MW dA h ad (MS.s_opn (MS.s_signPlaces (MS.s_signs x (va_up x.signs x.signCount sg)) (va_up x.signPlaces x.signCount x.frm)) (x.opn + 1))) := hD
    refine lv_aload_n hx hb d_M_opens_52 rfl (lv_at hl 0 rfl) ?_
    refine lv_dup hx hb d_M_opens_53 rfl ?_
    refine gF (v := .int (nI x.signCount)) hx hb hown hE hK hP 0 rfl rfl layM 68 (by decide) w477 rfl d_M_opens_54 ?_
    refine lv_iconst (v := 1) hx hb d_M_opens_57 (by decide) ?_
    refine lv_iadd hx hb d_M_opens_58 (tpi (y := nI (x.signCount + 1)) (nI_add (x.signCount) (1)) ?_)
    refine pF (v := .int (nI (x.signCount + 1))) hx hb hown hE hK hP hD hS 0 rfl rfl layM tyM tokM nmM 68 (by decide) w477 rfl rfl rfl (Nat.le_of_ble_eq_true rfl) d_M_opens_59 (fun H locs hP hD hS => ?_)
    have hP : va_P D vwCl (MW dA h ad (MS.s_opn (MS.s_signCount (MS.s_signPlaces (MS.s_signs x (va_up x.signs x.signCount sg)) (va_up x.signPlaces x.signCount x.frm)) (x.signCount + 1)) (x.opn + 1))) H := hP
    have hD : va_D A (MW dA h ad (MS.s_opn (MS.s_signCount (MS.s_signPlaces (MS.s_signs x (va_up x.signs x.signCount sg)) (va_up x.signPlaces x.signCount x.frm)) (x.signCount + 1)) (x.opn + 1))) := hD
    refine lv_aload_n hx hb d_M_opens_62 rfl (lv_at hl 0 rfl) ?_
    refine jfI (rnV (As := []) (rest := []) hx hb hml hown hE hK (hN _ _ hS) hP hD (k_next l D dA H.size h ad (MS.s_opn (MS.s_signCount (MS.s_signPlaces (MS.s_signs x (va_up x.signs x.signCount sg)) (va_up x.signPlaces x.signCount x.frm)) (x.signCount + 1)) (x.opn + 1)) hl1 htl hf0) (q0 := 0) rfl rfl w480 w479 w481 w482 w328 rfl rfl ⟨⟨by decide, by decide⟩, rfl⟩ ⟨(Nat.le_of_ble_eq_true rfl), (Nat.le_of_ble_eq_true rfl)⟩ rfl hl.1 rfl (Nat.le_of_ble_eq_true rfl) d_M_opens_63 ⟨(Nat.le_of_ble_eq_true rfl), (Nat.le_of_ble_eq_true rfl)⟩) hP hD hS hA (fun r2 u3 H locs hp9 hP hD hS => ?_)
    obtain ⟨y4, h9u⟩ : ∃ z9, z9 = u3 := ⟨_, rfl⟩
    subst h9u
    have hP : va_P D vwCl (MW dA h ad y4) H := hP
    have hD : va_D A (MW dA h ad y4) := hD
    obtain ⟨hp9, f_e_5⟩ := hp9
    replace hp9 : bI ((MS.s_opn (MS.s_signCount (MS.s_signPlaces (MS.s_signs x (va_up x.signs x.signCount sg)) (va_up x.signPlaces x.signCount x.frm)) (x.signCount + 1)) (x.opn + 1)).nx).1 = r2 := Eq.symm hp9
    subst hp9
    exact rfZ hx hb hr (bI_nar (((MS.s_opn (MS.s_signCount (MS.s_signPlaces (MS.s_signs x (va_up x.signs x.signCount sg)) (va_up x.signPlaces x.signCount x.frm)) (x.signCount + 1)) (x.opn + 1)).nx).1)) hlk hS y4 (by have e9 : x.osF sg = (x.psS sg).nx := if_neg (by omega); rw [e9]; exact ⟨rfl, f_e_5⟩) hP hD (Nat.le_of_ble_eq_true rfl) (Nat.le_of_ble_eq_true rfl) d_M_opens_66
  · have g1 := (nI_eq (a := x.opn) (b := 8) (by omega) (by omega)).mp g1
    refine lv_aload_n hx hb d_M_opens_9 rfl (lv_at hl 0 rfl) ?_
    refine lv_iconst (v := 3) hx hb d_M_opens_10 (by decide) ?_
    refine lv_aload_n hx hb d_M_opens_11 rfl (lv_at hl 0 rfl) ?_
    refine gF (v := .int (nI x.frm)) hx hb hown hE hK hP 0 rfl rfl layM 45 (by decide) w464 rfl d_M_opens_12 ?_
    refine jfI (rnV (As := [.int 3, .int (nI x.frm)]) (rest := []) hx hb hml hown hE hK (hN _ _ hS) hP hD (k_flaw_0 l D dA H.size h ad x 3 (nI x.frm) hf0) (q0 := 0) rfl rfl w431 w430 w432 w433 w328 rfl rfl ⟨⟨by decide, by decide⟩, rfl⟩ ⟨(Nat.le_of_ble_eq_true rfl), (Nat.le_of_ble_eq_true rfl)⟩ rfl hl.1 rfl (Nat.le_of_ble_eq_true rfl) d_M_opens_15 ⟨(Nat.le_of_ble_eq_true rfl), (Nat.le_of_ble_eq_true rfl)⟩) hP hD hS hA (fun r6 u7 H locs hp9 hP hD hS => ?_)
    have hP : va_P D vwCl (MW dA h ad (MS.s_faultPlace (MS.s_faultCode x 3) (nI x.frm))) H := hP
    have hD : va_D A (MW dA h ad (MS.s_faultPlace (MS.s_faultCode x 3) (nI x.frm))) := hD
    replace hp9 : bI false = r6 := Eq.symm hp9
    subst hp9
    exact rfZ hx hb hr (bI_nar false) hlk hS (MS.s_faultPlace (MS.s_faultCode x 3) (nI x.frm)) (by have e9 : x.osF sg = (false, x.flS 3 x.frm) := if_pos (by omega); rw [e9]; exact ⟨rfl, rfl⟩) hP hD (Nat.le_of_ble_eq_true rfl) (Nat.le_of_ble_eq_true rfl) d_M_opens_18
def MS.mc1 (y : MS) : Bool × MS := if y.kind = 61 ∨ 256 ≤ y.kind then (if y.nx.1 = true then y.nx.2.ndF 3 else (false, y.nx.2)) else (false, y.flS 2 y.frm)
/-- a match read -/
def MS.mcF (x : MS) : Bool × MS := if (x.ndF 2).1 = true then (x.ndF 2).2.mc1 else (false, (x.ndF 2).2)
theorem mc_n {x : MS} (h : (x.ndF 2).1 = false) : x.mcF = (false, (x.ndF 2).2) := if_neg (by rw [h]; decide)
theorem mc_y {x y : MS} (h : (x.ndF 2).1 = true) (e : y = (x.ndF 2).2) : x.mcF = y.mc1 := (if_pos h).trans (by rw [e])
theorem mc1_x {y : MS} (h1 : ¬ y.kind = 61) (h2 : ¬ 256 ≤ y.kind) : y.mc1 = (false, y.flS 2 y.frm) := if_neg (fun z => z.elim h1 h2)
theorem mc1_n {y : MS} (h : y.kind = 61 ∨ 256 ≤ y.kind) (h2 : y.nx.1 = false) : y.mc1 = (false, y.nx.2) := (if_pos h).trans (if_neg (by rw [h2]; decide))
theorem mc1_y {y z : MS} (h : y.kind = 61 ∨ 256 ≤ y.kind) (h2 : y.nx.1 = true) (e : z = y.nx.2) : y.mc1 = z.ndF 3 := (if_pos h).trans ((if_pos h2).trans (by rw [e]))
theorem d_M_match_0 : decode prog_14_method_84_code 0 = .ok (.aload_n 0, 1) := by decide +kernel
theorem d_M_match_1 : decode prog_14_method_84_code 1 = .ok (.iconst 2, 1) := by decide +kernel
theorem d_M_match_2 : decode prog_14_method_84_code 2 = .ok (.invokevirtual 457, 3) := by decide +kernel
theorem d_M_match_5 : decode prog_14_method_84_code 5 = .ok (.ifCond .ne 5, 3) := by decide +kernel
theorem d_M_match_10 : decode prog_14_method_84_code 10 = .ok (.aload_n 0, 1) := by decide +kernel
theorem d_M_match_11 : decode prog_14_method_84_code 11 = .ok (.getfield 351, 3) := by decide +kernel
theorem d_M_match_14 : decode prog_14_method_84_code 14 = .ok (.bipush 61, 2) := by decide +kernel
theorem d_M_match_16 : decode prog_14_method_84_code 16 = .ok (.if_icmp .eq 23, 3) := by decide +kernel
theorem d_M_match_39 : decode prog_14_method_84_code 39 = .ok (.aload_n 0, 1) := by decide +kernel
theorem d_M_match_40 : decode prog_14_method_84_code 40 = .ok (.invokevirtual 373, 3) := by decide +kernel
theorem d_M_match_43 : decode prog_14_method_84_code 43 = .ok (.ifCond .eq 15, 3) := by decide +kernel
theorem d_M_match_58 : decode prog_14_method_84_code 58 = .ok (.iconst 0, 1) := by decide +kernel
theorem d_M_match_59 : decode prog_14_method_84_code 59 = .ok (.ireturn, 1) := by decide +kernel
theorem d_M_match_46 : decode prog_14_method_84_code 46 = .ok (.aload_n 0, 1) := by decide +kernel
theorem d_M_match_47 : decode prog_14_method_84_code 47 = .ok (.iconst 3, 1) := by decide +kernel
theorem d_M_match_48 : decode prog_14_method_84_code 48 = .ok (.invokevirtual 457, 3) := by decide +kernel
theorem d_M_match_51 : decode prog_14_method_84_code 51 = .ok (.ifCond .eq 7, 3) := by decide +kernel
theorem d_M_match_54 : decode prog_14_method_84_code 54 = .ok (.iconst 1, 1) := by decide +kernel
theorem d_M_match_55 : decode prog_14_method_84_code 55 = .ok (.goto 4, 3) := by decide +kernel
theorem d_M_match_19 : decode prog_14_method_84_code 19 = .ok (.aload_n 0, 1) := by decide +kernel
theorem d_M_match_20 : decode prog_14_method_84_code 20 = .ok (.getfield 351, 3) := by decide +kernel
theorem d_M_match_23 : decode prog_14_method_84_code 23 = .ok (.sipush 256, 3) := by decide +kernel
theorem d_M_match_26 : decode prog_14_method_84_code 26 = .ok (.if_icmp .ge 13, 3) := by decide +kernel
theorem d_M_match_29 : decode prog_14_method_84_code 29 = .ok (.aload_n 0, 1) := by decide +kernel
theorem d_M_match_30 : decode prog_14_method_84_code 30 = .ok (.iconst 2, 1) := by decide +kernel
theorem d_M_match_31 : decode prog_14_method_84_code 31 = .ok (.aload_n 0, 1) := by decide +kernel
theorem d_M_match_32 : decode prog_14_method_84_code 32 = .ok (.getfield 345, 3) := by decide +kernel
theorem d_M_match_35 : decode prog_14_method_84_code 35 = .ok (.invokevirtual 224, 3) := by decide +kernel
theorem d_M_match_38 : decode prog_14_method_84_code 38 = .ok (.ireturn, 1) := by decide +kernel
theorem d_M_match_8 : decode prog_14_method_84_code 8 = .ok (.iconst 0, 1) := by decide +kernel
theorem d_M_match_9 : decode prog_14_method_84_code 9 = .ok (.ireturn, 1) := by decide +kernel
theorem w1022 : Cond.methodLink "SeriesVaultModel" 457 ⟨"SeriesVaultModel", "need", "(I)Z"⟩ ∈ aW := aw_of (tb_10 (List.mem_of_getElem? (i := 209) rfl)) rfl
theorem w1023 : Cond.code ⟨"SeriesVaultModel", "need", "(I)Z"⟩ prog_14_method_60_code 2 (some FieldType.boolean) ∈ aW := aw_of (tb_10 (List.mem_of_getElem? (i := 212) rfl)) rfl
theorem w1024 : Cond.instanceMethod ⟨"SeriesVaultModel", "need", "(I)Z"⟩ ∈ aW := aw_of (tb_10 (List.mem_of_getElem? (i := 211) rfl)) rfl
theorem w1025 : Cond.selects "SeriesVaultModel" ⟨"SeriesVaultModel", "need", "(I)Z"⟩ ⟨"SeriesVaultModel", "need", "(I)Z"⟩ ∈ aW := aw_pr (List.mem_map.mpr ⟨_, pv_7 (List.mem_of_getElem? (i := 10) rfl), rfl⟩) rfl
set_option maxHeartbeats 4000000 in
set_option maxRecDepth 100000 in
theorem k_match (l : Launch) (D : va_G) (dA : Nat → ClassId) (sz : Nat) (h : Nat) (ad : Nat → Nat) (x : MS) (hlx : x.lx) : Met l ⟨"SeriesVaultModel", "match", "()Z"⟩ [Cond.code ⟨"SeriesVaultModel", "match", "()Z"⟩ prog_14_method_84_code 1 (some FieldType.boolean)] { frames := 5, cells := 0, slots := 0, locals := 88 } (pC D dA [.ref h] (MW dA h ad x) sz) (va_Qi (fun (r9 : Int32) (u9 : MS) => r9 = bI (x.mcF).1 ∧ u9 = (x.mcF).2) (fun (u9 : MS) t9 => bW D (va_A (MW dA h ad x) sz) (MW dA h ad u9) t9) (va_A (MW dA h ad x) sz)) 0 0 (va_A (MW dA h ad x) sz) := by
  refine mkC (y := ⟨"SeriesVaultModel", "match", "()Z"⟩) (cc := prog_14_method_84_code) (maxL := 1) (av := [.ref h]) (ws := MW dA h ad x) (sz := sz) (Qc := fun A => va_Qi (fun (r9 : Int32) (u9 : MS) => r9 = bI (x.mcF).1 ∧ u9 = (x.mcF).2) (fun (u9 : MS) t9 => bW D A (MW dA h ad u9) t9) A) (by decide) (Nat.le_of_ble_eq_true rfl) ?_
  intro A p e s m below meth c ls hsz hB
  obtain ⟨hx, hb, hr, hml, hown, hin, hlk, hE, hK, hP, hD, hS, hA, hN, hl⟩ := hB
  have hown : s.vm.findClass "SeriesVaultModel" = some m.cls := hown
  have hl : lv_has ls 1 [(0, .ref h)] := hl
  obtain ⟨H, hH⟩ : ∃ z, z = s.heap := ⟨_, rfl⟩
  have hP : va_P D vwCl (MW dA h ad x) H := by rw [hH]; exact hP
  have hS : va_S A s.heap H [] := by rw [hH]; exact hS
  rw [← hH]
  refine lv_aload_n hx hb d_M_match_0 rfl (lv_at hl 0 rfl) ?_
  refine lv_iconst (v := 2) hx hb d_M_match_1 (by decide) ?_
  refine jfI (rnV (As := [.int 2]) (rest := []) hx hb hml hown hE hK (hN _ _ hS) hP hD (k_need l D dA H.size h ad x 2 hlx) (q0 := 0) rfl rfl w1023 w1022 w1024 w1025 w328 rfl rfl ⟨⟨by decide, by decide⟩, rfl⟩ ⟨(Nat.le_of_ble_eq_true rfl), (Nat.le_of_ble_eq_true rfl)⟩ rfl hl.1 rfl (Nat.le_of_ble_eq_true rfl) d_M_match_2 ⟨(Nat.le_of_ble_eq_true rfl), (Nat.le_of_ble_eq_true rfl)⟩) hP hD hS hA (fun r1 u2 H locs hp9 hP hD hS => ?_)
  obtain ⟨y3, h9u⟩ : ∃ z9, z9 = u2 := ⟨_, rfl⟩
  subst h9u
  have hP : va_P D vwCl (MW dA h ad y3) H := hP
  have hD : va_D A (MW dA h ad y3) := hD
  obtain ⟨hp9, f_e_4⟩ := hp9
  replace hp9 : bI (x.ndF 2).1 = r1 := Eq.symm hp9
  subst hp9
  refine lv_if_ne hx hb d_M_match_5 (tgt := 10) rfl (fun g5 => ?_) (fun g5 => ?_)
  · have g5 := bI_n0 g5
    have l1 : y3.lx := by rw [f_e_4]; exact (nd_in hlx g5).1
    refine lv_aload_n hx hb d_M_match_10 rfl (lv_at hl 0 rfl) ?_
    refine gF (v := .int y3.kind) hx hb hown hE hK hP 0 rfl rfl layM 44 (by decide) w469 rfl d_M_match_11 ?_
    refine lv_bipush (v := 61) hx hb d_M_match_14 (by decide) ?_
    refine lv_icmp_eq hx hb d_M_match_16 (tgt := 39) rfl (fun g6 => ?_) (fun g6 => ?_)
    · have g6 := g6
      refine lv_aload_n hx hb d_M_match_39 rfl (lv_at hl 0 rfl) ?_
      refine jfI (rnV (As := []) (rest := []) hx hb hml hown hE hK (hN _ _ hS) hP hD (k_next l D dA H.size h ad y3 l1.1 l1.2.2.1 l1.2.2.2) (q0 := 0) rfl rfl w480 w479 w481 w482 w328 rfl rfl ⟨⟨by decide, by decide⟩, rfl⟩ ⟨(Nat.le_of_ble_eq_true rfl), (Nat.le_of_ble_eq_true rfl)⟩ rfl hl.1 rfl (Nat.le_of_ble_eq_true rfl) d_M_match_40 ⟨(Nat.le_of_ble_eq_true rfl), (Nat.le_of_ble_eq_true rfl)⟩) hP hD hS hA (fun r7 u8 H locs hp9 hP hD hS => ?_)
      obtain ⟨y9, h9u⟩ : ∃ z9, z9 = u8 := ⟨_, rfl⟩
      subst h9u
      have hP : va_P D vwCl (MW dA h ad y9) H := hP
      have hD : va_D A (MW dA h ad y9) := hD
      obtain ⟨hp9, f_e_10⟩ := hp9
      replace hp9 : bI (y3.nx).1 = r7 := Eq.symm hp9
      subst hp9
      refine lv_if_eq hx hb d_M_match_43 (tgt := 58) rfl (fun g11 => ?_) (fun g11 => ?_)
      · have g11 := bI_0 g11
        refine lv_iconst (v := 0) hx hb d_M_match_58 (by decide) ?_
        exact rfZ hx hb hr (bI_nar false) hlk hS y9 (by rw [mc_y g5 f_e_4, mc1_n (Or.inl g6) g11]; exact ⟨rfl, f_e_10⟩) hP hD (Nat.le_of_ble_eq_true rfl) (Nat.le_of_ble_eq_true rfl) d_M_match_59
      · have g11 := bI_n0 g11
        have l2 : y9.lx := by rw [f_e_10]; exact (nx_in l1 g11).1
        refine lv_aload_n hx hb d_M_match_46 rfl (lv_at hl 0 rfl) ?_
        refine lv_iconst (v := 3) hx hb d_M_match_47 (by decide) ?_
        refine jfI (rnV (As := [.int 3]) (rest := []) hx hb hml hown hE hK (hN _ _ hS) hP hD (k_need l D dA H.size h ad y9 3 l2) (q0 := 0) rfl rfl w1023 w1022 w1024 w1025 w328 rfl rfl ⟨⟨by decide, by decide⟩, rfl⟩ ⟨(Nat.le_of_ble_eq_true rfl), (Nat.le_of_ble_eq_true rfl)⟩ rfl hl.1 rfl (Nat.le_of_ble_eq_true rfl) d_M_match_48 ⟨(Nat.le_of_ble_eq_true rfl), (Nat.le_of_ble_eq_true rfl)⟩) hP hD hS hA (fun r12 u13 H locs hp9 hP hD hS => ?_)
        obtain ⟨y14, h9u⟩ : ∃ z9, z9 = u13 := ⟨_, rfl⟩
        subst h9u
        have hP : va_P D vwCl (MW dA h ad y14) H := hP
        have hD : va_D A (MW dA h ad y14) := hD
        obtain ⟨hp9, f_e_15⟩ := hp9
        replace hp9 : bI (y9.ndF 3).1 = r12 := Eq.symm hp9
        subst hp9
        refine lv_if_eq hx hb d_M_match_51 (tgt := 58) rfl (fun g16 => ?_) (fun g16 => ?_)
        · have g16 := bI_0 g16
          refine lv_iconst (v := 0) hx hb d_M_match_58 (by decide) ?_
          exact rfZ hx hb hr (bI_nar false) hlk hS y14 (by rw [mc_y g5 f_e_4, mc1_y (Or.inl g6) g11 f_e_10]; exact ⟨by rw [g16]; rfl, f_e_15⟩) hP hD (Nat.le_of_ble_eq_true rfl) (Nat.le_of_ble_eq_true rfl) d_M_match_59
        · have g16 := bI_n0 g16
          refine lv_iconst (v := 1) hx hb d_M_match_54 (by decide) ?_
          refine lv_goto hx hb d_M_match_55 (tgt := 59) rfl ?_
          exact rfZ hx hb hr (bI_nar true) hlk hS y14 (by rw [mc_y g5 f_e_4, mc1_y (Or.inl g6) g11 f_e_10]; exact ⟨by rw [g16]; rfl, f_e_15⟩) hP hD (Nat.le_of_ble_eq_true rfl) (Nat.le_of_ble_eq_true rfl) d_M_match_59
    · have g6 := g6
      refine lv_aload_n hx hb d_M_match_19 rfl (lv_at hl 0 rfl) ?_
      refine gF (v := .int y3.kind) hx hb hown hE hK hP 0 rfl rfl layM 44 (by decide) w469 rfl d_M_match_20 ?_
      refine lv_sipush (v := 256) hx hb d_M_match_23 (by decide) ?_
      refine lv_icmp_ge hx hb d_M_match_26 (tgt := 39) rfl (fun g17 => ?_) (fun g17 => ?_)
      · have g17 := g17
        refine lv_aload_n hx hb d_M_match_39 rfl (lv_at hl 0 rfl) ?_
        refine jfI (rnV (As := []) (rest := []) hx hb hml hown hE hK (hN _ _ hS) hP hD (k_next l D dA H.size h ad y3 l1.1 l1.2.2.1 l1.2.2.2) (q0 := 0) rfl rfl w480 w479 w481 w482 w328 rfl rfl ⟨⟨by decide, by decide⟩, rfl⟩ ⟨(Nat.le_of_ble_eq_true rfl), (Nat.le_of_ble_eq_true rfl)⟩ rfl hl.1 rfl (Nat.le_of_ble_eq_true rfl) d_M_match_40 ⟨(Nat.le_of_ble_eq_true rfl), (Nat.le_of_ble_eq_true rfl)⟩) hP hD hS hA (fun r18 u19 H locs hp9 hP hD hS => ?_)
        obtain ⟨y20, h9u⟩ : ∃ z9, z9 = u19 := ⟨_, rfl⟩
        subst h9u
        have hP : va_P D vwCl (MW dA h ad y20) H := hP
        have hD : va_D A (MW dA h ad y20) := hD
        obtain ⟨hp9, f_e_21⟩ := hp9
        replace hp9 : bI (y3.nx).1 = r18 := Eq.symm hp9
        subst hp9
        refine lv_if_eq hx hb d_M_match_43 (tgt := 58) rfl (fun g22 => ?_) (fun g22 => ?_)
        · have g22 := bI_0 g22
          refine lv_iconst (v := 0) hx hb d_M_match_58 (by decide) ?_
          exact rfZ hx hb hr (bI_nar false) hlk hS y20 (by rw [mc_y g5 f_e_4, mc1_n (Or.inr g17) g22]; exact ⟨rfl, f_e_21⟩) hP hD (Nat.le_of_ble_eq_true rfl) (Nat.le_of_ble_eq_true rfl) d_M_match_59
        · have g22 := bI_n0 g22
          have l2 : y20.lx := by rw [f_e_21]; exact (nx_in l1 g22).1
          refine lv_aload_n hx hb d_M_match_46 rfl (lv_at hl 0 rfl) ?_
          refine lv_iconst (v := 3) hx hb d_M_match_47 (by decide) ?_
          refine jfI (rnV (As := [.int 3]) (rest := []) hx hb hml hown hE hK (hN _ _ hS) hP hD (k_need l D dA H.size h ad y20 3 l2) (q0 := 0) rfl rfl w1023 w1022 w1024 w1025 w328 rfl rfl ⟨⟨by decide, by decide⟩, rfl⟩ ⟨(Nat.le_of_ble_eq_true rfl), (Nat.le_of_ble_eq_true rfl)⟩ rfl hl.1 rfl (Nat.le_of_ble_eq_true rfl) d_M_match_48 ⟨(Nat.le_of_ble_eq_true rfl), (Nat.le_of_ble_eq_true rfl)⟩) hP hD hS hA (fun r23 u24 H locs hp9 hP hD hS => ?_)
          obtain ⟨y25, h9u⟩ : ∃ z9, z9 = u24 := ⟨_, rfl⟩
          subst h9u
          have hP : va_P D vwCl (MW dA h ad y25) H := hP
          have hD : va_D A (MW dA h ad y25) := hD
          obtain ⟨hp9, f_e_26⟩ := hp9
          replace hp9 : bI (y20.ndF 3).1 = r23 := Eq.symm hp9
          subst hp9
          refine lv_if_eq hx hb d_M_match_51 (tgt := 58) rfl (fun g27 => ?_) (fun g27 => ?_)
          · have g27 := bI_0 g27
            refine lv_iconst (v := 0) hx hb d_M_match_58 (by decide) ?_
            exact rfZ hx hb hr (bI_nar false) hlk hS y25 (by rw [mc_y g5 f_e_4, mc1_y (Or.inr g17) g22 f_e_21]; exact ⟨by rw [g27]; rfl, f_e_26⟩) hP hD (Nat.le_of_ble_eq_true rfl) (Nat.le_of_ble_eq_true rfl) d_M_match_59
          · have g27 := bI_n0 g27
            refine lv_iconst (v := 1) hx hb d_M_match_54 (by decide) ?_
            refine lv_goto hx hb d_M_match_55 (tgt := 59) rfl ?_
            exact rfZ hx hb hr (bI_nar true) hlk hS y25 (by rw [mc_y g5 f_e_4, mc1_y (Or.inr g17) g22 f_e_21]; exact ⟨by rw [g27]; rfl, f_e_26⟩) hP hD (Nat.le_of_ble_eq_true rfl) (Nat.le_of_ble_eq_true rfl) d_M_match_59
      · have g17 := g17
        refine lv_aload_n hx hb d_M_match_29 rfl (lv_at hl 0 rfl) ?_
        refine lv_iconst (v := 2) hx hb d_M_match_30 (by decide) ?_
        refine lv_aload_n hx hb d_M_match_31 rfl (lv_at hl 0 rfl) ?_
        refine gF (v := .int (nI y3.frm)) hx hb hown hE hK hP 0 rfl rfl layM 45 (by decide) w464 rfl d_M_match_32 ?_
        refine jfI (rnV (As := [.int 2, .int (nI y3.frm)]) (rest := []) hx hb hml hown hE hK (hN _ _ hS) hP hD (k_flaw_0 l D dA H.size h ad y3 2 (nI y3.frm) l1.2.2.2) (q0 := 0) rfl rfl w431 w430 w432 w433 w328 rfl rfl ⟨⟨by decide, by decide⟩, rfl⟩ ⟨(Nat.le_of_ble_eq_true rfl), (Nat.le_of_ble_eq_true rfl)⟩ rfl hl.1 rfl (Nat.le_of_ble_eq_true rfl) d_M_match_35 ⟨(Nat.le_of_ble_eq_true rfl), (Nat.le_of_ble_eq_true rfl)⟩) hP hD hS hA (fun r28 u29 H locs hp9 hP hD hS => ?_)
        have hP : va_P D vwCl (MW dA h ad (MS.s_faultPlace (MS.s_faultCode y3 2) (nI y3.frm))) H := hP
        have hD : va_D A (MW dA h ad (MS.s_faultPlace (MS.s_faultCode y3 2) (nI y3.frm))) := hD
        replace hp9 : bI false = r28 := Eq.symm hp9
        subst hp9
        exact rfZ hx hb hr (bI_nar false) hlk hS (MS.s_faultPlace (MS.s_faultCode y3 2) (nI y3.frm)) (by rw [mc_y g5 f_e_4, mc1_x g6 g17]; exact ⟨rfl, rfl⟩) hP hD (Nat.le_of_ble_eq_true rfl) (Nat.le_of_ble_eq_true rfl) d_M_match_38
  · have g5 := bI_0 g5
    refine lv_iconst (v := 0) hx hb d_M_match_8 (by decide) ?_
    exact rfZ hx hb hr (bI_nar false) hlk hS y3 (by rw [mc_n g5]; exact ⟨rfl, f_e_4⟩) hP hD (Nat.le_of_ble_eq_true rfl) (Nat.le_of_ble_eq_true rfl) d_M_match_9
end
section
/-- is name k of table t the token's -/
def MS.nmQ (y : MS) (t k : Nat) : Bool := decide (y.nameLengths (6 * t + k) = y.too - y.frm) && allB (y.too - y.frm) (txEq y.tape y.tape (y.nameFroms (6 * t + k)) y.frm)
def MS.byT (y : MS) (t : Nat) : Bool := decide (y.tableNames t = 6) || anyB (y.tableNames t) (y.nmQ t)
theorem or_tw {p : Bool} {f : Nat → Bool} {k : Nat} {v : Bool} (h : (p || anyB k f) = v) (u : Bool) (hu : f k = u) : (p || anyB (k + 1) f) = (v || u) := by
  rw [anyB_s, ← Bool.or_assoc, h, hu]
def MS.adS (x : MS) (t : Nat) : MS := MS.s_nameLengths (MS.s_nameFroms (MS.s_tableNames x (va_up x.tableNames t (x.tableNames t + 1))) (va_up x.nameFroms (6 * t + x.tableNames t) x.frm)) (va_up x.nameLengths (6 * t + x.tableNames t) (x.too - x.frm))
/-- the names of 'by', from the token on -/
def MS.byL (t : Nat) : Nat → MS → Bool × MS
  | 0, y => (false, y)
  | w + 1, y => if y.kind = 2 then (if y.byT t = true then (false, y.flS 4 y.frm) else if (y.adS t).nx.1 = true then (if (y.adS t).nx.2.kind = 44 then (if (y.adS t).nx.2.nx.1 = true then MS.byL t w (y.adS t).nx.2.nx.2 else (false, (y.adS t).nx.2.nx.2)) else (y.adS t).nx.2.ndF 41) else (false, (y.adS t).nx.2)) else (false, y.flS 2 y.frm)
section BY
variable {t w : Nat} {y z u : MS}
theorem by_k (hw : 0 < w) (h : ¬ y.kind = 2) : MS.byL t w y = (false, y.flS 2 y.frm) := by
  obtain ⟨d, rfl⟩ : ∃ d, w = d + 1 := ⟨w - 1, by omega⟩
  exact if_neg h
theorem by_4 (hw : 0 < w) (h : y.kind = 2) (h2 : y.byT t = true) : MS.byL t w y = (false, y.flS 4 y.frm) := by
  obtain ⟨d, rfl⟩ : ∃ d, w = d + 1 := ⟨w - 1, by omega⟩
  exact (if_pos h).trans (if_pos h2)
theorem by_n (hw : 0 < w) (h : y.kind = 2) (h2 : y.byT t = false) (h3 : (y.adS t).nx.1 = false) : MS.byL t w y = (false, (y.adS t).nx.2) := by
  obtain ⟨d, rfl⟩ : ∃ d, w = d + 1 := ⟨w - 1, by omega⟩
  exact (if_pos h).trans ((if_neg (by rw [h2]; decide)).trans (if_neg (by rw [h3]; decide)))
theorem by_e (hw : 0 < w) (h : y.kind = 2) (h2 : y.byT t = false) (h3 : (y.adS t).nx.1 = true) (e : z = (y.adS t).nx.2) (h4 : ¬ z.kind = 44) : MS.byL t w y = z.ndF 41 := by
  obtain ⟨d, rfl⟩ : ∃ d, w = d + 1 := ⟨w - 1, by omega⟩
  subst e
  exact (if_pos h).trans ((if_neg (by rw [h2]; decide)).trans ((if_pos h3).trans (if_neg h4)))
theorem by_mn (hw : 0 < w) (h : y.kind = 2) (h2 : y.byT t = false) (h3 : (y.adS t).nx.1 = true) (e : z = (y.adS t).nx.2) (h4 : z.kind = 44) (h5 : z.nx.1 = false) : MS.byL t w y = (false, z.nx.2) := by
  obtain ⟨d, rfl⟩ : ∃ d, w = d + 1 := ⟨w - 1, by omega⟩
  subst e
  exact (if_pos h).trans ((if_neg (by rw [h2]; decide)).trans ((if_pos h3).trans ((if_pos h4).trans (if_neg (by rw [h5]; decide)))))
theorem by_m (hw : 0 < w) (h : y.kind = 2) (h2 : y.byT t = false) (h3 : (y.adS t).nx.1 = true) (e : z = (y.adS t).nx.2) (h4 : z.kind = 44) (h5 : z.nx.1 = true) (e2 : u = z.nx.2) : MS.byL t w y = MS.byL t (w - 1) u := by
  obtain ⟨d, rfl⟩ : ∃ d, w = d + 1 := ⟨w - 1, by omega⟩
  subst e
  subst e2
  exact (if_pos h).trans ((if_neg (by rw [h2]; decide)).trans ((if_pos h3).trans ((if_pos h4).trans (if_pos h5))))
end BY
def MS.byF (x : MS) : Bool × MS := if x.nx.1 = true then (if (x.nx.2.ndF 40).1 = true then MS.byL x.pile 7 (x.nx.2.ndF 40).2 else (false, (x.nx.2.ndF 40).2)) else (false, x.nx.2)
theorem byF_0 {x : MS} (h : x.nx.1 = false) : x.byF = (false, x.nx.2) := if_neg (by rw [h]; decide)
theorem byF_1 {x y : MS} (h : x.nx.1 = true) (e : y = x.nx.2) (h2 : (y.ndF 40).1 = false) : x.byF = (false, (y.ndF 40).2) := by
  subst e
  exact (if_pos h).trans (if_neg (by rw [h2]; decide))
theorem byF_2 {x y z : MS} (h : x.nx.1 = true) (e : y = x.nx.2) (h2 : (y.ndF 40).1 = true) (e2 : z = (y.ndF 40).2) : x.byF = MS.byL x.pile 7 z := by
  subst e
  subst e2
  exact (if_pos h).trans (if_pos h2)
/-- the names of table t, as far as they are read, lie on the tape -/
def MS.nmT (x : MS) (t : Nat) : Prop := ∀ k : Nat, k < x.tableNames t → x.nameFroms (6 * t + k) + x.nameLengths (6 * t + k) ≤ x.length
theorem tk_f {x y : MS} {α : Type} (h : x.tk y) (f : MS → α) (hf : f (x.tkS y) = f x) : f y = f x := (congrArg f h).trans hf
theorem nmT_tk {x y : MS} {t : Nat} (h : x.tk y) (hn : x.nmT t) : y.nmT t := by
  have e1 : y.tableNames = x.tableNames := tk_f h MS.tableNames rfl
  have e2 : y.nameFroms = x.nameFroms := tk_f h MS.nameFroms rfl
  have e3 : y.nameLengths = x.nameLengths := tk_f h MS.nameLengths rfl
  have e4 : y.length = x.length := tk_f h MS.length rfl
  unfold MS.nmT
  rw [e1, e2, e3, e4]
  exact hn
theorem nmT_ad {x : MS} {t : Nat} (hn : x.nmT t) (h1 : x.frm ≤ x.too) (h2 : x.too ≤ x.length) : (x.adS t).nmT t := by
  intro k hk
  have hk : k < va_up x.tableNames t (x.tableNames t + 1) t := hk
  rw [va_us] at hk
  show va_up x.nameFroms (6 * t + x.tableNames t) x.frm (6 * t + k) + va_up x.nameLengths (6 * t + x.tableNames t) (x.too - x.frm) (6 * t + k) ≤ x.length
  unfold va_up
  by_cases e : 6 * t + k = 6 * t + x.tableNames t
  · rw [if_pos e, if_pos e]
    omega
  · rw [if_neg e, if_neg e]
    exact hn k (by omega)
theorem tn_ad (x : MS) (t : Nat) : (x.adS t).tableNames t = x.tableNames t + 1 := va_us _ _ _
theorem tk_tn {x y : MS} (h : x.tk y) (t : Nat) : y.tableNames t = x.tableNames t := by rw [tk_f h MS.tableNames rfl]
theorem lx_ad {x : MS} {t : Nat} (h : x.lx) : (x.adS t).lx := h
theorem by_6 {y : MS} {t : Nat} (h : y.byT t = false) : ¬ y.tableNames t = 6 := fun z => by
  unfold MS.byT at h
  rw [decide_eq_true z] at h
  cases h
theorem d_M_by_0 : decode prog_14_method_83_code 0 = .ok (.aload_n 0, 1) := by decide +kernel
theorem d_M_by_1 : decode prog_14_method_83_code 1 = .ok (.getfield 400, 3) := by decide +kernel
theorem d_M_by_4 : decode prog_14_method_83_code 4 = .ok (.istore_n 1, 1) := by decide +kernel
theorem d_M_by_5 : decode prog_14_method_83_code 5 = .ok (.aload_n 0, 1) := by decide +kernel
theorem d_M_by_6 : decode prog_14_method_83_code 6 = .ok (.invokevirtual 373, 3) := by decide +kernel
theorem d_M_by_9 : decode prog_14_method_83_code 9 = .ok (.ifCond .eq 12, 3) := by decide +kernel
theorem d_M_by_21 : decode prog_14_method_83_code 21 = .ok (.iconst 0, 1) := by decide +kernel
theorem d_M_by_22 : decode prog_14_method_83_code 22 = .ok (.ireturn, 1) := by decide +kernel
theorem d_M_by_12 : decode prog_14_method_83_code 12 = .ok (.aload_n 0, 1) := by decide +kernel
theorem d_M_by_13 : decode prog_14_method_83_code 13 = .ok (.bipush 40, 2) := by decide +kernel
theorem d_M_by_15 : decode prog_14_method_83_code 15 = .ok (.invokevirtual 457, 3) := by decide +kernel
theorem d_M_by_18 : decode prog_14_method_83_code 18 = .ok (.ifCond .ne 5, 3) := by decide +kernel
theorem d_M_by_23 : decode prog_14_method_83_code 23 = .ok (.iconst 1, 1) := by decide +kernel
theorem d_M_by_24 : decode prog_14_method_83_code 24 = .ok (.istore_n 2, 1) := by decide +kernel
theorem d_M_by_25 : decode prog_14_method_83_code 25 = .ok (.iload_n 2, 1) := by decide +kernel
theorem d_M_by_26 : decode prog_14_method_83_code 26 = .ok (.ifCond .eq 283, 3) := by decide +kernel
theorem d_M_by_309 : decode prog_14_method_83_code 309 = .ok (.aload_n 0, 1) := by decide +kernel
theorem d_M_by_310 : decode prog_14_method_83_code 310 = .ok (.bipush 41, 2) := by decide +kernel
theorem d_M_by_312 : decode prog_14_method_83_code 312 = .ok (.invokevirtual 457, 3) := by decide +kernel
theorem d_M_by_315 : decode prog_14_method_83_code 315 = .ok (.ireturn, 1) := by decide +kernel
theorem d_M_by_29 : decode prog_14_method_83_code 29 = .ok (.aload_n 0, 1) := by decide +kernel
theorem d_M_by_30 : decode prog_14_method_83_code 30 = .ok (.getfield 351, 3) := by decide +kernel
theorem d_M_by_33 : decode prog_14_method_83_code 33 = .ok (.iconst 2, 1) := by decide +kernel
theorem d_M_by_34 : decode prog_14_method_83_code 34 = .ok (.if_icmp .eq 13, 3) := by decide +kernel
theorem d_M_by_63 : decode prog_14_method_83_code 63 = .ok (.istore_n 3, 1) := by decide +kernel
theorem d_M_by_200 : decode prog_14_method_83_code 200 = .ok (.iload_n 3, 1) := by decide +kernel
theorem d_M_by_201 : decode prog_14_method_83_code 201 = .ok (.ifCond .eq 13, 3) := by decide +kernel
theorem d_M_by_214 : decode prog_14_method_83_code 214 = .ok (.aload_n 0, 1) := by decide +kernel
theorem d_M_by_215 : decode prog_14_method_83_code 215 = .ok (.getfield 91, 3) := by decide +kernel
theorem d_M_by_218 : decode prog_14_method_83_code 218 = .ok (.bipush 6, 2) := by decide +kernel
theorem d_M_by_220 : decode prog_14_method_83_code 220 = .ok (.iload_n 1, 1) := by decide +kernel
theorem d_M_by_221 : decode prog_14_method_83_code 221 = .ok (.imul, 1) := by decide +kernel
theorem d_M_by_222 : decode prog_14_method_83_code 222 = .ok (.aload_n 0, 1) := by decide +kernel
theorem d_M_by_223 : decode prog_14_method_83_code 223 = .ok (.getfield 88, 3) := by decide +kernel
theorem d_M_by_226 : decode prog_14_method_83_code 226 = .ok (.iload_n 1, 1) := by decide +kernel
theorem d_M_by_227 : decode prog_14_method_83_code 227 = .ok (.iaload, 1) := by decide +kernel
theorem d_M_by_228 : decode prog_14_method_83_code 228 = .ok (.iadd, 1) := by decide +kernel
theorem d_M_by_229 : decode prog_14_method_83_code 229 = .ok (.aload_n 0, 1) := by decide +kernel
theorem d_M_by_230 : decode prog_14_method_83_code 230 = .ok (.getfield 345, 3) := by decide +kernel
theorem d_M_by_233 : decode prog_14_method_83_code 233 = .ok (.iastore, 1) := by decide +kernel
theorem d_M_by_234 : decode prog_14_method_83_code 234 = .ok (.aload_n 0, 1) := by decide +kernel
theorem d_M_by_235 : decode prog_14_method_83_code 235 = .ok (.getfield 94, 3) := by decide +kernel
theorem d_M_by_238 : decode prog_14_method_83_code 238 = .ok (.bipush 6, 2) := by decide +kernel
theorem d_M_by_240 : decode prog_14_method_83_code 240 = .ok (.iload_n 1, 1) := by decide +kernel
theorem d_M_by_241 : decode prog_14_method_83_code 241 = .ok (.imul, 1) := by decide +kernel
theorem d_M_by_242 : decode prog_14_method_83_code 242 = .ok (.aload_n 0, 1) := by decide +kernel
theorem d_M_by_243 : decode prog_14_method_83_code 243 = .ok (.getfield 88, 3) := by decide +kernel
theorem d_M_by_246 : decode prog_14_method_83_code 246 = .ok (.iload_n 1, 1) := by decide +kernel
theorem d_M_by_247 : decode prog_14_method_83_code 247 = .ok (.iaload, 1) := by decide +kernel
theorem d_M_by_248 : decode prog_14_method_83_code 248 = .ok (.iadd, 1) := by decide +kernel
theorem d_M_by_249 : decode prog_14_method_83_code 249 = .ok (.aload_n 0, 1) := by decide +kernel
theorem d_M_by_250 : decode prog_14_method_83_code 250 = .ok (.getfield 342, 3) := by decide +kernel
theorem d_M_by_253 : decode prog_14_method_83_code 253 = .ok (.aload_n 0, 1) := by decide +kernel
theorem d_M_by_254 : decode prog_14_method_83_code 254 = .ok (.getfield 345, 3) := by decide +kernel
theorem d_M_by_257 : decode prog_14_method_83_code 257 = .ok (.isub, 1) := by decide +kernel
theorem d_M_by_258 : decode prog_14_method_83_code 258 = .ok (.iastore, 1) := by decide +kernel
theorem d_M_by_259 : decode prog_14_method_83_code 259 = .ok (.aload_n 0, 1) := by decide +kernel
theorem d_M_by_260 : decode prog_14_method_83_code 260 = .ok (.getfield 88, 3) := by decide +kernel
theorem d_M_by_263 : decode prog_14_method_83_code 263 = .ok (.iload_n 1, 1) := by decide +kernel
theorem d_M_by_264 : decode prog_14_method_83_code 264 = .ok (.dup2, 1) := by decide +kernel
theorem d_M_by_265 : decode prog_14_method_83_code 265 = .ok (.iaload, 1) := by decide +kernel
theorem d_M_by_266 : decode prog_14_method_83_code 266 = .ok (.iconst 1, 1) := by decide +kernel
theorem d_M_by_267 : decode prog_14_method_83_code 267 = .ok (.iadd, 1) := by decide +kernel
theorem d_M_by_268 : decode prog_14_method_83_code 268 = .ok (.iastore, 1) := by decide +kernel
theorem d_M_by_269 : decode prog_14_method_83_code 269 = .ok (.aload_n 0, 1) := by decide +kernel
theorem d_M_by_270 : decode prog_14_method_83_code 270 = .ok (.invokevirtual 373, 3) := by decide +kernel
theorem d_M_by_273 : decode prog_14_method_83_code 273 = .ok (.ifCond .ne 5, 3) := by decide +kernel
theorem d_M_by_278 : decode prog_14_method_83_code 278 = .ok (.aload_n 0, 1) := by decide +kernel
theorem d_M_by_279 : decode prog_14_method_83_code 279 = .ok (.getfield 351, 3) := by decide +kernel
theorem d_M_by_282 : decode prog_14_method_83_code 282 = .ok (.bipush 44, 2) := by decide +kernel
theorem d_M_by_284 : decode prog_14_method_83_code 284 = .ok (.if_icmp .ne 7, 3) := by decide +kernel
theorem d_M_by_291 : decode prog_14_method_83_code 291 = .ok (.iconst 0, 1) := by decide +kernel
theorem d_M_by_292 : decode prog_14_method_83_code 292 = .ok (.istore_n 2, 1) := by decide +kernel
theorem d_M_by_293 : decode prog_14_method_83_code 293 = .ok (.iload_n 2, 1) := by decide +kernel
theorem d_M_by_294 : decode prog_14_method_83_code 294 = .ok (.ifCond .eq 12, 3) := by decide +kernel
theorem d_M_by_306 : decode prog_14_method_83_code 306 = .ok (.goto (-281), 3) := by decide +kernel
theorem d_M_by_287 : decode prog_14_method_83_code 287 = .ok (.iconst 1, 1) := by decide +kernel
theorem d_M_by_288 : decode prog_14_method_83_code 288 = .ok (.goto 4, 3) := by decide +kernel
theorem d_M_by_297 : decode prog_14_method_83_code 297 = .ok (.aload_n 0, 1) := by decide +kernel
theorem d_M_by_298 : decode prog_14_method_83_code 298 = .ok (.invokevirtual 373, 3) := by decide +kernel
theorem d_M_by_301 : decode prog_14_method_83_code 301 = .ok (.ifCond .ne 5, 3) := by decide +kernel
theorem d_M_by_304 : decode prog_14_method_83_code 304 = .ok (.iconst 0, 1) := by decide +kernel
theorem d_M_by_305 : decode prog_14_method_83_code 305 = .ok (.ireturn, 1) := by decide +kernel
theorem d_M_by_276 : decode prog_14_method_83_code 276 = .ok (.iconst 0, 1) := by decide +kernel
theorem d_M_by_277 : decode prog_14_method_83_code 277 = .ok (.ireturn, 1) := by decide +kernel
theorem d_M_by_204 : decode prog_14_method_83_code 204 = .ok (.aload_n 0, 1) := by decide +kernel
theorem d_M_by_205 : decode prog_14_method_83_code 205 = .ok (.iconst 4, 1) := by decide +kernel
theorem d_M_by_206 : decode prog_14_method_83_code 206 = .ok (.aload_n 0, 1) := by decide +kernel
theorem d_M_by_207 : decode prog_14_method_83_code 207 = .ok (.getfield 345, 3) := by decide +kernel
theorem d_M_by_210 : decode prog_14_method_83_code 210 = .ok (.invokevirtual 224, 3) := by decide +kernel
theorem d_M_by_213 : decode prog_14_method_83_code 213 = .ok (.ireturn, 1) := by decide +kernel
theorem d_M_by_64 : decode prog_14_method_83_code 64 = .ok (.iconst 0, 1) := by decide +kernel
theorem d_M_by_65 : decode prog_14_method_83_code 65 = .ok (.istore 4, 2) := by decide +kernel
theorem d_M_by_67 : decode prog_14_method_83_code 67 = .ok (.iload 4, 2) := by decide +kernel
theorem d_M_by_69 : decode prog_14_method_83_code 69 = .ok (.aload_n 0, 1) := by decide +kernel
theorem d_M_by_70 : decode prog_14_method_83_code 70 = .ok (.getfield 88, 3) := by decide +kernel
theorem d_M_by_73 : decode prog_14_method_83_code 73 = .ok (.iload_n 1, 1) := by decide +kernel
theorem d_M_by_74 : decode prog_14_method_83_code 74 = .ok (.iaload, 1) := by decide +kernel
theorem d_M_by_75 : decode prog_14_method_83_code 75 = .ok (.if_icmp .ge 125, 3) := by decide +kernel
theorem d_M_by_107 : decode prog_14_method_83_code 107 = .ok (.istore 5, 2) := by decide +kernel
theorem d_M_by_193 : decode prog_14_method_83_code 193 = .ok (.istore_n 3, 1) := by decide +kernel
theorem d_M_by_194 : decode prog_14_method_83_code 194 = .ok (.iinc 4 1, 3) := by decide +kernel
theorem d_M_by_197 : decode prog_14_method_83_code 197 = .ok (.goto (-130), 3) := by decide +kernel
theorem d_M_by_179 : decode prog_14_method_83_code 179 = .ok (.iload_n 3, 1) := by decide +kernel
theorem d_M_by_180 : decode prog_14_method_83_code 180 = .ok (.ifCond .ne 8, 3) := by decide +kernel
theorem d_M_by_188 : decode prog_14_method_83_code 188 = .ok (.iconst 1, 1) := by decide +kernel
theorem d_M_by_189 : decode prog_14_method_83_code 189 = .ok (.goto 4, 3) := by decide +kernel
theorem d_M_by_183 : decode prog_14_method_83_code 183 = .ok (.iload 5, 2) := by decide +kernel
theorem d_M_by_185 : decode prog_14_method_83_code 185 = .ok (.ifCond .eq 7, 3) := by decide +kernel
theorem d_M_by_192 : decode prog_14_method_83_code 192 = .ok (.iconst 0, 1) := by decide +kernel
theorem d_M_by_109 : decode prog_14_method_83_code 109 = .ok (.iconst 0, 1) := by decide +kernel
theorem d_M_by_110 : decode prog_14_method_83_code 110 = .ok (.istore 6, 2) := by decide +kernel
theorem d_M_by_112 : decode prog_14_method_83_code 112 = .ok (.iload 6, 2) := by decide +kernel
theorem d_M_by_114 : decode prog_14_method_83_code 114 = .ok (.aload_n 0, 1) := by decide +kernel
theorem d_M_by_115 : decode prog_14_method_83_code 115 = .ok (.getfield 342, 3) := by decide +kernel
theorem d_M_by_118 : decode prog_14_method_83_code 118 = .ok (.aload_n 0, 1) := by decide +kernel
theorem d_M_by_119 : decode prog_14_method_83_code 119 = .ok (.getfield 345, 3) := by decide +kernel
theorem d_M_by_122 : decode prog_14_method_83_code 122 = .ok (.isub, 1) := by decide +kernel
theorem d_M_by_123 : decode prog_14_method_83_code 123 = .ok (.if_icmp .ge 56, 3) := by decide +kernel
theorem d_M_by_126 : decode prog_14_method_83_code 126 = .ok (.iload 5, 2) := by decide +kernel
theorem d_M_by_128 : decode prog_14_method_83_code 128 = .ok (.ifCond .eq 51, 3) := by decide +kernel
theorem d_M_by_131 : decode prog_14_method_83_code 131 = .ok (.aload_n 0, 1) := by decide +kernel
theorem d_M_by_132 : decode prog_14_method_83_code 132 = .ok (.getfield 8, 3) := by decide +kernel
theorem d_M_by_135 : decode prog_14_method_83_code 135 = .ok (.aload_n 0, 1) := by decide +kernel
theorem d_M_by_136 : decode prog_14_method_83_code 136 = .ok (.getfield 91, 3) := by decide +kernel
theorem d_M_by_139 : decode prog_14_method_83_code 139 = .ok (.bipush 6, 2) := by decide +kernel
theorem d_M_by_141 : decode prog_14_method_83_code 141 = .ok (.iload_n 1, 1) := by decide +kernel
theorem d_M_by_142 : decode prog_14_method_83_code 142 = .ok (.imul, 1) := by decide +kernel
theorem d_M_by_143 : decode prog_14_method_83_code 143 = .ok (.iload 4, 2) := by decide +kernel
theorem d_M_by_145 : decode prog_14_method_83_code 145 = .ok (.iadd, 1) := by decide +kernel
theorem d_M_by_146 : decode prog_14_method_83_code 146 = .ok (.iaload, 1) := by decide +kernel
theorem d_M_by_147 : decode prog_14_method_83_code 147 = .ok (.iload 6, 2) := by decide +kernel
theorem d_M_by_149 : decode prog_14_method_83_code 149 = .ok (.iadd, 1) := by decide +kernel
theorem d_M_by_150 : decode prog_14_method_83_code 150 = .ok (.baload, 1) := by decide +kernel
theorem d_M_by_151 : decode prog_14_method_83_code 151 = .ok (.aload_n 0, 1) := by decide +kernel
theorem d_M_by_152 : decode prog_14_method_83_code 152 = .ok (.getfield 8, 3) := by decide +kernel
theorem d_M_by_155 : decode prog_14_method_83_code 155 = .ok (.aload_n 0, 1) := by decide +kernel
theorem d_M_by_156 : decode prog_14_method_83_code 156 = .ok (.getfield 345, 3) := by decide +kernel
theorem d_M_by_159 : decode prog_14_method_83_code 159 = .ok (.iload 6, 2) := by decide +kernel
theorem d_M_by_161 : decode prog_14_method_83_code 161 = .ok (.iadd, 1) := by decide +kernel
theorem d_M_by_162 : decode prog_14_method_83_code 162 = .ok (.baload, 1) := by decide +kernel
theorem d_M_by_163 : decode prog_14_method_83_code 163 = .ok (.if_icmp .ne 7, 3) := by decide +kernel
theorem d_M_by_170 : decode prog_14_method_83_code 170 = .ok (.iconst 0, 1) := by decide +kernel
theorem d_M_by_171 : decode prog_14_method_83_code 171 = .ok (.istore 5, 2) := by decide +kernel
theorem d_M_by_173 : decode prog_14_method_83_code 173 = .ok (.iinc 6 1, 3) := by decide +kernel
theorem d_M_by_176 : decode prog_14_method_83_code 176 = .ok (.goto (-64), 3) := by decide +kernel
theorem d_M_by_166 : decode prog_14_method_83_code 166 = .ok (.iconst 1, 1) := by decide +kernel
theorem d_M_by_167 : decode prog_14_method_83_code 167 = .ok (.goto 4, 3) := by decide +kernel
theorem d_M_by_78 : decode prog_14_method_83_code 78 = .ok (.aload_n 0, 1) := by decide +kernel
theorem d_M_by_79 : decode prog_14_method_83_code 79 = .ok (.getfield 94, 3) := by decide +kernel
theorem d_M_by_82 : decode prog_14_method_83_code 82 = .ok (.bipush 6, 2) := by decide +kernel
theorem d_M_by_84 : decode prog_14_method_83_code 84 = .ok (.iload_n 1, 1) := by decide +kernel
theorem d_M_by_85 : decode prog_14_method_83_code 85 = .ok (.imul, 1) := by decide +kernel
theorem d_M_by_86 : decode prog_14_method_83_code 86 = .ok (.iload 4, 2) := by decide +kernel
theorem d_M_by_88 : decode prog_14_method_83_code 88 = .ok (.iadd, 1) := by decide +kernel
theorem d_M_by_89 : decode prog_14_method_83_code 89 = .ok (.iaload, 1) := by decide +kernel
theorem d_M_by_90 : decode prog_14_method_83_code 90 = .ok (.aload_n 0, 1) := by decide +kernel
theorem d_M_by_91 : decode prog_14_method_83_code 91 = .ok (.getfield 342, 3) := by decide +kernel
theorem d_M_by_94 : decode prog_14_method_83_code 94 = .ok (.aload_n 0, 1) := by decide +kernel
theorem d_M_by_95 : decode prog_14_method_83_code 95 = .ok (.getfield 345, 3) := by decide +kernel
theorem d_M_by_98 : decode prog_14_method_83_code 98 = .ok (.isub, 1) := by decide +kernel
theorem d_M_by_99 : decode prog_14_method_83_code 99 = .ok (.if_icmp .ne 7, 3) := by decide +kernel
theorem d_M_by_106 : decode prog_14_method_83_code 106 = .ok (.iconst 0, 1) := by decide +kernel
theorem d_M_by_102 : decode prog_14_method_83_code 102 = .ok (.iconst 1, 1) := by decide +kernel
theorem d_M_by_103 : decode prog_14_method_83_code 103 = .ok (.goto 4, 3) := by decide +kernel
theorem d_M_by_47 : decode prog_14_method_83_code 47 = .ok (.aload_n 0, 1) := by decide +kernel
theorem d_M_by_48 : decode prog_14_method_83_code 48 = .ok (.getfield 88, 3) := by decide +kernel
theorem d_M_by_51 : decode prog_14_method_83_code 51 = .ok (.iload_n 1, 1) := by decide +kernel
theorem d_M_by_52 : decode prog_14_method_83_code 52 = .ok (.iaload, 1) := by decide +kernel
theorem d_M_by_53 : decode prog_14_method_83_code 53 = .ok (.bipush 6, 2) := by decide +kernel
theorem d_M_by_55 : decode prog_14_method_83_code 55 = .ok (.if_icmp .ne 7, 3) := by decide +kernel
theorem d_M_by_62 : decode prog_14_method_83_code 62 = .ok (.iconst 0, 1) := by decide +kernel
theorem d_M_by_58 : decode prog_14_method_83_code 58 = .ok (.iconst 1, 1) := by decide +kernel
theorem d_M_by_59 : decode prog_14_method_83_code 59 = .ok (.goto 4, 3) := by decide +kernel
theorem d_M_by_37 : decode prog_14_method_83_code 37 = .ok (.aload_n 0, 1) := by decide +kernel
theorem d_M_by_38 : decode prog_14_method_83_code 38 = .ok (.iconst 2, 1) := by decide +kernel
theorem d_M_by_39 : decode prog_14_method_83_code 39 = .ok (.aload_n 0, 1) := by decide +kernel
theorem d_M_by_40 : decode prog_14_method_83_code 40 = .ok (.getfield 345, 3) := by decide +kernel
theorem d_M_by_43 : decode prog_14_method_83_code 43 = .ok (.invokevirtual 224, 3) := by decide +kernel
theorem d_M_by_46 : decode prog_14_method_83_code 46 = .ok (.ireturn, 1) := by decide +kernel
set_option maxHeartbeats 4000000 in
set_option maxRecDepth 100000 in
theorem k_by (l : Launch) (D : va_G) (dA : Nat → ClassId) (sz : Nat) (h : Nat) (ad : Nat → Nat) (x : MS) (hlx : x.lx) (hpl : x.pile < 20) (h0 : x.tableNames x.pile = 0) : Met l ⟨"SeriesVaultModel", "by", "()Z"⟩ [Cond.code ⟨"SeriesVaultModel", "by", "()Z"⟩ prog_14_method_83_code 7 (some FieldType.boolean)] { frames := 5, cells := 0, slots := 0, locals := 88 } (pC D dA [.ref h] (MW dA h ad x) sz) (va_Qi (fun (r9 : Int32) (u9 : MS) => r9 = bI (x.byF).1 ∧ u9 = (x.byF).2) (fun (u9 : MS) t9 => bW D (va_A (MW dA h ad x) sz) (MW dA h ad u9) t9) (va_A (MW dA h ad x) sz)) 0 0 (va_A (MW dA h ad x) sz) := by
  refine mkC (y := ⟨"SeriesVaultModel", "by", "()Z"⟩) (cc := prog_14_method_83_code) (maxL := 7) (av := [.ref h]) (ws := MW dA h ad x) (sz := sz) (Qc := fun A => va_Qi (fun (r9 : Int32) (u9 : MS) => r9 = bI (x.byF).1 ∧ u9 = (x.byF).2) (fun (u9 : MS) t9 => bW D A (MW dA h ad u9) t9) A) (by decide) (Nat.le_of_ble_eq_true rfl) ?_
  intro A p e s m below meth c ls hsz hB
  obtain ⟨hx, hb, hr, hml, hown, hin, hlk, hE, hK, hP, hD, hS, hA, hN, hl⟩ := hB
  have hown : s.vm.findClass "SeriesVaultModel" = some m.cls := hown
  have hl : lv_has ls 7 [(0, .ref h)] := hl
  obtain ⟨H, hH⟩ : ∃ z, z = s.heap := ⟨_, rfl⟩
  have hP : va_P D vwCl (MW dA h ad x) H := by rw [hH]; exact hP
  have hS : va_S A s.heap H [] := by rw [hH]; exact hS
  rw [← hH]
  refine lv_aload_n hx hb d_M_by_0 rfl (lv_at hl 0 rfl) ?_
  refine gF (v := .int (nI x.pile)) hx hb hown hE hK hP 0 rfl rfl layM 55 (by decide) w476 rfl d_M_by_1 ?_
  refine lv_istore_n hx hb d_M_by_4 rfl hl (by decide) rfl (fun ls hl => ?_)
  have hl : lv_has ls 7 [(1, .int (nI x.pile)), (0, .ref h)] := hl
  refine lv_aload_n hx hb d_M_by_5 rfl (lv_at hl 1 rfl) ?_
  refine jfI (rnV (As := []) (rest := []) hx hb hml hown hE hK (hN _ _ hS) hP hD (k_next l D dA H.size h ad x hlx.1 hlx.2.2.1 hlx.2.2.2) (q0 := 0) rfl rfl w480 w479 w481 w482 w328 rfl rfl ⟨⟨by decide, by decide⟩, rfl⟩ ⟨(Nat.le_of_ble_eq_true rfl), (Nat.le_of_ble_eq_true rfl)⟩ rfl hl.1 rfl (Nat.le_of_ble_eq_true rfl) d_M_by_6 ⟨(Nat.le_of_ble_eq_true rfl), (Nat.le_of_ble_eq_true rfl)⟩) hP hD hS hA (fun r1 u2 H locs hp9 hP hD hS => ?_)
  obtain ⟨y3, h9u⟩ : ∃ z9, z9 = u2 := ⟨_, rfl⟩
  subst h9u
  have hP : va_P D vwCl (MW dA h ad y3) H := hP
  have hD : va_D A (MW dA h ad y3) := hD
  obtain ⟨hp9, f_e_4⟩ := hp9
  replace hp9 : bI (x.nx).1 = r1 := Eq.symm hp9
  subst hp9
  refine lv_if_eq hx hb d_M_by_9 (tgt := 21) rfl (fun g5 => ?_) (fun g5 => ?_)
  · have g5 := bI_0 g5
    refine lv_iconst (v := 0) hx hb d_M_by_21 (by decide) ?_
    exact rfZ hx hb hr (bI_nar false) hlk hS y3 (by rw [byF_0 g5]; exact ⟨rfl, f_e_4⟩) hP hD (Nat.le_of_ble_eq_true rfl) (Nat.le_of_ble_eq_true rfl) d_M_by_22
  · have g5 := bI_n0 g5
    have l1 : y3.lx := by rw [f_e_4]; exact (nx_in hlx g5).1
    refine lv_aload_n hx hb d_M_by_12 rfl (lv_at hl 1 rfl) ?_
    refine lv_bipush (v := 40) hx hb d_M_by_13 (by decide) ?_
    refine jfI (rnV (As := [.int 40]) (rest := []) hx hb hml hown hE hK (hN _ _ hS) hP hD (k_need l D dA H.size h ad y3 40 l1) (q0 := 0) rfl rfl w1023 w1022 w1024 w1025 w328 rfl rfl ⟨⟨by decide, by decide⟩, rfl⟩ ⟨(Nat.le_of_ble_eq_true rfl), (Nat.le_of_ble_eq_true rfl)⟩ rfl hl.1 rfl (Nat.le_of_ble_eq_true rfl) d_M_by_15 ⟨(Nat.le_of_ble_eq_true rfl), (Nat.le_of_ble_eq_true rfl)⟩) hP hD hS hA (fun r6 u7 H locs hp9 hP hD hS => ?_)
    obtain ⟨y8, h9u⟩ : ∃ z9, z9 = u7 := ⟨_, rfl⟩
    subst h9u
    have hP : va_P D vwCl (MW dA h ad y8) H := hP
    have hD : va_D A (MW dA h ad y8) := hD
    obtain ⟨hp9, f_e_9⟩ := hp9
    replace hp9 : bI (y3.ndF 40).1 = r6 := Eq.symm hp9
    subst hp9
    refine lv_if_ne hx hb d_M_by_18 (tgt := 23) rfl (fun g10 => ?_) (fun g10 => ?_)
    · have g10 := bI_n0 g10
      have T1 : x.tk y8 := by rw [f_e_9, f_e_4]; exact tk_tr (tk_nx x) (tk_nd _ 40)
      have n0 : y8.tableNames x.pile = 0 := (tk_tn T1 _).trans h0
      have n1 : y8.nmT x.pile := nmT_tk T1 (fun k hk => absurd hk (by rw [h0]; exact Nat.not_lt_zero k))
      refine lv_iconst (v := 1) hx hb d_M_by_23 (by decide) ?_
      refine lv_istore_n hx hb d_M_by_24 rfl hl (by decide) rfl (fun ls hl => ?_)
      have hl : lv_has ls 7 [(2, .int 1), (1, .int (nI x.pile)), (0, .ref h)] := hl
      have L25 : ∀ (k9 : Nat) (yy : MS) (b : Bool) (w : Nat) (i1 : x.byF = (if b = true then MS.byL x.pile w yy else yy.ndF 41)) (i2 : yy.lx) (i3 : yy.nmT x.pile) (i4 : yy.tableNames x.pile ≤ 6) (i5 : b = true → yy.tableNames x.pile + w = 7) (hk9 : w = k9), ∀ (H : Heap) (locs : List Loc) (ls : Array Slot) (hP : va_P D vwCl (MW dA h ad yy) H) (hD : va_D A (MW dA h ad yy)) (hS : va_S A s.heap H locs) (hl : lv_has ls 7 [(2, .int (bI b)), (1, .int (nI x.pile)), (0, .ref h)]), W p l e ({ frames := 5, cells := 0, slots := 0, locals := 88 } : Room) s m ([.ref h] : List Value).toArray below meth c H locs 0 0 (MQ below (va_Qi (fun (r9 : Int32) (u9 : MS) => r9 = bI (x.byF).1 ∧ u9 = (x.byF).2) (fun (u9 : MS) t9 => bW D A (MW dA h ad u9) t9) A) ([.ref h] : List Value).toArray s 0 0 A) (F0 m 25 ls []) := by
        intro k9
        induction k9 using Nat.strongRecOn with
        | ind k9 ih25 =>
          intro yy b w i1 i2 i3 i4 i5 hk9 H locs ls hP hD hS hl
          refine lv_iload_n hx hb d_M_by_25 rfl (lv_at hl 0 rfl) ?_
          refine lv_if_eq hx hb d_M_by_26 (tgt := 309) rfl (fun g11 => ?_) (fun g11 => ?_)
          · have g11 := bI_0 g11
            refine lv_aload_n hx hb d_M_by_309 rfl (lv_at hl 2 rfl) ?_
            refine lv_bipush (v := 41) hx hb d_M_by_310 (by decide) ?_
            refine jfI (rnV (As := [.int 41]) (rest := []) hx hb hml hown hE hK (hN _ _ hS) hP hD (k_need l D dA H.size h ad yy 41 i2) (q0 := 0) rfl rfl w1023 w1022 w1024 w1025 w328 rfl rfl ⟨⟨by decide, by decide⟩, rfl⟩ ⟨(Nat.le_of_ble_eq_true rfl), (Nat.le_of_ble_eq_true rfl)⟩ rfl hl.1 rfl (Nat.le_of_ble_eq_true rfl) d_M_by_312 ⟨(Nat.le_of_ble_eq_true rfl), (Nat.le_of_ble_eq_true rfl)⟩) hP hD hS hA (fun r12 u13 H locs hp9 hP hD hS => ?_)
            obtain ⟨y14, h9u⟩ : ∃ z9, z9 = u13 := ⟨_, rfl⟩
            subst h9u
            have hP : va_P D vwCl (MW dA h ad y14) H := hP
            have hD : va_D A (MW dA h ad y14) := hD
            obtain ⟨hp9, f_e_15⟩ := hp9
            replace hp9 : bI (yy.ndF 41).1 = r12 := Eq.symm hp9
            subst hp9
            exact rfZ hx hb hr (bI_nar ((yy.ndF 41).1)) hlk hS y14 (by rw [i1, if_neg (by rw [g11]; decide)]; exact ⟨rfl, f_e_15⟩) hP hD (Nat.le_of_ble_eq_true rfl) (Nat.le_of_ble_eq_true rfl) d_M_by_315
          · have g11 := bI_n0 g11
            have w0 := i5 g11
            have i1b : x.byF = MS.byL x.pile w yy := i1.trans (if_pos g11)
            have j1 := i2.1
            have j2 := i2.2.1
            have j3 := i2.2.2.1
            refine lv_aload_n hx hb d_M_by_29 rfl (lv_at hl 2 rfl) ?_
            refine gF (v := .int yy.kind) hx hb hown hE hK hP 0 rfl rfl layM 44 (by decide) w469 rfl d_M_by_30 ?_
            refine lv_iconst (v := 2) hx hb d_M_by_33 (by decide) ?_
            refine lv_icmp_eq hx hb d_M_by_34 (tgt := 47) rfl (fun g16 => ?_) (fun g16 => ?_)
            · have g16 := g16
              have J63 : ∀ (tw : Bool) (t0 : decide (yy.tableNames x.pile = 6) = tw), ∀ (H : Heap) (locs : List Loc) (ls : Array Slot) (hP : va_P D vwCl (MW dA h ad yy) H) (hD : va_D A (MW dA h ad yy)) (hS : va_S A s.heap H locs) (hl : lv_has ls 7 [(2, .int (bI b)), (1, .int (nI x.pile)), (0, .ref h)]), W p l e ({ frames := 5, cells := 0, slots := 0, locals := 88 } : Room) s m ([.ref h] : List Value).toArray below meth c H locs 0 0 (MQ below (va_Qi (fun (r9 : Int32) (u9 : MS) => r9 = bI (x.byF).1 ∧ u9 = (x.byF).2) (fun (u9 : MS) t9 => bW D A (MW dA h ad u9) t9) A) ([.ref h] : List Value).toArray s 0 0 A) (F0 m 63 ls [.int (bI tw)]) := by
                intro tw t0 H locs ls hP hD hS hl
                refine lv_istore_n hx hb d_M_by_63 rfl hl (by decide) rfl (fun ls hl => ?_)
                have hl : lv_has ls 7 [(3, .int (bI tw)), (2, .int (bI b)), (1, .int (nI x.pile)), (0, .ref h)] := hl
                have J200 : ∀ (tw : Bool) (t9 : yy.byT x.pile = tw), ∀ (H : Heap) (locs : List Loc) (ls : Array Slot) (hP : va_P D vwCl (MW dA h ad yy) H) (hD : va_D A (MW dA h ad yy)) (hS : va_S A s.heap H locs) (hl : lv_has ls 7 [(3, .int (bI tw)), (2, .int (bI b)), (1, .int (nI x.pile)), (0, .ref h)]), W p l e ({ frames := 5, cells := 0, slots := 0, locals := 88 } : Room) s m ([.ref h] : List Value).toArray below meth c H locs 0 0 (MQ below (va_Qi (fun (r9 : Int32) (u9 : MS) => r9 = bI (x.byF).1 ∧ u9 = (x.byF).2) (fun (u9 : MS) t9 => bW D A (MW dA h ad u9) t9) A) ([.ref h] : List Value).toArray s 0 0 A) (F0 m 200 ls []) := by
                  intro tw t9 H locs ls hP hD hS hl
                  refine lv_iload_n hx hb d_M_by_200 rfl (lv_at hl 0 rfl) ?_
                  refine lv_if_eq hx hb d_M_by_201 (tgt := 214) rfl (fun g17 => ?_) (fun g17 => ?_)
                  · have g17 := bI_0 g17
                    have t8 : yy.byT x.pile = false := t9.trans g17
                    have c6 := by_6 t8
                    refine lv_aload_n hx hb d_M_by_214 rfl (lv_at hl 3 rfl) ?_
                    refine gF (v := .ref (ad 49)) hx hb hown hE hK hP 0 rfl rfl layM 49 (by decide) w519 rfl d_M_by_215 ?_
                    refine lv_bipush (v := 6) hx hb d_M_by_218 (by decide) ?_
                    refine lv_iload_n hx hb d_M_by_220 rfl (lv_at hl 2 rfl) ?_
                    refine lv_imul hx hb d_M_by_221 (tpi (y := nI (6 * x.pile)) (pk_mul (6) (x.pile)) ?_)
                    refine lv_aload_n hx hb d_M_by_222 rfl (lv_at hl 3 rfl) ?_
                    refine gF (v := .ref (ad 48)) hx hb hown hE hK hP 0 rfl rfl layM 48 (by decide) w518 rfl d_M_by_223 ?_
                    refine lv_iload_n hx hb d_M_by_226 rfl (lv_at hl 2 rfl) ?_
                    refine nild (f := (fun z9 => nI (yy.tableNames z9))) hx hb hK hP 21 1 rfl rfl (x.pile) (by omega) (by decide) d_M_by_227 ?_
                    refine lv_iadd hx hb d_M_by_228 (tpi (y := nI ((6 * x.pile) + (yy.tableNames x.pile))) (nI_add (6 * x.pile) (yy.tableNames x.pile)) ?_)
                    refine lv_aload_n hx hb d_M_by_229 rfl (lv_at hl 3 rfl) ?_
                    refine gF (v := .int (nI yy.frm)) hx hb hown hE hK hP 0 rfl rfl layM 45 (by decide) w464 rfl d_M_by_230 ?_
                    refine nistN (v := yy.frm) hx hb hK hP hD hS 22 1 rfl rfl ((6 * x.pile) + (yy.tableNames x.pile)) (by omega) (by decide) d_M_by_233 (fun H locs hP hD hS => ?_)
                    have hP : va_P D vwCl (MW dA h ad (MS.s_nameFroms yy (va_up yy.nameFroms ((6 * x.pile) + (yy.tableNames x.pile)) yy.frm))) H := hP
                    have hD : va_D A (MW dA h ad (MS.s_nameFroms yy (va_up yy.nameFroms ((6 * x.pile) + (yy.tableNames x.pile)) yy.frm))) := hD
                    refine lv_aload_n hx hb d_M_by_234 rfl (lv_at hl 3 rfl) ?_
                    refine gF (v := .ref (ad 50)) hx hb hown hE hK hP 0 rfl rfl layM 50 (by decide) w520 rfl d_M_by_235 ?_
                    refine lv_bipush (v := 6) hx hb d_M_by_238 (by decide) ?_
                    refine lv_iload_n hx hb d_M_by_240 rfl (lv_at hl 2 rfl) ?_
                    refine lv_imul hx hb d_M_by_241 (tpi (y := nI (6 * x.pile)) (pk_mul (6) (x.pile)) ?_)
                    refine lv_aload_n hx hb d_M_by_242 rfl (lv_at hl 3 rfl) ?_
                    refine gF (v := .ref (ad 48)) hx hb hown hE hK hP 0 rfl rfl layM 48 (by decide) w518 rfl d_M_by_243 ?_
                    refine lv_iload_n hx hb d_M_by_246 rfl (lv_at hl 2 rfl) ?_
                    refine nild (f := (fun z9 => nI (yy.tableNames z9))) hx hb hK hP 21 1 rfl rfl (x.pile) (by omega) (by decide) d_M_by_247 ?_
                    refine lv_iadd hx hb d_M_by_248 (tpi (y := nI ((6 * x.pile) + (yy.tableNames x.pile))) (nI_add (6 * x.pile) (yy.tableNames x.pile)) ?_)
                    refine lv_aload_n hx hb d_M_by_249 rfl (lv_at hl 3 rfl) ?_
                    refine gF (v := .int (nI yy.too)) hx hb hown hE hK hP 0 rfl rfl layM 46 (by decide) w463 rfl d_M_by_250 ?_
                    refine lv_aload_n hx hb d_M_by_253 rfl (lv_at hl 3 rfl) ?_
                    refine gF (v := .int (nI yy.frm)) hx hb hown hE hK hP 0 rfl rfl layM 45 (by decide) w464 rfl d_M_by_254 ?_
                    refine lv_isub hx hb d_M_by_257 (tpi (y := nI (yy.too - yy.frm)) (pk_sub (a := yy.too) (b := yy.frm) (by omega)) ?_)
                    refine nistN (v := yy.too - yy.frm) hx hb hK hP hD hS 23 1 rfl rfl ((6 * x.pile) + (yy.tableNames x.pile)) (by omega) (by decide) d_M_by_258 (fun H locs hP hD hS => ?_)
                    have hP : va_P D vwCl (MW dA h ad (MS.s_nameLengths (MS.s_nameFroms yy (va_up yy.nameFroms ((6 * x.pile) + (yy.tableNames x.pile)) yy.frm)) (va_up yy.nameLengths ((6 * x.pile) + (yy.tableNames x.pile)) (yy.too - yy.frm)))) H := hP
                    have hD : va_D A (MW dA h ad (MS.s_nameLengths (MS.s_nameFroms yy (va_up yy.nameFroms ((6 * x.pile) + (yy.tableNames x.pile)) yy.frm)) (va_up yy.nameLengths ((6 * x.pile) + (yy.tableNames x.pile)) (yy.too - yy.frm)))) := hD
                    refine lv_aload_n hx hb d_M_by_259 rfl (lv_at hl 3 rfl) ?_
                    refine gF (v := .ref (ad 48)) hx hb hown hE hK hP 0 rfl rfl layM 48 (by decide) w518 rfl d_M_by_260 ?_
                    refine lv_iload_n hx hb d_M_by_263 rfl (lv_at hl 2 rfl) ?_
                    refine lv_dup2_11 hx hb d_M_by_264 rfl rfl ?_
                    refine nild (f := (fun z9 => nI (yy.tableNames z9))) hx hb hK hP 21 1 rfl rfl (x.pile) (by omega) (by decide) d_M_by_265 ?_
                    refine lv_iconst (v := 1) hx hb d_M_by_266 (by decide) ?_
                    refine lv_iadd hx hb d_M_by_267 (tpi (y := nI (yy.tableNames x.pile + 1)) (nI_add (yy.tableNames x.pile) (1)) ?_)
                    refine nistN (v := yy.tableNames x.pile + 1) hx hb hK hP hD hS 21 1 rfl rfl (x.pile) (by omega) (by decide) d_M_by_268 (fun H locs hP hD hS => ?_)
                    have hP : va_P D vwCl (MW dA h ad (MS.s_nameLengths (MS.s_nameFroms (MS.s_tableNames yy (va_up yy.tableNames x.pile (yy.tableNames x.pile + 1))) (va_up yy.nameFroms ((6 * x.pile) + (yy.tableNames x.pile)) yy.frm)) (va_up yy.nameLengths ((6 * x.pile) + (yy.tableNames x.pile)) (yy.too - yy.frm)))) H := hP
                    have hD : va_D A (MW dA h ad (MS.s_nameLengths (MS.s_nameFroms (MS.s_tableNames yy (va_up yy.tableNames x.pile (yy.tableNames x.pile + 1))) (va_up yy.nameFroms ((6 * x.pile) + (yy.tableNames x.pile)) yy.frm)) (va_up yy.nameLengths ((6 * x.pile) + (yy.tableNames x.pile)) (yy.too - yy.frm)))) := hD
                    refine lv_aload_n hx hb d_M_by_269 rfl (lv_at hl 3 rfl) ?_
                    refine jfI (rnV (As := []) (rest := []) hx hb hml hown hE hK (hN _ _ hS) hP hD (k_next l D dA H.size h ad (MS.s_nameLengths (MS.s_nameFroms (MS.s_tableNames yy (va_up yy.tableNames x.pile (yy.tableNames x.pile + 1))) (va_up yy.nameFroms ((6 * x.pile) + (yy.tableNames x.pile)) yy.frm)) (va_up yy.nameLengths ((6 * x.pile) + (yy.tableNames x.pile)) (yy.too - yy.frm))) i2.1 i2.2.2.1 i2.2.2.2) (q0 := 0) rfl rfl w480 w479 w481 w482 w328 rfl rfl ⟨⟨by decide, by decide⟩, rfl⟩ ⟨(Nat.le_of_ble_eq_true rfl), (Nat.le_of_ble_eq_true rfl)⟩ rfl hl.1 rfl (Nat.le_of_ble_eq_true rfl) d_M_by_270 ⟨(Nat.le_of_ble_eq_true rfl), (Nat.le_of_ble_eq_true rfl)⟩) hP hD hS hA (fun r18 u19 H locs hp9 hP hD hS => ?_)
                    obtain ⟨y20, h9u⟩ : ∃ z9, z9 = u19 := ⟨_, rfl⟩
                    subst h9u
                    have hP : va_P D vwCl (MW dA h ad y20) H := hP
                    have hD : va_D A (MW dA h ad y20) := hD
                    obtain ⟨hp9, f_e_21⟩ := hp9
                    replace hp9 : bI ((MS.s_nameLengths (MS.s_nameFroms (MS.s_tableNames yy (va_up yy.tableNames x.pile (yy.tableNames x.pile + 1))) (va_up yy.nameFroms ((6 * x.pile) + (yy.tableNames x.pile)) yy.frm)) (va_up yy.nameLengths ((6 * x.pile) + (yy.tableNames x.pile)) (yy.too - yy.frm))).nx).1 = r18 := Eq.symm hp9
                    subst hp9
                    refine lv_if_ne hx hb d_M_by_273 (tgt := 278) rfl (fun g22 => ?_) (fun g22 => ?_)
                    · have g22 := bI_n0 g22
                      have ga3 : (yy.adS x.pile).nx.1 = true := g22
                      have l3 : y20.lx := by rw [f_e_21]; exact (nx_in (lx_ad i2) ga3).1
                      have n3 : y20.nmT x.pile := by rw [f_e_21]; exact nmT_tk (tk_nx _) (nmT_ad i3 i2.2.1 i2.2.2.1)
                      have c3 : y20.tableNames x.pile = yy.tableNames x.pile + 1 := by rw [f_e_21]; exact (tk_tn (tk_nx _) _).trans (tn_ad _ _)
                      refine lv_aload_n hx hb d_M_by_278 rfl (lv_at hl 3 rfl) ?_
                      refine gF (v := .int y20.kind) hx hb hown hE hK hP 0 rfl rfl layM 44 (by decide) w469 rfl d_M_by_279 ?_
                      refine lv_bipush (v := 44) hx hb d_M_by_282 (by decide) ?_
                      refine lv_icmp_ne hx hb d_M_by_284 (tgt := 291) rfl (fun g23 => ?_) (fun g23 => ?_)
                      · have g23 := g23
                        refine lv_iconst (v := 0) hx hb d_M_by_291 (by decide) ?_
                        refine lv_istore_n hx hb d_M_by_292 rfl hl (by decide) rfl (fun ls hl => ?_)
                        have hl : lv_has ls 7 [(2, .int 0), (3, .int (bI tw)), (1, .int (nI x.pile)), (0, .ref h)] := hl
                        refine lv_iload_n hx hb d_M_by_293 rfl (lv_at hl 0 rfl) ?_
                        refine lv_if_eq hx hb d_M_by_294 (tgt := 306) rfl (fun _ => ?_) (fun h9 => absurd (by decide) h9)
                        refine lv_goto hx hb d_M_by_306 (tgt := 25) rfl ?_
                        exact ih25 _ (by omega) y20 false (w - 1) (i1b.trans ((by_e (by omega) g16 t8 ga3 f_e_21 g23).trans (if_neg (by decide)).symm)) l3 n3 (by omega) (fun z9 => Bool.noConfusion z9) rfl H _ ls hP hD hS (lv_sub hl [0, 2, 3] rfl)
                      · have g23 := g23
                        refine lv_iconst (v := 1) hx hb d_M_by_287 (by decide) ?_
                        refine lv_goto hx hb d_M_by_288 (tgt := 292) rfl ?_
                        refine lv_istore_n hx hb d_M_by_292 rfl hl (by decide) rfl (fun ls hl => ?_)
                        have hl : lv_has ls 7 [(2, .int 1), (3, .int (bI tw)), (1, .int (nI x.pile)), (0, .ref h)] := hl
                        refine lv_iload_n hx hb d_M_by_293 rfl (lv_at hl 0 rfl) ?_
                        refine lv_if_eq hx hb d_M_by_294 (tgt := 306) rfl (fun h9 => absurd h9 (by decide)) (fun _ => ?_)
                        refine lv_aload_n hx hb d_M_by_297 rfl (lv_at hl 3 rfl) ?_
                        refine jfI (rnV (As := []) (rest := []) hx hb hml hown hE hK (hN _ _ hS) hP hD (k_next l D dA H.size h ad y20 l3.1 l3.2.2.1 l3.2.2.2) (q0 := 0) rfl rfl w480 w479 w481 w482 w328 rfl rfl ⟨⟨by decide, by decide⟩, rfl⟩ ⟨(Nat.le_of_ble_eq_true rfl), (Nat.le_of_ble_eq_true rfl)⟩ rfl hl.1 rfl (Nat.le_of_ble_eq_true rfl) d_M_by_298 ⟨(Nat.le_of_ble_eq_true rfl), (Nat.le_of_ble_eq_true rfl)⟩) hP hD hS hA (fun r24 u25 H locs hp9 hP hD hS => ?_)
                        obtain ⟨y26, h9u⟩ : ∃ z9, z9 = u25 := ⟨_, rfl⟩
                        subst h9u
                        have hP : va_P D vwCl (MW dA h ad y26) H := hP
                        have hD : va_D A (MW dA h ad y26) := hD
                        obtain ⟨hp9, f_e_27⟩ := hp9
                        replace hp9 : bI (y20.nx).1 = r24 := Eq.symm hp9
                        subst hp9
                        refine lv_if_ne hx hb d_M_by_301 (tgt := 306) rfl (fun g28 => ?_) (fun g28 => ?_)
                        · have g28 := bI_n0 g28
                          refine lv_goto hx hb d_M_by_306 (tgt := 25) rfl ?_
                          exact ih25 _ (by omega) y26 true (w - 1) (i1b.trans ((by_m (by omega) g16 t8 ga3 f_e_21 g23 g28 f_e_27).trans (if_pos rfl).symm)) (by rw [f_e_27]; exact (nx_in l3 g28).1) (by rw [f_e_27]; exact nmT_tk (tk_nx _) n3) (by rw [f_e_27, tk_tn (tk_nx _)]; omega) (fun _ => by rw [f_e_27, tk_tn (tk_nx _)]; omega) rfl H _ ls hP hD hS (lv_sub hl [0, 2, 3] rfl)
                        · have g28 := bI_0 g28
                          refine lv_iconst (v := 0) hx hb d_M_by_304 (by decide) ?_
                          exact rfZ hx hb hr (bI_nar false) hlk hS y26 (by rw [i1b, by_mn (by omega) g16 t8 ga3 f_e_21 g23 g28]; exact ⟨rfl, f_e_27⟩) hP hD (Nat.le_of_ble_eq_true rfl) (Nat.le_of_ble_eq_true rfl) d_M_by_305
                    · have g22 := bI_0 g22
                      refine lv_iconst (v := 0) hx hb d_M_by_276 (by decide) ?_
                      exact rfZ hx hb hr (bI_nar false) hlk hS y20 (by rw [i1b, by_n (by omega) g16 t8 g22]; exact ⟨rfl, f_e_21⟩) hP hD (Nat.le_of_ble_eq_true rfl) (Nat.le_of_ble_eq_true rfl) d_M_by_277
                  · have g17 := bI_n0 g17
                    refine lv_aload_n hx hb d_M_by_204 rfl (lv_at hl 3 rfl) ?_
                    refine lv_iconst (v := 4) hx hb d_M_by_205 (by decide) ?_
                    refine lv_aload_n hx hb d_M_by_206 rfl (lv_at hl 3 rfl) ?_
                    refine gF (v := .int (nI yy.frm)) hx hb hown hE hK hP 0 rfl rfl layM 45 (by decide) w464 rfl d_M_by_207 ?_
                    refine jfI (rnV (As := [.int 4, .int (nI yy.frm)]) (rest := []) hx hb hml hown hE hK (hN _ _ hS) hP hD (k_flaw_0 l D dA H.size h ad yy 4 (nI yy.frm) i2.2.2.2) (q0 := 0) rfl rfl w431 w430 w432 w433 w328 rfl rfl ⟨⟨by decide, by decide⟩, rfl⟩ ⟨(Nat.le_of_ble_eq_true rfl), (Nat.le_of_ble_eq_true rfl)⟩ rfl hl.1 rfl (Nat.le_of_ble_eq_true rfl) d_M_by_210 ⟨(Nat.le_of_ble_eq_true rfl), (Nat.le_of_ble_eq_true rfl)⟩) hP hD hS hA (fun r29 u30 H locs hp9 hP hD hS => ?_)
                    have hP : va_P D vwCl (MW dA h ad (MS.s_faultPlace (MS.s_faultCode yy 4) (nI yy.frm))) H := hP
                    have hD : va_D A (MW dA h ad (MS.s_faultPlace (MS.s_faultCode yy 4) (nI yy.frm))) := hD
                    replace hp9 : bI false = r29 := Eq.symm hp9
                    subst hp9
                    exact rfZ hx hb hr (bI_nar false) hlk hS (MS.s_faultPlace (MS.s_faultCode yy 4) (nI yy.frm)) (by rw [i1b, by_4 (by omega) g16 (t9.trans g17)]; exact ⟨rfl, rfl⟩) hP hD (Nat.le_of_ble_eq_true rfl) (Nat.le_of_ble_eq_true rfl) d_M_by_213
                refine lv_iconst (v := 0) hx hb d_M_by_64 (by decide) ?_
                refine lv_istore hx hb d_M_by_65 hl (by decide) rfl (fun ls hl => ?_)
                have hl : lv_has ls 7 [(4, .int 0), (3, .int (bI tw)), (2, .int (bI b)), (1, .int (nI x.pile)), (0, .ref h)] := hl
                have L67 : ∀ (k9 : Nat) (k : Nat) (tw : Bool) (k1 : k ≤ yy.tableNames x.pile) (k2 : (decide (yy.tableNames x.pile = 6) || anyB k (yy.nmQ x.pile)) = tw) (hk9 : yy.tableNames x.pile - k = k9), ∀ (H : Heap) (locs : List Loc) (ls : Array Slot) (hP : va_P D vwCl (MW dA h ad yy) H) (hD : va_D A (MW dA h ad yy)) (hS : va_S A s.heap H locs) (hl : lv_has ls 7 [(4, .int (nI k)), (3, .int (bI tw)), (2, .int (bI b)), (1, .int (nI x.pile)), (0, .ref h)]), W p l e ({ frames := 5, cells := 0, slots := 0, locals := 88 } : Room) s m ([.ref h] : List Value).toArray below meth c H locs 0 0 (MQ below (va_Qi (fun (r9 : Int32) (u9 : MS) => r9 = bI (x.byF).1 ∧ u9 = (x.byF).2) (fun (u9 : MS) t9 => bW D A (MW dA h ad u9) t9) A) ([.ref h] : List Value).toArray s 0 0 A) (F0 m 67 ls []) := by
                  intro k9
                  induction k9 using Nat.strongRecOn with
                  | ind k9 ih67 =>
                    intro k tw k1 k2 hk9 H locs ls hP hD hS hl
                    refine lv_iload hx hb d_M_by_67 (lv_at hl 0 rfl) ?_
                    refine lv_aload_n hx hb d_M_by_69 rfl (lv_at hl 4 rfl) ?_
                    refine gF (v := .ref (ad 48)) hx hb hown hE hK hP 0 rfl rfl layM 48 (by decide) w518 rfl d_M_by_70 ?_
                    refine lv_iload_n hx hb d_M_by_73 rfl (lv_at hl 3 rfl) ?_
                    refine nild (f := (fun z9 => nI (yy.tableNames z9))) hx hb hK hP 21 1 rfl rfl (x.pile) (by omega) (by decide) d_M_by_74 ?_
                    refine lv_icmp_ge hx hb d_M_by_75 (tgt := 200) rfl (fun g31 => ?_) (fun g31 => ?_)
                    · have g31 := (nI_leI (a := yy.tableNames x.pile) (b := k) (by omega) (by omega)).mp g31
                      exact J200 tw (by rw [show k = yy.tableNames x.pile by omega] at k2; exact k2) H _ ls hP hD hS (lv_sub hl [1, 2, 3, 4] rfl)
                    · have g31 := mt (nI_leI (a := yy.tableNames x.pile) (b := k) (by omega) (by omega)).mpr g31
                      have J107 : ∀ (sm : Bool) (s0 : decide (yy.nameLengths ((6 * x.pile) + k) = yy.too - yy.frm) = sm), ∀ (H : Heap) (locs : List Loc) (ls : Array Slot) (hP : va_P D vwCl (MW dA h ad yy) H) (hD : va_D A (MW dA h ad yy)) (hS : va_S A s.heap H locs) (hl : lv_has ls 7 [(4, .int (nI k)), (3, .int (bI tw)), (2, .int (bI b)), (1, .int (nI x.pile)), (0, .ref h)]), W p l e ({ frames := 5, cells := 0, slots := 0, locals := 88 } : Room) s m ([.ref h] : List Value).toArray below meth c H locs 0 0 (MQ below (va_Qi (fun (r9 : Int32) (u9 : MS) => r9 = bI (x.byF).1 ∧ u9 = (x.byF).2) (fun (u9 : MS) t9 => bW D A (MW dA h ad u9) t9) A) ([.ref h] : List Value).toArray s 0 0 A) (F0 m 107 ls [.int (bI sm)]) := by
                        intro sm s0 H locs ls hP hD hS hl
                        have nk : yy.nameFroms (6 * x.pile + k) + yy.nameLengths (6 * x.pile + k) ≤ yy.length := i3 k (by omega)
                        refine lv_istore hx hb d_M_by_107 hl (by decide) rfl (fun ls hl => ?_)
                        have hl : lv_has ls 7 [(5, .int (bI sm)), (4, .int (nI k)), (3, .int (bI tw)), (2, .int (bI b)), (1, .int (nI x.pile)), (0, .ref h)] := hl
                        have J179 : ∀ (sm : Bool) (q5 : yy.nmQ x.pile k = sm), ∀ (H : Heap) (locs : List Loc) (ls : Array Slot) (hP : va_P D vwCl (MW dA h ad yy) H) (hD : va_D A (MW dA h ad yy)) (hS : va_S A s.heap H locs) (hl : lv_has ls 7 [(5, .int (bI sm)), (4, .int (nI k)), (3, .int (bI tw)), (2, .int (bI b)), (1, .int (nI x.pile)), (0, .ref h)]), W p l e ({ frames := 5, cells := 0, slots := 0, locals := 88 } : Room) s m ([.ref h] : List Value).toArray below meth c H locs 0 0 (MQ below (va_Qi (fun (r9 : Int32) (u9 : MS) => r9 = bI (x.byF).1 ∧ u9 = (x.byF).2) (fun (u9 : MS) t9 => bW D A (MW dA h ad u9) t9) A) ([.ref h] : List Value).toArray s 0 0 A) (F0 m 179 ls []) := by
                          intro sm q5 H locs ls hP hD hS hl
                          have J193 : ∀ (u2 : Bool) (t5 : (tw || sm) = u2), ∀ (H : Heap) (locs : List Loc) (ls : Array Slot) (hP : va_P D vwCl (MW dA h ad yy) H) (hD : va_D A (MW dA h ad yy)) (hS : va_S A s.heap H locs) (hl : lv_has ls 7 [(4, .int (nI k)), (2, .int (bI b)), (1, .int (nI x.pile)), (0, .ref h)]), W p l e ({ frames := 5, cells := 0, slots := 0, locals := 88 } : Room) s m ([.ref h] : List Value).toArray below meth c H locs 0 0 (MQ below (va_Qi (fun (r9 : Int32) (u9 : MS) => r9 = bI (x.byF).1 ∧ u9 = (x.byF).2) (fun (u9 : MS) t9 => bW D A (MW dA h ad u9) t9) A) ([.ref h] : List Value).toArray s 0 0 A) (F0 m 193 ls [.int (bI u2)]) := by
                            intro u2 t5 H locs ls hP hD hS hl
                            refine lv_istore_n hx hb d_M_by_193 rfl hl (by decide) rfl (fun ls hl => ?_)
                            have hl : lv_has ls 7 [(3, .int (bI u2)), (4, .int (nI k)), (2, .int (bI b)), (1, .int (nI x.pile)), (0, .ref h)] := hl
                            refine lv_iinc (k := 1) (v := nI (k + 1)) hx hb d_M_by_194 hl rfl (iincN (k) 1 1 (by decide)) (by decide) rfl (fun ls hl => ?_)
                            have hl : lv_has ls 7 [(4, .int (nI (k + 1))), (3, .int (bI u2)), (2, .int (bI b)), (1, .int (nI x.pile)), (0, .ref h)] := hl
                            refine lv_goto hx hb d_M_by_197 (tgt := 67) rfl ?_
                            exact ih67 _ (by omega) (k + 1) u2 (by omega) ((or_tw k2 sm q5).trans t5) rfl H _ ls hP hD hS (lv_sub hl [0, 1, 2, 3, 4] rfl)
                          refine lv_iload_n hx hb d_M_by_179 rfl (lv_at hl 2 rfl) ?_
                          refine lv_if_ne hx hb d_M_by_180 (tgt := 188) rfl (fun g32 => ?_) (fun g32 => ?_)
                          · have g32 := bI_n0 g32
                            refine lv_iconst (v := 1) hx hb d_M_by_188 (by decide) ?_
                            refine lv_goto hx hb d_M_by_189 (tgt := 193) rfl ?_
                            exact J193 true (by rw [g32]; rfl) H _ ls hP hD hS (lv_sub hl [1, 3, 4, 5] rfl)
                          · have g32 := bI_0 g32
                            refine lv_iload hx hb d_M_by_183 (lv_at hl 0 rfl) ?_
                            refine lv_if_eq hx hb d_M_by_185 (tgt := 192) rfl (fun g33 => ?_) (fun g33 => ?_)
                            · have g33 := bI_0 g33
                              refine lv_iconst (v := 0) hx hb d_M_by_192 (by decide) ?_
                              exact J193 false (by rw [g32, g33]; rfl) H _ ls hP hD hS (lv_sub hl [1, 3, 4, 5] rfl)
                            · have g33 := bI_n0 g33
                              refine lv_iconst (v := 1) hx hb d_M_by_188 (by decide) ?_
                              refine lv_goto hx hb d_M_by_189 (tgt := 193) rfl ?_
                              exact J193 true (by rw [g32, g33]; rfl) H _ ls hP hD hS (lv_sub hl [1, 3, 4, 5] rfl)
                        refine lv_iconst (v := 0) hx hb d_M_by_109 (by decide) ?_
                        refine lv_istore hx hb d_M_by_110 hl (by decide) rfl (fun ls hl => ?_)
                        have hl : lv_has ls 7 [(6, .int 0), (5, .int (bI sm)), (4, .int (nI k)), (3, .int (bI tw)), (2, .int (bI b)), (1, .int (nI x.pile)), (0, .ref h)] := hl
                        have L112 : ∀ (k9 : Nat) (j : Nat) (sm : Bool) (m1 : j ≤ yy.too - yy.frm) (m2 : (decide (yy.nameLengths ((6 * x.pile) + k) = yy.too - yy.frm) && allB j (txEq yy.tape yy.tape (yy.nameFroms ((6 * x.pile) + k)) yy.frm)) = sm) (hk9 : yy.too - yy.frm - j = k9), ∀ (H : Heap) (locs : List Loc) (ls : Array Slot) (hP : va_P D vwCl (MW dA h ad yy) H) (hD : va_D A (MW dA h ad yy)) (hS : va_S A s.heap H locs) (hl : lv_has ls 7 [(6, .int (nI j)), (5, .int (bI sm)), (4, .int (nI k)), (3, .int (bI tw)), (2, .int (bI b)), (1, .int (nI x.pile)), (0, .ref h)]), W p l e ({ frames := 5, cells := 0, slots := 0, locals := 88 } : Room) s m ([.ref h] : List Value).toArray below meth c H locs 0 0 (MQ below (va_Qi (fun (r9 : Int32) (u9 : MS) => r9 = bI (x.byF).1 ∧ u9 = (x.byF).2) (fun (u9 : MS) t9 => bW D A (MW dA h ad u9) t9) A) ([.ref h] : List Value).toArray s 0 0 A) (F0 m 112 ls []) := by
                          intro k9
                          induction k9 using Nat.strongRecOn with
                          | ind k9 ih112 =>
                            intro j sm m1 m2 hk9 H locs ls hP hD hS hl
                            refine lv_iload hx hb d_M_by_112 (lv_at hl 0 rfl) ?_
                            refine lv_aload_n hx hb d_M_by_114 rfl (lv_at hl 6 rfl) ?_
                            refine gF (v := .int (nI yy.too)) hx hb hown hE hK hP 0 rfl rfl layM 46 (by decide) w463 rfl d_M_by_115 ?_
                            refine lv_aload_n hx hb d_M_by_118 rfl (lv_at hl 6 rfl) ?_
                            refine gF (v := .int (nI yy.frm)) hx hb hown hE hK hP 0 rfl rfl layM 45 (by decide) w464 rfl d_M_by_119 ?_
                            refine lv_isub hx hb d_M_by_122 (tpi (y := nI (yy.too - yy.frm)) (pk_sub (a := yy.too) (b := yy.frm) (by omega)) ?_)
                            refine lv_icmp_ge hx hb d_M_by_123 (tgt := 179) rfl (fun g34 => ?_) (fun g34 => ?_)
                            · have g34 := (nI_leI (a := yy.too - yy.frm) (b := j) (by omega) (by omega)).mp g34
                              exact J179 sm (and_end m1 m2 (Or.inl (by omega))) H _ ls hP hD hS (lv_sub hl [1, 2, 3, 4, 5, 6] rfl)
                            · have g34 := mt (nI_leI (a := yy.too - yy.frm) (b := j) (by omega) (by omega)).mpr g34
                              refine lv_iload hx hb d_M_by_126 (lv_at hl 1 rfl) ?_
                              refine lv_if_eq hx hb d_M_by_128 (tgt := 179) rfl (fun g35 => ?_) (fun g35 => ?_)
                              · have g35 := bI_0 g35
                                exact J179 sm (and_end m1 m2 (Or.inr g35)) H _ ls hP hD hS (lv_sub hl [1, 2, 3, 4, 5, 6] rfl)
                              · have g35 := bI_n0 g35
                                have l5 : yy.nameLengths (6 * x.pile + k) = yy.too - yy.frm := of_decide_eq_true (and_l m2 g35)
                                refine lv_aload_n hx hb d_M_by_131 rfl (lv_at hl 6 rfl) ?_
                                refine gF (v := .ref (ad 1)) hx hb hown hE hK hP 0 rfl rfl layM 1 (by decide) w497 rfl d_M_by_132 ?_
                                refine lv_aload_n hx hb d_M_by_135 rfl (lv_at hl 6 rfl) ?_
                                refine gF (v := .ref (ad 49)) hx hb hown hE hK hP 0 rfl rfl layM 49 (by decide) w519 rfl d_M_by_136 ?_
                                refine lv_bipush (v := 6) hx hb d_M_by_139 (by decide) ?_
                                refine lv_iload_n hx hb d_M_by_141 rfl (lv_at hl 5 rfl) ?_
                                refine lv_imul hx hb d_M_by_142 (tpi (y := nI (6 * x.pile)) (pk_mul (6) (x.pile)) ?_)
                                refine lv_iload hx hb d_M_by_143 (lv_at hl 2 rfl) ?_
                                refine lv_iadd hx hb d_M_by_145 (tpi (y := nI ((6 * x.pile) + k)) (nI_add (6 * x.pile) (k)) ?_)
                                refine nild (f := (fun z9 => nI (yy.nameFroms z9))) hx hb hK hP 22 1 rfl rfl ((6 * x.pile) + k) (by omega) (by decide) d_M_by_146 ?_
                                refine lv_iload hx hb d_M_by_147 (lv_at hl 0 rfl) ?_
                                refine lv_iadd hx hb d_M_by_149 (tpi (y := nI ((yy.nameFroms ((6 * x.pile) + k)) + j)) (nI_add (yy.nameFroms ((6 * x.pile) + k)) (j)) ?_)
                                refine nbld (f := yy.tape) hx hb hK hP 1 0 rfl rfl ((yy.nameFroms ((6 * x.pile) + k)) + j) (by omega) (by decide) d_M_by_150 ?_
                                refine lv_aload_n hx hb d_M_by_151 rfl (lv_at hl 6 rfl) ?_
                                refine gF (v := .ref (ad 1)) hx hb hown hE hK hP 0 rfl rfl layM 1 (by decide) w497 rfl d_M_by_152 ?_
                                refine lv_aload_n hx hb d_M_by_155 rfl (lv_at hl 6 rfl) ?_
                                refine gF (v := .int (nI yy.frm)) hx hb hown hE hK hP 0 rfl rfl layM 45 (by decide) w464 rfl d_M_by_156 ?_
                                refine lv_iload hx hb d_M_by_159 (lv_at hl 0 rfl) ?_
                                refine lv_iadd hx hb d_M_by_161 (tpi (y := nI (yy.frm + j)) (nI_add (yy.frm) (j)) ?_)
                                refine nbld (f := yy.tape) hx hb hK hP 1 0 rfl rfl (yy.frm + j) (by omega) (by decide) d_M_by_162 ?_
                                refine lv_icmp_ne hx hb d_M_by_163 (tgt := 170) rfl (fun g36 => ?_) (fun g36 => ?_)
                                · have g36 := g36
                                  refine lv_iconst (v := 0) hx hb d_M_by_170 (by decide) ?_
                                  refine lv_istore hx hb d_M_by_171 hl (by decide) rfl (fun ls hl => ?_)
                                  have hl : lv_has ls 7 [(5, .int 0), (6, .int (nI j)), (4, .int (nI k)), (3, .int (bI tw)), (2, .int (bI b)), (1, .int (nI x.pile)), (0, .ref h)] := hl
                                  refine lv_iinc (k := 1) (v := nI (j + 1)) hx hb d_M_by_173 hl rfl (iincN (j) 1 1 (by decide)) (by decide) rfl (fun ls hl => ?_)
                                  have hl : lv_has ls 7 [(6, .int (nI (j + 1))), (5, .int 0), (4, .int (nI k)), (3, .int (bI tw)), (2, .int (bI b)), (1, .int (nI x.pile)), (0, .ref h)] := hl
                                  refine lv_goto hx hb d_M_by_176 (tgt := 112) rfl ?_
                                  exact ih112 _ (by omega) (j + 1) false (by omega) (by rw [allB_s, ← Bool.and_assoc, m2, g35]; exact decide_eq_false g36) rfl H _ ls hP hD hS (lv_sub hl [0, 1, 2, 3, 4, 5, 6] rfl)
                                · have g36 := g36
                                  refine lv_iconst (v := 1) hx hb d_M_by_166 (by decide) ?_
                                  refine lv_goto hx hb d_M_by_167 (tgt := 171) rfl ?_
                                  refine lv_istore hx hb d_M_by_171 hl (by decide) rfl (fun ls hl => ?_)
                                  have hl : lv_has ls 7 [(5, .int 1), (6, .int (nI j)), (4, .int (nI k)), (3, .int (bI tw)), (2, .int (bI b)), (1, .int (nI x.pile)), (0, .ref h)] := hl
                                  refine lv_iinc (k := 1) (v := nI (j + 1)) hx hb d_M_by_173 hl rfl (iincN (j) 1 1 (by decide)) (by decide) rfl (fun ls hl => ?_)
                                  have hl : lv_has ls 7 [(6, .int (nI (j + 1))), (5, .int 1), (4, .int (nI k)), (3, .int (bI tw)), (2, .int (bI b)), (1, .int (nI x.pile)), (0, .ref h)] := hl
                                  refine lv_goto hx hb d_M_by_176 (tgt := 112) rfl ?_
                                  exact ih112 _ (by omega) (j + 1) true (by omega) (by rw [allB_s, ← Bool.and_assoc, m2, g35]; exact decide_eq_true g36) rfl H _ ls hP hD hS (lv_sub hl [0, 1, 2, 3, 4, 5, 6] rfl)
                        exact L112 _ 0 sm (Nat.zero_le _) (by rw [s0]; exact Bool.and_true _) rfl H _ ls hP hD hS (lv_sub hl [0, 1, 2, 3, 4, 5, 6] rfl)
                      have nk : yy.nameFroms (6 * x.pile + k) + yy.nameLengths (6 * x.pile + k) ≤ yy.length := i3 k (by omega)
                      refine lv_aload_n hx hb d_M_by_78 rfl (lv_at hl 4 rfl) ?_
                      refine gF (v := .ref (ad 50)) hx hb hown hE hK hP 0 rfl rfl layM 50 (by decide) w520 rfl d_M_by_79 ?_
                      refine lv_bipush (v := 6) hx hb d_M_by_82 (by decide) ?_
                      refine lv_iload_n hx hb d_M_by_84 rfl (lv_at hl 3 rfl) ?_
                      refine lv_imul hx hb d_M_by_85 (tpi (y := nI (6 * x.pile)) (pk_mul (6) (x.pile)) ?_)
                      refine lv_iload hx hb d_M_by_86 (lv_at hl 0 rfl) ?_
                      refine lv_iadd hx hb d_M_by_88 (tpi (y := nI ((6 * x.pile) + k)) (nI_add (6 * x.pile) (k)) ?_)
                      refine nild (f := (fun z9 => nI (yy.nameLengths z9))) hx hb hK hP 23 1 rfl rfl ((6 * x.pile) + k) (by omega) (by decide) d_M_by_89 ?_
                      refine lv_aload_n hx hb d_M_by_90 rfl (lv_at hl 4 rfl) ?_
                      refine gF (v := .int (nI yy.too)) hx hb hown hE hK hP 0 rfl rfl layM 46 (by decide) w463 rfl d_M_by_91 ?_
                      refine lv_aload_n hx hb d_M_by_94 rfl (lv_at hl 4 rfl) ?_
                      refine gF (v := .int (nI yy.frm)) hx hb hown hE hK hP 0 rfl rfl layM 45 (by decide) w464 rfl d_M_by_95 ?_
                      refine lv_isub hx hb d_M_by_98 (tpi (y := nI (yy.too - yy.frm)) (pk_sub (a := yy.too) (b := yy.frm) (by omega)) ?_)
                      refine lv_icmp_ne hx hb d_M_by_99 (tgt := 106) rfl (fun g37 => ?_) (fun g37 => ?_)
                      · have g37 := mt (nI_eq (a := yy.nameLengths ((6 * x.pile) + k)) (b := yy.too - yy.frm) (by omega) (by omega)).mpr g37
                        refine lv_iconst (v := 0) hx hb d_M_by_106 (by decide) ?_
                        exact J107 false (decide_eq_false g37) H _ ls hP hD hS (lv_sub hl [0, 1, 2, 3, 4] rfl)
                      · have g37 := (nI_eq (a := yy.nameLengths ((6 * x.pile) + k)) (b := yy.too - yy.frm) (by omega) (by omega)).mp g37
                        refine lv_iconst (v := 1) hx hb d_M_by_102 (by decide) ?_
                        refine lv_goto hx hb d_M_by_103 (tgt := 107) rfl ?_
                        exact J107 true (decide_eq_true g37) H _ ls hP hD hS (lv_sub hl [0, 1, 2, 3, 4] rfl)
                exact L67 _ 0 tw (Nat.zero_le _) (by rw [t0]; exact Bool.or_false _) rfl H _ ls hP hD hS (lv_sub hl [0, 1, 2, 3, 4] rfl)
              refine lv_aload_n hx hb d_M_by_47 rfl (lv_at hl 2 rfl) ?_
              refine gF (v := .ref (ad 48)) hx hb hown hE hK hP 0 rfl rfl layM 48 (by decide) w518 rfl d_M_by_48 ?_
              refine lv_iload_n hx hb d_M_by_51 rfl (lv_at hl 1 rfl) ?_
              refine nild (f := (fun z9 => nI (yy.tableNames z9))) hx hb hK hP 21 1 rfl rfl (x.pile) (by omega) (by decide) d_M_by_52 ?_
              refine lv_bipush (v := 6) hx hb d_M_by_53 (by decide) ?_
              refine lv_icmp_ne hx hb d_M_by_55 (tgt := 62) rfl (fun g38 => ?_) (fun g38 => ?_)
              · have g38 := mt (nI_eq (a := yy.tableNames x.pile) (b := 6) (by omega) (by omega)).mpr g38
                refine lv_iconst (v := 0) hx hb d_M_by_62 (by decide) ?_
                exact J63 false (decide_eq_false g38) H _ ls hP hD hS (lv_sub hl [0, 1, 2] rfl)
              · have g38 := (nI_eq (a := yy.tableNames x.pile) (b := 6) (by omega) (by omega)).mp g38
                refine lv_iconst (v := 1) hx hb d_M_by_58 (by decide) ?_
                refine lv_goto hx hb d_M_by_59 (tgt := 63) rfl ?_
                exact J63 true (decide_eq_true g38) H _ ls hP hD hS (lv_sub hl [0, 1, 2] rfl)
            · have g16 := g16
              refine lv_aload_n hx hb d_M_by_37 rfl (lv_at hl 2 rfl) ?_
              refine lv_iconst (v := 2) hx hb d_M_by_38 (by decide) ?_
              refine lv_aload_n hx hb d_M_by_39 rfl (lv_at hl 2 rfl) ?_
              refine gF (v := .int (nI yy.frm)) hx hb hown hE hK hP 0 rfl rfl layM 45 (by decide) w464 rfl d_M_by_40 ?_
              refine jfI (rnV (As := [.int 2, .int (nI yy.frm)]) (rest := []) hx hb hml hown hE hK (hN _ _ hS) hP hD (k_flaw_0 l D dA H.size h ad yy 2 (nI yy.frm) i2.2.2.2) (q0 := 0) rfl rfl w431 w430 w432 w433 w328 rfl rfl ⟨⟨by decide, by decide⟩, rfl⟩ ⟨(Nat.le_of_ble_eq_true rfl), (Nat.le_of_ble_eq_true rfl)⟩ rfl hl.1 rfl (Nat.le_of_ble_eq_true rfl) d_M_by_43 ⟨(Nat.le_of_ble_eq_true rfl), (Nat.le_of_ble_eq_true rfl)⟩) hP hD hS hA (fun r39 u40 H locs hp9 hP hD hS => ?_)
              have hP : va_P D vwCl (MW dA h ad (MS.s_faultPlace (MS.s_faultCode yy 2) (nI yy.frm))) H := hP
              have hD : va_D A (MW dA h ad (MS.s_faultPlace (MS.s_faultCode yy 2) (nI yy.frm))) := hD
              replace hp9 : bI false = r39 := Eq.symm hp9
              subst hp9
              exact rfZ hx hb hr (bI_nar false) hlk hS (MS.s_faultPlace (MS.s_faultCode yy 2) (nI yy.frm)) (by rw [i1b, by_k (by omega) g16]; exact ⟨rfl, rfl⟩) hP hD (Nat.le_of_ble_eq_true rfl) (Nat.le_of_ble_eq_true rfl) d_M_by_46
      exact L25 _ y8 true 7 ((byF_2 g5 f_e_4 g10 f_e_9).trans (if_pos rfl).symm) (by rw [f_e_9]; exact (nd_in l1 g10).1) n1 (by rw [n0]; decide) (fun _ => by rw [n0]) rfl H _ ls hP hD hS (lv_sub hl [0, 1, 2] rfl)
    · have g10 := bI_0 g10
      refine lv_iconst (v := 0) hx hb d_M_by_21 (by decide) ?_
      exact rfZ hx hb hr (bI_nar false) hlk hS y8 (by rw [byF_1 g5 f_e_4 g10]; exact ⟨rfl, f_e_9⟩) hP hD (Nat.le_of_ble_eq_true rfl) (Nat.le_of_ble_eq_true rfl) d_M_by_22
end
section
theorem and255 {v : Int32} (h1 : -128 ≤ v.toInt) (h2 : v.toInt ≤ 127) (k : Nat) (hk : k < 128) : v &&& 255 = nI k ↔ v = nI k := by
  have e0 : (v &&& 255).toBitVec.toNat = v.toBitVec.toNat % 256 := by
    show (v.toBitVec &&& 255#32).toNat = _
    rw [BitVec.toNat_and]
    exact Nat.and_two_pow_sub_one_eq_mod v.toBitVec.toNat 8
  have e1 : v.toInt = v.toBitVec.toInt := rfl
  have e2 := BitVec.toInt_eq_toNat_cond v.toBitVec
  have e3 : (nI k).toBitVec.toNat = k := by
    show (BitVec.ofNat 32 k).toNat = k
    rw [BitVec.toNat_ofNat]
    omega
  have e4 := v.toBitVec.isLt
  constructor
  · intro h
    have h3 := congrArg (fun z => z.toBitVec.toNat) h
    simp only [e0, e3] at h3
    apply Int32.toBitVec_inj.mp
    apply BitVec.eq_of_toNat_eq
    rw [e3]
    split at e2 <;> omega
  · intro h
    have h3 : v.toBitVec.toNat = k := by rw [h]; exact e3
    apply Int32.toBitVec_inj.mp
    apply BitVec.eq_of_toNat_eq
    rw [e0, e3, h3]
    omega
theorem byteF_r {f : Nat → Int32} (h : byteF f) (q : Nat) : -128 ≤ (f q).toInt ∧ (f q).toInt ≤ 127 := by
  rw [← h q]
  have h1 := Int8.le_toInt (f q).toInt8
  have h2 := Int8.toInt_lt (f q).toInt8
  rw [Int8.toInt_toInt32]
  omega
theorem at_32 {f : Nat → Int32} (h : byteF f) {len q : Nat} (hq : ¬ len ≤ q) : atI f len q = 32 ↔ f q = 32 := by
  have h1 := byteF_r h q
  have := and255 h1.1 h1.2 32 (by decide)
  rw [show atI f len q = f q &&& 255 from if_neg hq]
  exact this
theorem sk_eq {f : Nat → Int32} (h : byteF f) {len : Nat} : ∀ {w q : Nat}, skG f len w q = skA f len w q
  | 0, q => rfl
  | w + 1, q => by
    show (if len ≤ q then q else if f q = 32 then skG f len w (q + 1) else q) = (if atI f len q = 32 then skA f len w (q + 1) else q)
    by_cases g : len ≤ q
    · rw [if_pos g, if_neg (by rw [show atI f len q = 0 from if_pos g]; decide)]
    · rw [if_neg g]
      by_cases g2 : f q = 32
      · rw [if_pos g2, if_pos ((at_32 h g).mpr g2)]
        exact sk_eq h
      · rw [if_neg g2, if_neg (fun z => g2 ((at_32 h g).mp z))]
/-- what a token's kind tells of the tape -/
def MS.isT (y : MS) : Prop := (y.kind = 2 → isLt (y.atN y.frm) = true ∧ y.too = y.idE y.frm) ∧ (y.kind = 3 → y.atN y.frm = 34 ∧ y.atN (y.tx y.frm) = 34 ∧ y.too = y.tx y.frm + 1) ∧ (32 ≤ y.kind → y.kind < 256 → y.atN y.frm = y.kind ∧ y.too = y.frm + 1) ∧ (256 ≤ y.kind → y.kind = nI (y.tw y.frm) ∧ ¬ y.tw y.frm = 0 ∧ y.too = y.frm + 2)
theorem sgOne_lt {z : Int32} (h : sgOne z = true) : 32 ≤ z ∧ z < 256 := by
  unfold sgOne at h
  simp only [Bool.or_eq_true, decide_eq_true_eq] at h
  rcases h with h | h | h | h | h | h | h | h | h | h | h <;> subst h <;> decide
theorem sgTwo_c {a b : Int32} (h : ¬ sgTwo a b = 0) : (a = 33 ∧ b = 61 ∧ sgTwo a b = 256) ∨ (a = 94 ∧ b = 61 ∧ sgTwo a b = 257) ∨ (a = 33 ∧ b = 94 ∧ sgTwo a b = 258) := by
  unfold sgTwo at h ⊢
  by_cases h1 : a = 33 ∧ b = 61
  · rw [if_pos h1]
    exact Or.inl ⟨h1.1, h1.2, rfl⟩
  · rw [if_neg h1] at h ⊢
    by_cases h2 : a = 94 ∧ b = 61
    · rw [if_pos h2]
      exact Or.inr (Or.inl ⟨h2.1, h2.2, rfl⟩)
    · rw [if_neg h2] at h ⊢
      by_cases h3 : a = 33 ∧ b = 94
      · rw [if_pos h3]
        exact Or.inr (Or.inr ⟨h3.1, h3.2, rfl⟩)
      · rw [if_neg h3] at h
        exact absurd rfl h
theorem nx_isT {x : MS} (hn : x.nx.1 = true) : x.nx.2.isT ∧ x.nx.2.frm = x.sk := by
  unfold MS.nx at hn ⊢
  by_cases g0 : x.length ≤ x.sk
  · rw [nx_e g0]
    exact ⟨⟨fun z => absurd (show (0 : Int32) = 2 from z) (by decide), fun z => absurd (show (0 : Int32) = 3 from z) (by decide), fun z _ => absurd (show (32 : Int32) ≤ 0 from z) (by decide), fun z => absurd (show (256 : Int32) ≤ 0 from z) (by decide)⟩, rfl⟩
  cases c1 : isDg (x.atN x.sk) with
  | true =>
    obtain ⟨b, v, k, hv⟩ : ∃ b v k, x.nu x.sk = (b, v, k) := ⟨_, _, _, rfl⟩
    cases v with
    | true =>
      rw [nx_n g0 c1 hv]
      exact ⟨⟨fun z => absurd (show (1 : Int32) = 2 from z) (by decide), fun z => absurd (show (1 : Int32) = 3 from z) (by decide), fun z _ => absurd (show (32 : Int32) ≤ 1 from z) (by decide), fun z => absurd (show (256 : Int32) ≤ 1 from z) (by decide)⟩, rfl⟩
    | false =>
      rw [nx_nx g0 c1 hv] at hn
      cases hn
  | false =>
    cases c2 : isLt (x.atN x.sk) with
    | true =>
      rw [nx_i g0 c1 c2]
      exact ⟨⟨fun _ => ⟨c2, rfl⟩, fun z => absurd (show (2 : Int32) = 3 from z) (by decide), fun z _ => absurd (show (32 : Int32) ≤ 2 from z) (by decide), fun z => absurd (show (256 : Int32) ≤ 2 from z) (by decide)⟩, rfl⟩
    | false =>
      by_cases c3 : x.atN x.sk = 34
      · by_cases c4 : x.atN (x.tx x.sk) = 34
        · rw [nx_t g0 c1 c2 c3 c4]
          exact ⟨⟨fun z => absurd (show (3 : Int32) = 2 from z) (by decide), fun _ => ⟨c3, c4, rfl⟩, fun z _ => absurd (show (32 : Int32) ≤ 3 from z) (by decide), fun z => absurd (show (256 : Int32) ≤ 3 from z) (by decide)⟩, rfl⟩
        · rw [nx_tx g0 c1 c2 c3 c4] at hn
          cases hn
      · by_cases c4 : x.tw x.sk = 0
        · cases c5 : sgOne (x.atN x.sk) with
          | true =>
            rw [nx_s1 g0 c1 c2 c3 c4 c5]
            have h5 := sgOne_lt c5
            refine ⟨⟨fun z => ?_, fun z => ?_, fun _ _ => ⟨rfl, rfl⟩, fun z => ?_⟩, rfl⟩
            · have z : x.atN x.sk = 2 := z
              rw [z] at h5
              exact absurd h5.1 (by decide)
            · have z : x.atN x.sk = 3 := z
              rw [z] at h5
              exact absurd h5.1 (by decide)
            · have z : 256 ≤ x.atN x.sk := z
              exact absurd h5.2 (Int32.not_lt.mpr z)
          | false =>
            rw [nx_sx g0 c1 c2 c3 c4 c5] at hn
            cases hn
        · rw [nx_s2 g0 c1 c2 c3 c4]
          have h5 : x.tw x.sk = 256 ∨ x.tw x.sk = 257 ∨ x.tw x.sk = 258 := by
            rcases sgTwo_c c4 with h | h | h
            · exact Or.inl h.2.2
            · exact Or.inr (Or.inl h.2.2)
            · exact Or.inr (Or.inr h.2.2)
          refine ⟨⟨fun z => ?_, fun z => ?_, fun _ z => ?_, fun _ => ⟨rfl, c4, rfl⟩⟩, rfl⟩
          · have z : nI (x.tw x.sk) = 2 := z
            rcases h5 with h | h | h <;> rw [h] at z <;> exact absurd z (by decide)
          · have z : nI (x.tw x.sk) = 3 := z
            rcases h5 with h | h | h <;> rw [h] at z <;> exact absurd z (by decide)
          · have z : nI (x.tw x.sk) < 256 := z
            rcases h5 with h | h | h <;> rw [h] at z <;> exact absurd z (by decide)
theorem fq_tx {f : Nat → Int32} {len : Nat} : ∀ {w k v : Nat}, atI f len (txG f len w k) = 34 → len ≤ k + w → len ≤ k + v → fqA f len v k = txG f len w k
  | 0, k, v, h, hw, hv => by
    have : k < len := atI_in h (by decide)
    omega
  | w + 1, k, v, h, hw, hv => by
    by_cases g : len ≤ k
    · rw [txG_n (Or.inl g)] at h
      have : k < len := atI_in h (by decide)
      omega
    · cases c : isTx (atI f len k) with
      | false =>
        rw [txG_n (Or.inr c)] at h ⊢
        exact fqA_y h
      | true =>
        rw [txG_t (Nat.succ_pos w) g c] at h ⊢
        have hn : ¬ atI f len k = 34 := fun z => by
          rw [z] at c
          revert c
          decide
        rw [fqA_n (show 0 < v by omega) hn]
        exact fq_tx h (by omega) (by omega)
/-- the tape is the same -/
def MS.sT (x y : MS) : Prop := y.tape = x.tape ∧ y.length = x.length
theorem sT_tk {x y : MS} (h : x.tk y) : x.sT y := ⟨tk_f h MS.tape rfl, tk_f h MS.length rfl⟩
def MS.okA (x : MS) (k : Nat) : Prop := ∃ n, mtOK x.tape x.length n k = true
theorem okA_c {x : MS} {k : Nat} (h : x.atN k = 125) : x.okA k := ⟨0, decide_eq_true h⟩
theorem okA_s {x : MS} {k : Nat} (h : isSep (x.atN k) = true) (h2 : x.okA (k + 1)) : x.okA k := by
  obtain ⟨n, hn⟩ := h2
  refine ⟨n + 1, ?_⟩
  show (decide (atI x.tape x.length k = 125) || (if isSep (atI x.tape x.length k) = true then mtOK x.tape x.length n (k + 1) else _)) = true
  rw [if_pos (show isSep (atI x.tape x.length k) = true from h), hn, Bool.or_true]
theorem okA_k {x : MS} : ∀ {w k : Nat}, x.okA (skA x.tape x.length w k) → x.okA k
  | 0, _, h => h
  | w + 1, k, h => by
    unfold skA at h
    by_cases g : atI x.tape x.length k = 32
    · rw [if_pos g] at h
      exact okA_s (by show isSep (atI x.tape x.length k) = true; rw [g]; rfl) (okA_k h)
    · rw [if_neg g] at h
      exact h
theorem okA_m {x : MS} {k : Nat} (h : isSep (x.atN k) = false) (h1 : m5E x.tape x.length k < x.length) (h2 : x.okA (m5E x.tape x.length k + 1)) : x.okA k := by
  obtain ⟨n, hn⟩ := h2
  refine ⟨n + 1, ?_⟩
  show (decide (atI x.tape x.length k = 125) || (if isSep (atI x.tape x.length k) = true then _ else decide (m5E x.tape x.length k < x.length) && mtOK x.tape x.length n (m5E x.tape x.length k + 1))) = true
  rw [if_neg (by rw [show isSep (atI x.tape x.length k) = false from h]; decide), hn, decide_eq_true h1]
  exact Bool.or_true _
theorem okA_t {x y : MS} {k : Nat} (h : x.sT y) : x.okA k ↔ y.okA k := by
  unfold MS.okA
  rw [h.1, h.2]
theorem m5_ge {f : Nat → Int32} {len k : Nat} : k ≤ m5E f len k := by
  have h1 : k ≤ m1E f len k := idG_ge
  have h2 : m1E f len k ≤ m2E f len k := skA_ge
  have h3 : m2E f len k ≤ m3E f len k := Nat.le_add_right _ _
  have h4 : m3E f len k ≤ m4E f len k := skA_ge
  have h5 : m4E f len k + 1 ≤ m5E f len k := fqA_ge
  omega
theorem mt_fuel {f : Nat → Int32} {len : Nat} : ∀ {n k m : Nat}, mtOK f len n k = true → len ≤ m + k → mtOK f len m k = true
  | n, k, 0, h, hm => by
    have h0 : atI f len k = 0 := if_pos (by omega)
    cases n with
    | zero =>
      have := of_decide_eq_true h
      rw [h0] at this
      exact absurd this (by decide)
    | succ n =>
      have h1 := mtOK_m h (by rw [h0]; decide) (by rw [h0]; decide)
      have := m5_ge (f := f) (len := len) (k := k)
      omega
  | n, k, m + 1, h, hm => by
    by_cases g : atI f len k = 125
    · show (decide (atI f len k = 125) || _) = true
      rw [decide_eq_true g]
      rfl
    · show (decide (atI f len k = 125) || (if isSep (atI f len k) = true then mtOK f len m (k + 1) else decide (m5E f len k < len) && mtOK f len m (m5E f len k + 1))) = true
      cases c : isSep (atI f len k) with
      | true =>
        rw [if_pos rfl, mt_fuel (mtOK_s h g c).2 (by omega)]
        exact Bool.or_true _
      | false =>
        have h1 := mtOK_m h g c
        have := m5_ge (f := f) (len := len) (k := k)
        rw [if_neg (by decide), mt_fuel h1.2.2 (by omega), decide_eq_true h1.2.1]
        exact Bool.or_true _
theorem okA_mOK {x : MS} {k : Nat} (h : x.okA k) (hk : k ≤ x.length) : x.mOK k := by
  obtain ⟨n, hn⟩ := h
  exact ⟨hk, mt_fuel hn (by omega)⟩
theorem nx_sT (x : MS) : x.sT x.nx.2 := sT_tk (tk_nx x)
theorem sT_tr {x y z : MS} (h1 : x.sT y) (h2 : y.sT z) : x.sT z := ⟨h2.1.trans h1.1, h2.2.trans h1.2⟩
theorem sT_sy {x y : MS} (h : x.sT y) : y.sT x := ⟨h.1.symm, h.2.symm⟩
theorem sk_A {x : MS} (h : byteF x.tape) : x.sk = skA x.tape x.length (x.length + 1 - x.too) x.too := sk_eq h
/-- the token behind a comma -/
theorem okA_x {x y : MS} (hb : byteF x.tape) (hn : x.nx.1 = true) (e : y = x.nx.2) (h : x.okA y.frm) : x.okA x.too := by
  subst e
  rw [(nx_isT hn).2, sk_A hb] at h
  exact okA_k h
theorem okA_44 {x y : MS} (hb : byteF x.tape) (ht : x.isT) (hk : x.kind = 44) (hn : x.nx.1 = true) (e : y = x.nx.2) (h : x.okA y.frm) : x.okA x.frm := by
  have h1 := ht.2.2.1 (by rw [hk]; decide) (by rw [hk]; decide)
  have h2 := okA_x hb hn e h
  rw [h1.2] at h2
  exact okA_s (by rw [h1.1, hk]; rfl) h2
theorem okA_125 {x : MS} (ht : x.isT) (hk : x.kind = 125) : x.okA x.frm := by
  have h1 := ht.2.2.1 (by rw [hk]; decide) (by rw [hk]; decide)
  exact okA_c (h1.1.trans hk)
theorem lt_ns {z : Int32} (h : isLt z = true) : isSep z = false := by
  unfold isSep
  rw [decide_eq_false (fun e => by subst e; revert h; decide), decide_eq_false (fun e => by subst e; revert h; decide)]
  rfl
theorem sgM_c {x : MS} {k : Nat} (h : ¬ x.tw k = 0) : ¬ sgM x.tape x.length k = 0 := by
  have h2 : ¬ atI x.tape x.length k = 61 := by
    rcases sgTwo_c h with g | g | g
    · exact fun z => absurd (show (33 : Int32) = 61 from g.1.symm.trans z) (by decide)
    · exact fun z => absurd (show (94 : Int32) = 61 from g.1.symm.trans z) (by decide)
    · exact fun z => absurd (show (33 : Int32) = 61 from g.1.symm.trans z) (by decide)
  unfold sgM
  rw [if_neg h2]
  repeat' split
  all_goals decide
/-- a match: its tokens, told by places -/
theorem mc_in {x v : MS} (hb : byteF x.tape) (hl : x.lx) (ht : x.isT) (h : x.mcF = (true, v)) : v.lx ∧ v.isT ∧ x.sT v ∧ x.tk v ∧ x.too < v.too ∧ (x.okA v.frm → x.okA x.frm) := by
  have g1 : (x.ndF 2).1 = true := by
    cases c : (x.ndF 2).1 with
    | true => rfl
    | false => rw [mc_n c] at h; cases h
  have k1 : x.kind = 2 := (nd_in hl g1).2.2.2
  have n1 : x.ndF 2 = x.nx := if_pos k1
  obtain ⟨y, ey⟩ : ∃ y, y = x.nx.2 := ⟨_, rfl⟩
  have a1 : x.nx.1 = true := by rw [← n1]; exact g1
  rw [mc_y g1 (show y = (x.ndF 2).2 by rw [n1]; exact ey)] at h
  obtain ⟨ly, fy, -⟩ := nx_in hl a1
  obtain ⟨ty, sy⟩ := nx_isT a1
  have py := nx_sT x
  have qy := tk_nx x
  rw [← ey] at ly fy ty sy py qy
  have k2 : y.kind = 61 ∨ 256 ≤ y.kind := by
    by_cases c1 : y.kind = 61
    · exact Or.inl c1
    · by_cases c2 : 256 ≤ y.kind
      · exact Or.inr c2
      · rw [mc1_x c1 c2] at h
        cases h
  have a2 : y.nx.1 = true := by
    cases c : y.nx.1 with
    | true => rfl
    | false => rw [mc1_n k2 c] at h; cases h
  obtain ⟨z, ez⟩ : ∃ z, z = y.nx.2 := ⟨_, rfl⟩
  rw [mc1_y k2 a2 ez] at h
  obtain ⟨lz, fz, -⟩ := nx_in ly a2
  obtain ⟨tz, sz⟩ := nx_isT a2
  have pz := nx_sT y
  have qz := tk_nx y
  rw [← ez] at lz fz tz sz pz qz
  have g3 : (z.ndF 3).1 = true := by rw [h]
  have k3 : z.kind = 3 := (nd_in lz g3).2.2.2
  have n3 : z.ndF 3 = z.nx := if_pos k3
  rw [n3] at h
  have a3 : z.nx.1 = true := by rw [h]
  have ev : v = z.nx.2 := by rw [h]
  obtain ⟨lv, fv, -⟩ := nx_in lz a3
  obtain ⟨tv, sv⟩ := nx_isT a3
  have pv := nx_sT z
  have qv := tk_nx z
  rw [← ev] at lv fv tv sv pv qv
  have hlt : y.frm < y.too := by
    rcases k2 with c | c
    · have := (ty.2.2.1 (by rw [c]; decide) (by rw [c]; decide)).2
      omega
    · have := (ty.2.2.2 c).2.2
      omega
  refine ⟨lv, tv, sT_tr py (sT_tr pz pv), tk_tr qy (tk_tr qz qv), ?_, fun ho => ?_⟩
  · have := ly.2.1
    have := lz.2.1
    have := lv.2.1
    omega
  · have by_ : byteF y.tape := by rw [py.1]; exact hb
    have bz : byteF z.tape := by rw [pz.1]; exact by_
    obtain ⟨i1, i2⟩ := ht.1 k1
    have e1 : m1E x.tape x.length x.frm = x.too := i2.symm
    have e2 : m2E x.tape x.length x.frm = y.frm := by
      unfold m2E
      rw [e1, sy, sk_A hb]
    have e3 : m3E x.tape x.length x.frm = y.too := by
      unfold m3E
      rw [e2]
      rcases k2 with c | c
      · obtain ⟨c1, c2⟩ := ty.2.2.1 (by rw [c]; decide) (by rw [c]; decide)
        have c3 : atI x.tape x.length y.frm = 61 := by
          rw [← py.1, ← py.2]
          exact c1.trans c
        rw [if_pos (show sgM x.tape x.length y.frm = 0 from if_pos c3), c2]
      · obtain ⟨-, c1, c2⟩ := ty.2.2.2 c
        have c3 : ¬ x.tw y.frm = 0 := by
          unfold MS.tw MS.atN at c1 ⊢
          rw [← py.1, ← py.2]
          exact c1
        rw [if_neg (sgM_c c3), c2]
    have e4 : m4E x.tape x.length x.frm = z.frm := by
      unfold m4E
      rw [e3, sz, sk_A by_, py.1, py.2]
    obtain ⟨j1, j2, j3⟩ := tz.2.1 k3
    have tt : z.tx z.frm = txG x.tape x.length (x.length + 1 - (z.frm + 1)) (z.frm + 1) := by
      unfold MS.tx
      rw [pz.1, pz.2, py.1, py.2]
    have j2 : atI x.tape x.length (z.tx z.frm) = 34 := by
      have j4 : atI z.tape z.length (z.tx z.frm) = 34 := j2
      rw [pz.1, pz.2, py.1, py.2] at j4
      exact j4
    have e5 : m5E x.tape x.length x.frm = z.tx z.frm := by
      unfold m5E
      rw [e4, tt]
      rw [tt] at j2
      exact fq_tx j2 (by omega) (by omega)
    have e6 : m5E x.tape x.length x.frm < x.length := by
      rw [e5]
      exact atI_in j2 (by decide)
    refine okA_m (lt_ns i1) e6 ?_
    rw [e5, ← j3]
    have p2 := sT_tr py pz
    refine (okA_t p2).mpr ?_
    exact okA_x bz a3 ev ((okA_t p2).mp ho)
/-- the matches from the token on -/
def MS.mlF : Nat → MS → Bool × MS
  | 0, y => (false, y)
  | w + 1, y => if y.mcF.1 = true then (if y.mcF.2.kind = 44 then (if y.mcF.2.nx.1 = true then MS.mlF w y.mcF.2.nx.2 else (false, y.mcF.2.nx.2)) else (true, y.mcF.2)) else (false, y.mcF.2)
section ML
variable {w : Nat} {y z u : MS}
theorem ml_0 (hw : 0 < w) (h : y.mcF.1 = false) : MS.mlF w y = (false, y.mcF.2) := by
  obtain ⟨d, rfl⟩ : ∃ d, w = d + 1 := ⟨w - 1, by omega⟩
  exact if_neg (by rw [h]; decide)
theorem ml_e (hw : 0 < w) (h : y.mcF.1 = true) (e : z = y.mcF.2) (h2 : ¬ z.kind = 44) : MS.mlF w y = (true, z) := by
  obtain ⟨d, rfl⟩ : ∃ d, w = d + 1 := ⟨w - 1, by omega⟩
  subst e
  exact (if_pos h).trans (if_neg h2)
theorem ml_n (hw : 0 < w) (h : y.mcF.1 = true) (e : z = y.mcF.2) (h2 : z.kind = 44) (h3 : z.nx.1 = false) : MS.mlF w y = (false, z.nx.2) := by
  obtain ⟨d, rfl⟩ : ∃ d, w = d + 1 := ⟨w - 1, by omega⟩
  subst e
  exact (if_pos h).trans ((if_pos h2).trans (if_neg (by rw [h3]; decide)))
theorem ml_m (hw : 0 < w) (h : y.mcF.1 = true) (e : z = y.mcF.2) (h2 : z.kind = 44) (h3 : z.nx.1 = true) (e2 : u = z.nx.2) : MS.mlF w y = MS.mlF (w - 1) u := by
  obtain ⟨d, rfl⟩ : ∃ d, w = d + 1 := ⟨w - 1, by omega⟩
  subst e
  subst e2
  exact (if_pos h).trans ((if_pos h2).trans (if_pos h3))
end ML
/-- behind the brace -/
def MS.cl5 (z : MS) (wh p : Nat) : Bool × MS := if z.kind = 41 then (if z.works = true then (z.rkS wh p).nx else z.nx) else (false, z.flS 2 z.frm)
def MS.cl4 (y : MS) (wh p : Nat) : Bool × MS := if (y.ndF 125).1 = true then (y.ndF 125).2.cl5 wh p else (false, (y.ndF 125).2)
/-- the matches are read -/
def MS.cl3 (m : Bool × MS) (wh p : Nat) : Bool × MS := if m.1 = true then m.2.cl4 wh p else (false, m.2)
def MS.cl2 (y : MS) (wh : Nat) : Bool × MS :=
  if (y.ndF 40).1 = true then (if ((y.ndF 40).2.ndF 123).1 = true then (if ((y.ndF 40).2.ndF 123).2.kind = 125 then ((y.ndF 40).2.ndF 123).2.cl4 wh (y.ndF 40).2.too else MS.cl3 (MS.mlF (((y.ndF 40).2.ndF 123).2.length + 1) ((y.ndF 40).2.ndF 123).2) wh (y.ndF 40).2.too) else (false, ((y.ndF 40).2.ndF 123).2)) else (false, (y.ndF 40).2)
def MS.cl0 (x : MS) : MS := MS.s_tableNames x (va_up x.tableNames x.pile 0)
/-- a function read and, if the question works, its table made -/
def MS.clF (x : MS) (wh : Nat) : Bool × MS :=
  if x.cl0.nx.1 = true then (if x.cl0.nx.2.nmB 98 121 32 32 2 = true then (if x.cl0.nx.2.byF.1 = true then x.cl0.nx.2.byF.2.cl2 wh else (false, x.cl0.nx.2.byF.2)) else x.cl0.nx.2.cl2 wh) else (false, x.cl0.nx.2)
section CL
variable {x y z u : MS} {wh p w : Nat}
theorem cl_0 (h : x.cl0.nx.1 = false) : x.clF wh = (false, x.cl0.nx.2) := if_neg (by rw [h]; decide)
theorem cl_b (h : x.cl0.nx.1 = true) (e : y = x.cl0.nx.2) (h2 : y.nmB 98 121 32 32 2 = true) (h3 : y.byF.1 = false) : x.clF wh = (false, y.byF.2) := by
  subst e
  exact (if_pos h).trans ((if_pos h2).trans (if_neg (by rw [h3]; decide)))
theorem cl_y (h : x.cl0.nx.1 = true) (e : y = x.cl0.nx.2) (h2 : y.nmB 98 121 32 32 2 = true) (h3 : y.byF.1 = true) (e2 : z = y.byF.2) : x.clF wh = z.cl2 wh := by
  subst e
  subst e2
  exact (if_pos h).trans ((if_pos h2).trans (if_pos h3))
theorem cl_n (h : x.cl0.nx.1 = true) (e : y = x.cl0.nx.2) (h2 : y.nmB 98 121 32 32 2 = false) : x.clF wh = y.cl2 wh := by
  subst e
  exact (if_pos h).trans (if_neg (by rw [h2]; decide))
theorem c2_0 (h : (y.ndF 40).1 = false) : y.cl2 wh = (false, (y.ndF 40).2) := if_neg (by rw [h]; decide)
theorem c2_1 (h : (y.ndF 40).1 = true) (e : z = (y.ndF 40).2) (h2 : (z.ndF 123).1 = false) : y.cl2 wh = (false, (z.ndF 123).2) := by
  subst e
  exact (if_pos h).trans (if_neg (by rw [h2]; decide))
theorem c2_e (h : (y.ndF 40).1 = true) (e : z = (y.ndF 40).2) (h2 : (z.ndF 123).1 = true) (e2 : u = (z.ndF 123).2) (h3 : u.kind = 125) : y.cl2 wh = u.cl4 wh z.too := by
  subst e
  subst e2
  exact (if_pos h).trans ((if_pos h2).trans (if_pos h3))
theorem c2_m (h : (y.ndF 40).1 = true) (e : z = (y.ndF 40).2) (h2 : (z.ndF 123).1 = true) (e2 : u = (z.ndF 123).2) (h3 : ¬ u.kind = 125) : y.cl2 wh = MS.cl3 (MS.mlF (u.length + 1) u) wh z.too := by
  subst e
  subst e2
  exact (if_pos h).trans ((if_pos h2).trans (if_neg h3))
theorem c3_t : MS.cl3 (true, y) wh p = y.cl4 wh p := rfl
theorem c3_f : MS.cl3 (false, y) wh p = (false, y) := rfl
theorem c4_0 (h : (y.ndF 125).1 = false) : y.cl4 wh p = (false, (y.ndF 125).2) := if_neg (by rw [h]; decide)
theorem c4_1 (h : (y.ndF 125).1 = true) (e : z = (y.ndF 125).2) : y.cl4 wh p = z.cl5 wh p := by
  subst e
  exact if_pos h
theorem c5_x (h : ¬ z.kind = 41) : z.cl5 wh p = (false, z.flS 2 z.frm) := if_neg h
theorem c5_n (h : z.kind = 41) (h2 : z.works = false) : z.cl5 wh p = z.nx := (if_pos h).trans (if_neg (by rw [h2]; decide))
theorem c5_y (h : z.kind = 41) (h2 : z.works = true) (e : u = z.rkS wh p) : z.cl5 wh p = u.nx := by
  subst e
  exact (if_pos h).trans (if_pos h2)
end CL
/-- what making a table wants -/
def MS.rkc (x : MS) : Prop := x.pile < 20 ∧ x.seriesCount ≤ 256 ∧ (∀ q : Nat, q < x.seriesCount → x.tOK q) ∧ x.points ≤ 12000 ∧ (∀ q : Nat, q < x.points → x.pointSeries q < 256) ∧ x.windows ≤ 64 ∧ 1 ≤ x.width ∧ ∀ q : Nat, x.keySeries q < 256
theorem rkc_tk {x y : MS} (h : x.tk y) (hx : x.rkc) : y.rkc := by
  have h1 : (x.tkS y).rkc := hx
  rw [← show y = x.tkS y from h] at h1
  exact h1
theorem lx_rk {x : MS} {wh p : Nat} (h : x.lx) : (x.rkS wh p).lx := h
end
section
/-- x with the token, the fault and the tables' names of y -/
def MS.nkS (x y : MS) : MS := MS.s_nameLengths (MS.s_nameFroms (MS.s_tableNames (x.tkS y) y.tableNames) y.nameFroms) y.nameLengths
def MS.nk (x y : MS) : Prop := y = x.nkS y
theorem nk_of {x y : MS} (h : x.tk y) : x.nk y := by
  have e1 : y.tableNames = x.tableNames := tk_f h MS.tableNames rfl
  have e2 : y.nameFroms = x.nameFroms := tk_f h MS.nameFroms rfl
  have e3 : y.nameLengths = x.nameLengths := tk_f h MS.nameLengths rfl
  show y = MS.s_nameLengths (MS.s_nameFroms (MS.s_tableNames (x.tkS y) y.tableNames) y.nameFroms) y.nameLengths
  rw [e1, e2, e3]
  exact h
theorem nk_tr {x y z : MS} (h1 : x.nk y) (h2 : y.nk z) : x.nk z := h2.trans ((congrArg (fun w => MS.nkS w z) h1).trans rfl)
theorem nk_ad (x : MS) (t : Nat) : x.nk (x.adS t) := rfl
theorem nk_f {x y : MS} {α : Type} (h : x.nk y) (f : MS → α) (hf : f (x.nkS y) = f x) : f y = f x := (congrArg f h).trans hf
/-- the names of the other tables are the same -/
def MS.nmO (x y : MS) (t : Nat) : Prop := (∀ q : Nat, ¬ q = t → y.tableNames q = x.tableNames q) ∧ ∀ q : Nat, q < 6 * t ∨ 6 * t + 6 ≤ q → y.nameFroms q = x.nameFroms q ∧ y.nameLengths q = x.nameLengths q
theorem nmO_tr {x y z : MS} {t : Nat} (h1 : x.nmO y t) (h2 : y.nmO z t) : x.nmO z t := ⟨fun q hq => (h2.1 q hq).trans (h1.1 q hq), fun q hq => ⟨(h2.2 q hq).1.trans (h1.2 q hq).1, (h2.2 q hq).2.trans (h1.2 q hq).2⟩⟩
theorem nmO_tk {x y : MS} {t : Nat} (h : x.tk y) : x.nmO y t := by
  have e1 : y.tableNames = x.tableNames := tk_f h MS.tableNames rfl
  have e2 : y.nameFroms = x.nameFroms := tk_f h MS.nameFroms rfl
  have e3 : y.nameLengths = x.nameLengths := tk_f h MS.nameLengths rfl
  unfold MS.nmO
  rw [e1, e2, e3]
  exact ⟨fun _ _ => rfl, fun _ _ => ⟨rfl, rfl⟩⟩
theorem nmO_ad {x : MS} {t : Nat} (h : x.tableNames t < 6) : x.nmO (x.adS t) t := by
  refine ⟨fun q hq => if_neg hq, fun q hq => ⟨if_neg ?_, if_neg ?_⟩⟩ <;> omega
def MS.byR (x v : MS) (t : Nat) : Prop := v.lx ∧ v.isT ∧ v.nmT t ∧ v.tableNames t ≤ 6 ∧ x.nk v ∧ x.nmO v t
theorem byL_in {t : Nat} : ∀ {w : Nat} {y v : MS}, y.lx → y.nmT t → y.tableNames t + w = 7 → MS.byL t w y = (true, v) → y.byR v t
  | 0, y, v, _, _, _, h => by cases h
  | w + 1, y, v, hl, hn, hw, h => by
    have hp : 0 < w + 1 := Nat.succ_pos w
    by_cases k2 : y.kind = 2
    · cases c1 : y.byT t with
      | true => rw [by_4 hp k2 c1] at h; cases h
      | false =>
        have h6 := by_6 c1
        cases c2 : (y.adS t).nx.1 with
        | false => rw [by_n hp k2 c1 c2] at h; cases h
        | true =>
          obtain ⟨z, ez⟩ : ∃ z, z = (y.adS t).nx.2 := ⟨_, rfl⟩
          have lz : z.lx := by rw [ez]; exact (nx_in (lx_ad hl) c2).1
          have nz : z.nmT t := by rw [ez]; exact nmT_tk (tk_nx _) (nmT_ad hn hl.2.1 hl.2.2.1)
          have cz : z.tableNames t = y.tableNames t + 1 := by rw [ez]; exact (tk_tn (tk_nx _) _).trans (tn_ad _ _)
          have kz : y.nk z := by rw [ez]; exact nk_tr (nk_ad y t) (nk_of (tk_nx _))
          have oz : y.nmO z t := by rw [ez]; exact nmO_tr (nmO_ad (by omega)) (nmO_tk (tk_nx _))
          by_cases c3 : z.kind = 44
          · cases c4 : z.nx.1 with
            | false => rw [by_mn hp k2 c1 c2 ez c3 c4] at h; cases h
            | true =>
              obtain ⟨u, eu⟩ : ∃ u, u = z.nx.2 := ⟨_, rfl⟩
              have lu : u.lx := by rw [eu]; exact (nx_in lz c4).1
              have nu : u.nmT t := by rw [eu]; exact nmT_tk (tk_nx _) nz
              have cu : u.tableNames t = z.tableNames t := by rw [eu]; exact tk_tn (tk_nx _) _
              rw [by_m hp k2 c1 c2 ez c3 c4 eu] at h
              obtain ⟨r1, r2, r3, r4, r5, r6⟩ := byL_in (w := w) lu nu (by omega) h
              refine ⟨r1, r2, r3, r4, nk_tr kz (nk_tr ?_ r5), nmO_tr oz (nmO_tr ?_ r6)⟩
              · rw [eu]; exact nk_of (tk_nx _)
              · rw [eu]; exact nmO_tk (tk_nx _)
          · rw [by_e hp k2 c1 c2 ez c3] at h
            have g : (z.ndF 41).1 = true := by rw [h]
            have ev : v = (z.ndF 41).2 := by rw [h]
            have kk := (nd_in lz g).2.2.2
            have n1 : z.ndF 41 = z.nx := if_pos kk
            refine ⟨by rw [ev]; exact (nd_in lz g).1, by rw [ev, n1]; exact (nx_isT (by rw [← n1]; exact g)).1, by rw [ev]; exact nmT_tk (tk_nd _ _) nz, ?_, nk_tr kz (by rw [ev]; exact nk_of (tk_nd _ _)), nmO_tr oz (by rw [ev]; exact nmO_tk (tk_nd _ _))⟩
            rw [ev, tk_tn (tk_nd _ _)]
            omega
    · rw [by_k hp k2] at h; cases h
theorem by_in {x v : MS} (hl : x.lx) (h0 : x.tableNames x.pile = 0) (h : x.byF = (true, v)) : x.byR v x.pile := by
  cases c1 : x.nx.1 with
  | false => rw [byF_0 c1] at h; cases h
  | true =>
    obtain ⟨y, ey⟩ : ∃ y, y = x.nx.2 := ⟨_, rfl⟩
    have ly : y.lx := by rw [ey]; exact (nx_in hl c1).1
    cases c2 : (y.ndF 40).1 with
    | false => rw [byF_1 c1 ey c2] at h; cases h
    | true =>
      obtain ⟨z, ez⟩ : ∃ z, z = (y.ndF 40).2 := ⟨_, rfl⟩
      have lz : z.lx := by rw [ez]; exact (nd_in ly c2).1
      have T : x.tk z := by rw [ez, ey]; exact tk_tr (tk_nx x) (tk_nd _ 40)
      have n0 : z.tableNames x.pile = 0 := (tk_tn T _).trans h0
      rw [byF_2 c1 ey c2 ez] at h
      obtain ⟨r1, r2, r3, r4, r5, r6⟩ := byL_in lz (fun k hk => absurd hk (by rw [n0]; exact Nat.not_lt_zero k)) (by rw [n0]) h
      exact ⟨r1, r2, r3, r4, nk_tr (nk_of T) r5, nmO_tr (nmO_tk T) r6⟩
theorem rkc_nk {x y : MS} (h : x.nk y) (hx : x.rkc) : y.rkc := by
  have h1 : (x.nkS y).rkc := hx
  rw [← show y = x.nkS y from h] at h1
  exact h1
theorem nOK_of {x : MS} {t : Nat} (ht : t < 20) (h : x.nmT t) (h6 : x.tableNames t ≤ 6) (hl : x.length ≤ 65536) : x.nOK t := ⟨ht, h6, fun k hk => Nat.le_trans (h k hk) hl⟩
theorem ml_c1 {w wh p : Nat} {y u : MS} (h : MS.mlF w y = MS.mlF (w - 1) u) : MS.cl3 (MS.mlF w y) wh p = (if true = true then MS.cl3 (MS.mlF (w - 1) u) wh p else u.cl4 wh p) := by rw [h, if_pos rfl]
theorem ml_c2 {w wh p : Nat} {y z : MS} (h : MS.mlF w y = (true, z)) : MS.cl3 (MS.mlF w y) wh p = (if false = true then MS.cl3 (MS.mlF (w - 1) z) wh p else z.cl4 wh p) := by
  rw [h, if_neg (by decide)]
  rfl
theorem d_M_called_0 : decode prog_14_method_85_code 0 = .ok (.aload_n 0, 1) := by decide +kernel
theorem d_M_called_1 : decode prog_14_method_85_code 1 = .ok (.getfield 88, 3) := by decide +kernel
theorem d_M_called_4 : decode prog_14_method_85_code 4 = .ok (.aload_n 0, 1) := by decide +kernel
theorem d_M_called_5 : decode prog_14_method_85_code 5 = .ok (.getfield 400, 3) := by decide +kernel
theorem d_M_called_8 : decode prog_14_method_85_code 8 = .ok (.iconst 0, 1) := by decide +kernel
theorem d_M_called_9 : decode prog_14_method_85_code 9 = .ok (.iastore, 1) := by decide +kernel
theorem d_M_called_10 : decode prog_14_method_85_code 10 = .ok (.aload_n 0, 1) := by decide +kernel
theorem d_M_called_11 : decode prog_14_method_85_code 11 = .ok (.invokevirtual 373, 3) := by decide +kernel
theorem d_M_called_14 : decode prog_14_method_85_code 14 = .ok (.ifCond .eq 35, 3) := by decide +kernel
theorem d_M_called_49 : decode prog_14_method_85_code 49 = .ok (.iconst 0, 1) := by decide +kernel
theorem d_M_called_50 : decode prog_14_method_85_code 50 = .ok (.ireturn, 1) := by decide +kernel
theorem d_M_called_40 : decode prog_14_method_85_code 40 = .ok (.aload_n 0, 1) := by decide +kernel
theorem d_M_called_51 : decode prog_14_method_85_code 51 = .ok (.aload_n 0, 1) := by decide +kernel
theorem d_M_called_52 : decode prog_14_method_85_code 52 = .ok (.getfield 342, 3) := by decide +kernel
theorem d_M_called_55 : decode prog_14_method_85_code 55 = .ok (.istore_n 2, 1) := by decide +kernel
theorem d_M_called_56 : decode prog_14_method_85_code 56 = .ok (.aload_n 0, 1) := by decide +kernel
theorem d_M_called_57 : decode prog_14_method_85_code 57 = .ok (.bipush 123, 2) := by decide +kernel
theorem d_M_called_59 : decode prog_14_method_85_code 59 = .ok (.invokevirtual 457, 3) := by decide +kernel
theorem d_M_called_62 : decode prog_14_method_85_code 62 = .ok (.ifCond .ne 5, 3) := by decide +kernel
theorem d_M_called_67 : decode prog_14_method_85_code 67 = .ok (.aload_n 0, 1) := by decide +kernel
theorem d_M_called_68 : decode prog_14_method_85_code 68 = .ok (.getfield 351, 3) := by decide +kernel
theorem d_M_called_71 : decode prog_14_method_85_code 71 = .ok (.bipush 125, 2) := by decide +kernel
theorem d_M_called_73 : decode prog_14_method_85_code 73 = .ok (.if_icmp .eq 7, 3) := by decide +kernel
theorem d_M_called_80 : decode prog_14_method_85_code 80 = .ok (.iconst 0, 1) := by decide +kernel
theorem d_M_called_81 : decode prog_14_method_85_code 81 = .ok (.istore_n 3, 1) := by decide +kernel
theorem d_M_called_82 : decode prog_14_method_85_code 82 = .ok (.iload_n 3, 1) := by decide +kernel
theorem d_M_called_83 : decode prog_14_method_85_code 83 = .ok (.ifCond .eq 40, 3) := by decide +kernel
theorem d_M_called_123 : decode prog_14_method_85_code 123 = .ok (.aload_n 0, 1) := by decide +kernel
theorem d_M_called_124 : decode prog_14_method_85_code 124 = .ok (.bipush 125, 2) := by decide +kernel
theorem d_M_called_126 : decode prog_14_method_85_code 126 = .ok (.invokevirtual 457, 3) := by decide +kernel
theorem d_M_called_129 : decode prog_14_method_85_code 129 = .ok (.ifCond .ne 5, 3) := by decide +kernel
theorem d_M_called_134 : decode prog_14_method_85_code 134 = .ok (.aload_n 0, 1) := by decide +kernel
theorem d_M_called_135 : decode prog_14_method_85_code 135 = .ok (.getfield 351, 3) := by decide +kernel
theorem d_M_called_138 : decode prog_14_method_85_code 138 = .ok (.bipush 41, 2) := by decide +kernel
theorem d_M_called_140 : decode prog_14_method_85_code 140 = .ok (.if_icmp .eq 13, 3) := by decide +kernel
theorem d_M_called_153 : decode prog_14_method_85_code 153 = .ok (.aload_n 0, 1) := by decide +kernel
theorem d_M_called_154 : decode prog_14_method_85_code 154 = .ok (.getfield 442, 3) := by decide +kernel
theorem d_M_called_157 : decode prog_14_method_85_code 157 = .ok (.ifCond .eq 9, 3) := by decide +kernel
theorem d_M_called_166 : decode prog_14_method_85_code 166 = .ok (.aload_n 0, 1) := by decide +kernel
theorem d_M_called_167 : decode prog_14_method_85_code 167 = .ok (.invokevirtual 373, 3) := by decide +kernel
theorem d_M_called_170 : decode prog_14_method_85_code 170 = .ok (.ireturn, 1) := by decide +kernel
theorem d_M_called_160 : decode prog_14_method_85_code 160 = .ok (.aload_n 0, 1) := by decide +kernel
theorem d_M_called_161 : decode prog_14_method_85_code 161 = .ok (.iload_n 1, 1) := by decide +kernel
theorem d_M_called_162 : decode prog_14_method_85_code 162 = .ok (.iload_n 2, 1) := by decide +kernel
theorem d_M_called_163 : decode prog_14_method_85_code 163 = .ok (.invokevirtual 466, 3) := by decide +kernel
theorem d_M_called_143 : decode prog_14_method_85_code 143 = .ok (.aload_n 0, 1) := by decide +kernel
theorem d_M_called_144 : decode prog_14_method_85_code 144 = .ok (.iconst 2, 1) := by decide +kernel
theorem d_M_called_145 : decode prog_14_method_85_code 145 = .ok (.aload_n 0, 1) := by decide +kernel
theorem d_M_called_146 : decode prog_14_method_85_code 146 = .ok (.getfield 345, 3) := by decide +kernel
theorem d_M_called_149 : decode prog_14_method_85_code 149 = .ok (.invokevirtual 224, 3) := by decide +kernel
theorem d_M_called_152 : decode prog_14_method_85_code 152 = .ok (.ireturn, 1) := by decide +kernel
theorem d_M_called_132 : decode prog_14_method_85_code 132 = .ok (.iconst 0, 1) := by decide +kernel
theorem d_M_called_133 : decode prog_14_method_85_code 133 = .ok (.ireturn, 1) := by decide +kernel
theorem d_M_called_86 : decode prog_14_method_85_code 86 = .ok (.aload_n 0, 1) := by decide +kernel
theorem d_M_called_87 : decode prog_14_method_85_code 87 = .ok (.invokevirtual 463, 3) := by decide +kernel
theorem d_M_called_90 : decode prog_14_method_85_code 90 = .ok (.ifCond .ne 5, 3) := by decide +kernel
theorem d_M_called_95 : decode prog_14_method_85_code 95 = .ok (.aload_n 0, 1) := by decide +kernel
theorem d_M_called_96 : decode prog_14_method_85_code 96 = .ok (.getfield 351, 3) := by decide +kernel
theorem d_M_called_99 : decode prog_14_method_85_code 99 = .ok (.bipush 44, 2) := by decide +kernel
theorem d_M_called_101 : decode prog_14_method_85_code 101 = .ok (.if_icmp .ne 7, 3) := by decide +kernel
theorem d_M_called_108 : decode prog_14_method_85_code 108 = .ok (.iconst 0, 1) := by decide +kernel
theorem d_M_called_109 : decode prog_14_method_85_code 109 = .ok (.istore_n 3, 1) := by decide +kernel
theorem d_M_called_110 : decode prog_14_method_85_code 110 = .ok (.iload_n 3, 1) := by decide +kernel
theorem d_M_called_111 : decode prog_14_method_85_code 111 = .ok (.ifCond .eq (-29), 3) := by decide +kernel
theorem d_M_called_104 : decode prog_14_method_85_code 104 = .ok (.iconst 1, 1) := by decide +kernel
theorem d_M_called_105 : decode prog_14_method_85_code 105 = .ok (.goto 4, 3) := by decide +kernel
theorem d_M_called_114 : decode prog_14_method_85_code 114 = .ok (.aload_n 0, 1) := by decide +kernel
theorem d_M_called_115 : decode prog_14_method_85_code 115 = .ok (.invokevirtual 373, 3) := by decide +kernel
theorem d_M_called_118 : decode prog_14_method_85_code 118 = .ok (.ifCond .ne (-36), 3) := by decide +kernel
theorem d_M_called_121 : decode prog_14_method_85_code 121 = .ok (.iconst 0, 1) := by decide +kernel
theorem d_M_called_122 : decode prog_14_method_85_code 122 = .ok (.ireturn, 1) := by decide +kernel
theorem d_M_called_93 : decode prog_14_method_85_code 93 = .ok (.iconst 0, 1) := by decide +kernel
theorem d_M_called_94 : decode prog_14_method_85_code 94 = .ok (.ireturn, 1) := by decide +kernel
theorem d_M_called_76 : decode prog_14_method_85_code 76 = .ok (.iconst 1, 1) := by decide +kernel
theorem d_M_called_77 : decode prog_14_method_85_code 77 = .ok (.goto 4, 3) := by decide +kernel
theorem d_M_called_65 : decode prog_14_method_85_code 65 = .ok (.iconst 0, 1) := by decide +kernel
theorem d_M_called_66 : decode prog_14_method_85_code 66 = .ok (.ireturn, 1) := by decide +kernel
theorem d_M_called_41 : decode prog_14_method_85_code 41 = .ok (.bipush 40, 2) := by decide +kernel
theorem d_M_called_43 : decode prog_14_method_85_code 43 = .ok (.invokevirtual 457, 3) := by decide +kernel
theorem d_M_called_46 : decode prog_14_method_85_code 46 = .ok (.ifCond .ne 5, 3) := by decide +kernel
theorem d_M_called_17 : decode prog_14_method_85_code 17 = .ok (.aload_n 0, 1) := by decide +kernel
theorem d_M_called_18 : decode prog_14_method_85_code 18 = .ok (.bipush 98, 2) := by decide +kernel
theorem d_M_called_20 : decode prog_14_method_85_code 20 = .ok (.bipush 121, 2) := by decide +kernel
theorem d_M_called_22 : decode prog_14_method_85_code 22 = .ok (.bipush 32, 2) := by decide +kernel
theorem d_M_called_24 : decode prog_14_method_85_code 24 = .ok (.bipush 32, 2) := by decide +kernel
theorem d_M_called_26 : decode prog_14_method_85_code 26 = .ok (.iconst 2, 1) := by decide +kernel
theorem d_M_called_27 : decode prog_14_method_85_code 27 = .ok (.invokevirtual 376, 3) := by decide +kernel
theorem d_M_called_30 : decode prog_14_method_85_code 30 = .ok (.ifCond .eq 10, 3) := by decide +kernel
theorem d_M_called_33 : decode prog_14_method_85_code 33 = .ok (.aload_n 0, 1) := by decide +kernel
theorem d_M_called_34 : decode prog_14_method_85_code 34 = .ok (.invokevirtual 460, 3) := by decide +kernel
theorem d_M_called_37 : decode prog_14_method_85_code 37 = .ok (.ifCond .eq 12, 3) := by decide +kernel
theorem w1026 : Cond.methodLink "SeriesVaultModel" 466 ⟨"SeriesVaultModel", "reckon", "(II)V"⟩ ∈ aW := aw_of (tb_10 (List.mem_of_getElem? (i := 217) rfl)) rfl
theorem w1027 : Cond.code ⟨"SeriesVaultModel", "reckon", "(II)V"⟩ prog_14_method_70_code 8 none ∈ aW := aw_of (tb_10 (List.mem_of_getElem? (i := 220) rfl)) rfl
theorem w1028 : Cond.instanceMethod ⟨"SeriesVaultModel", "reckon", "(II)V"⟩ ∈ aW := aw_of (tb_10 (List.mem_of_getElem? (i := 219) rfl)) rfl
theorem w1029 : Cond.selects "SeriesVaultModel" ⟨"SeriesVaultModel", "reckon", "(II)V"⟩ ⟨"SeriesVaultModel", "reckon", "(II)V"⟩ ∈ aW := aw_pr (List.mem_map.mpr ⟨_, pv_7 (List.mem_of_getElem? (i := 12) rfl), rfl⟩) rfl
theorem w1030 : Cond.methodLink "SeriesVaultModel" 463 ⟨"SeriesVaultModel", "match", "()Z"⟩ ∈ aW := aw_of (tb_10 (List.mem_of_getElem? (i := 213) rfl)) rfl
theorem w1031 : Cond.code ⟨"SeriesVaultModel", "match", "()Z"⟩ prog_14_method_84_code 1 (some FieldType.boolean) ∈ aW := aw_of (tb_10 (List.mem_of_getElem? (i := 216) rfl)) rfl
theorem w1032 : Cond.instanceMethod ⟨"SeriesVaultModel", "match", "()Z"⟩ ∈ aW := aw_of (tb_10 (List.mem_of_getElem? (i := 215) rfl)) rfl
theorem w1033 : Cond.selects "SeriesVaultModel" ⟨"SeriesVaultModel", "match", "()Z"⟩ ⟨"SeriesVaultModel", "match", "()Z"⟩ ∈ aW := aw_pr (List.mem_map.mpr ⟨_, pv_7 (List.mem_of_getElem? (i := 11) rfl), rfl⟩) rfl
theorem w1034 : Cond.methodLink "SeriesVaultModel" 460 ⟨"SeriesVaultModel", "by", "()Z"⟩ ∈ aW := aw_of (tb_10 (List.mem_of_getElem? (i := 205) rfl)) rfl
theorem w1035 : Cond.code ⟨"SeriesVaultModel", "by", "()Z"⟩ prog_14_method_83_code 7 (some FieldType.boolean) ∈ aW := aw_of (tb_10 (List.mem_of_getElem? (i := 208) rfl)) rfl
theorem w1036 : Cond.instanceMethod ⟨"SeriesVaultModel", "by", "()Z"⟩ ∈ aW := aw_of (tb_10 (List.mem_of_getElem? (i := 207) rfl)) rfl
theorem w1037 : Cond.selects "SeriesVaultModel" ⟨"SeriesVaultModel", "by", "()Z"⟩ ⟨"SeriesVaultModel", "by", "()Z"⟩ ∈ aW := aw_pr (List.mem_map.mpr ⟨_, pv_7 (List.mem_of_getElem? (i := 9) rfl), rfl⟩) rfl
set_option maxHeartbeats 4000000 in
set_option maxRecDepth 100000 in
theorem k_called (l : Launch) (D : va_G) (dA : Nat → ClassId) (sz : Nat) (h : Nat) (ad : Nat → Nat) (x : MS) (wh : Nat) (hlx : x.lx) (hpl : x.pile < 20) (hby : byteF x.tape) (hwk : x.works = true → x.rkc) (hwh : wh ≤ 6) : Met l ⟨"SeriesVaultModel", "called", "(I)Z"⟩ [Cond.code ⟨"SeriesVaultModel", "called", "(I)Z"⟩ prog_14_method_85_code 4 (some FieldType.boolean)] { frames := 6, cells := 0, slots := 0, locals := 114 } (pC D dA [.ref h, .int (nI wh)] (MW dA h ad x) sz) (va_Qi (fun (r9 : Int32) (u9 : MS) => r9 = bI (x.clF wh).1 ∧ u9 = (x.clF wh).2) (fun (u9 : MS) t9 => bW D (va_A (MW dA h ad x) sz) (MW dA h ad u9) t9) (va_A (MW dA h ad x) sz)) 0 0 (va_A (MW dA h ad x) sz) := by
  refine mkC (y := ⟨"SeriesVaultModel", "called", "(I)Z"⟩) (cc := prog_14_method_85_code) (maxL := 4) (av := [.ref h, .int (nI wh)]) (ws := MW dA h ad x) (sz := sz) (Qc := fun A => va_Qi (fun (r9 : Int32) (u9 : MS) => r9 = bI (x.clF wh).1 ∧ u9 = (x.clF wh).2) (fun (u9 : MS) t9 => bW D A (MW dA h ad u9) t9) A) (by decide) (Nat.le_of_ble_eq_true rfl) ?_
  intro A p e s m below meth c ls hsz hB
  obtain ⟨hx, hb, hr, hml, hown, hin, hlk, hE, hK, hP, hD, hS, hA, hN, hl⟩ := hB
  have hown : s.vm.findClass "SeriesVaultModel" = some m.cls := hown
  have hl : lv_has ls 4 [(0, .ref h), (1, .int (nI wh))] := hl
  obtain ⟨H, hH⟩ : ∃ z, z = s.heap := ⟨_, rfl⟩
  have hP : va_P D vwCl (MW dA h ad x) H := by rw [hH]; exact hP
  have hS : va_S A s.heap H [] := by rw [hH]; exact hS
  rw [← hH]
  refine lv_aload_n hx hb d_M_called_0 rfl (lv_at hl 0 rfl) ?_
  refine gF (v := .ref (ad 48)) hx hb hown hE hK hP 0 rfl rfl layM 48 (by decide) w518 rfl d_M_called_1 ?_
  refine lv_aload_n hx hb d_M_called_4 rfl (lv_at hl 0 rfl) ?_
  refine gF (v := .int (nI x.pile)) hx hb hown hE hK hP 0 rfl rfl layM 55 (by decide) w476 rfl d_M_called_5 ?_
  refine lv_iconst (v := 0) hx hb d_M_called_8 (by decide) ?_
  refine nistN (v := 0) hx hb hK hP hD hS 21 1 rfl rfl (x.pile) (by omega) (by decide) d_M_called_9 (fun H locs hP hD hS => ?_)
  have hP : va_P D vwCl (MW dA h ad (MS.s_tableNames x (va_up x.tableNames x.pile 0))) H := hP
  have hD : va_D A (MW dA h ad (MS.s_tableNames x (va_up x.tableNames x.pile 0))) := hD
  refine lv_aload_n hx hb d_M_called_10 rfl (lv_at hl 0 rfl) ?_
  refine jfI (rnV (As := []) (rest := []) hx hb hml hown hE hK (hN _ _ hS) hP hD (k_next l D dA H.size h ad (MS.s_tableNames x (va_up x.tableNames x.pile 0)) hlx.1 hlx.2.2.1 hlx.2.2.2) (q0 := 0) rfl rfl w480 w479 w481 w482 w328 rfl rfl ⟨⟨by decide, by decide⟩, rfl⟩ ⟨(Nat.le_of_ble_eq_true rfl), (Nat.le_of_ble_eq_true rfl)⟩ rfl hl.1 rfl (Nat.le_of_ble_eq_true rfl) d_M_called_11 ⟨(Nat.le_of_ble_eq_true rfl), (Nat.le_of_ble_eq_true rfl)⟩) hP hD hS hA (fun r1 u2 H locs hp9 hP hD hS => ?_)
  obtain ⟨y3, h9u⟩ : ∃ z9, z9 = u2 := ⟨_, rfl⟩
  subst h9u
  have hP : va_P D vwCl (MW dA h ad y3) H := hP
  have hD : va_D A (MW dA h ad y3) := hD
  obtain ⟨hp9, f_e_4⟩ := hp9
  replace hp9 : bI ((MS.s_tableNames x (va_up x.tableNames x.pile 0)).nx).1 = r1 := Eq.symm hp9
  subst hp9
  refine lv_if_eq hx hb d_M_called_14 (tgt := 49) rfl (fun g5 => ?_) (fun g5 => ?_)
  · have g5 := bI_0 g5
    refine lv_iconst (v := 0) hx hb d_M_called_49 (by decide) ?_
    exact rfZ hx hb hr (bI_nar false) hlk hS y3 (by rw [cl_0 g5]; exact ⟨rfl, f_e_4⟩) hP hD (Nat.le_of_ble_eq_true rfl) (Nat.le_of_ble_eq_true rfl) d_M_called_50
  · have g5 := bI_n0 g5
    have J40 : ∀ (yv : MS) (c1 : x.clF wh = yv.cl2 wh) (c2 : yv.lx) (c3 : yv.nmT x.pile) (c4 : yv.tableNames x.pile ≤ 6) (c5 : yv.pile = x.pile) (c6 : yv.works = x.works) (c7 : x.works = true → yv.rkc) (c8 : byteF yv.tape), ∀ (H : Heap) (locs : List Loc) (ls : Array Slot) (hP : va_P D vwCl (MW dA h ad yv) H) (hD : va_D A (MW dA h ad yv)) (hS : va_S A s.heap H locs) (hl : lv_has ls 4 [(1, .int (nI wh)), (0, .ref h)]), W p l e ({ frames := 6, cells := 0, slots := 0, locals := 114 } : Room) s m ([.ref h, .int (nI wh)] : List Value).toArray below meth c H locs 0 0 (MQ below (va_Qi (fun (r9 : Int32) (u9 : MS) => r9 = bI (x.clF wh).1 ∧ u9 = (x.clF wh).2) (fun (u9 : MS) t9 => bW D A (MW dA h ad u9) t9) A) ([.ref h, .int (nI wh)] : List Value).toArray s 0 0 A) (F0 m 40 ls []) := by
      intro yv c1 c2 c3 c4 c5 c6 c7 c8 H locs ls hP hD hS hl
      refine lv_aload_n hx hb d_M_called_40 rfl (lv_at hl 1 rfl) ?_
      have J51 : ∀ (yz : MS) (d1 : (yv.ndF 40).1 = true) (yze : yz = (yv.ndF 40).2), ∀ (H : Heap) (locs : List Loc) (ls : Array Slot) (hP : va_P D vwCl (MW dA h ad yz) H) (hD : va_D A (MW dA h ad yz)) (hS : va_S A s.heap H locs) (hl : lv_has ls 4 [(1, .int (nI wh)), (0, .ref h)]), W p l e ({ frames := 6, cells := 0, slots := 0, locals := 114 } : Room) s m ([.ref h, .int (nI wh)] : List Value).toArray below meth c H locs 0 0 (MQ below (va_Qi (fun (r9 : Int32) (u9 : MS) => r9 = bI (x.clF wh).1 ∧ u9 = (x.clF wh).2) (fun (u9 : MS) t9 => bW D A (MW dA h ad u9) t9) A) ([.ref h, .int (nI wh)] : List Value).toArray s 0 0 A) (F0 m 51 ls []) := by
        intro yz d1 yze H locs ls hP hD hS hl
        have lz : yz.lx := by rw [yze]; exact (nd_in c2 d1).1
        have kz : yv.tk yz := by rw [yze]; exact tk_nd _ _
        refine lv_aload_n hx hb d_M_called_51 rfl (lv_at hl 1 rfl) ?_
        refine gF (v := .int (nI yz.too)) hx hb hown hE hK hP 0 rfl rfl layM 46 (by decide) w463 rfl d_M_called_52 ?_
        refine lv_istore_n hx hb d_M_called_55 rfl hl (by decide) rfl (fun ls hl => ?_)
        have hl : lv_has ls 4 [(2, .int (nI yz.too)), (1, .int (nI wh)), (0, .ref h)] := hl
        refine lv_aload_n hx hb d_M_called_56 rfl (lv_at hl 2 rfl) ?_
        refine lv_bipush (v := 123) hx hb d_M_called_57 (by decide) ?_
        refine jfI (rnV (As := [.int 123]) (rest := []) hx hb hml hown hE hK (hN _ _ hS) hP hD (k_need l D dA H.size h ad yz 123 lz) (q0 := 0) rfl rfl w1023 w1022 w1024 w1025 w328 rfl rfl ⟨⟨by decide, by decide⟩, rfl⟩ ⟨(Nat.le_of_ble_eq_true rfl), (Nat.le_of_ble_eq_true rfl)⟩ rfl hl.1 rfl (Nat.le_of_ble_eq_true rfl) d_M_called_59 ⟨(Nat.le_of_ble_eq_true rfl), (Nat.le_of_ble_eq_true rfl)⟩) hP hD hS hA (fun r6 u7 H locs hp9 hP hD hS => ?_)
        obtain ⟨y8, h9u⟩ : ∃ z9, z9 = u7 := ⟨_, rfl⟩
        subst h9u
        have hP : va_P D vwCl (MW dA h ad y8) H := hP
        have hD : va_D A (MW dA h ad y8) := hD
        obtain ⟨hp9, f_e_9⟩ := hp9
        replace hp9 : bI (yz.ndF 123).1 = r6 := Eq.symm hp9
        subst hp9
        refine lv_if_ne hx hb d_M_called_62 (tgt := 67) rfl (fun g10 => ?_) (fun g10 => ?_)
        · have g10 := bI_n0 g10
          have lu : y8.lx := by rw [f_e_9]; exact (nd_in lz g10).1
          have k123 : yz.kind = 123 := (nd_in lz g10).2.2.2
          have n123 : yz.ndF 123 = yz.nx := if_pos k123
          have a123 : yz.nx.1 = true := by rw [← n123]; exact g10
          have e123 : y8 = yz.nx.2 := by rw [← n123]; exact f_e_9
          have tu : y8.isT := by rw [e123]; exact (nx_isT a123).1
          have ku : yv.tk y8 := tk_tr kz (by rw [f_e_9]; exact tk_nd _ _)
          have bz : byteF yz.tape := by rw [tk_f kz MS.tape rfl]; exact c8
          have ou : yv.okA y8.frm → yv.okA yz.too := fun o9 => (okA_t (sT_tk kz)).mpr (okA_x bz a123 e123 ((okA_t (sT_tk kz)).mp o9))
          refine lv_aload_n hx hb d_M_called_67 rfl (lv_at hl 2 rfl) ?_
          refine gF (v := .int y8.kind) hx hb hown hE hK hP 0 rfl rfl layM 44 (by decide) w469 rfl d_M_called_68 ?_
          refine lv_bipush (v := 125) hx hb d_M_called_71 (by decide) ?_
          refine lv_icmp_eq hx hb d_M_called_73 (tgt := 80) rfl (fun g11 => ?_) (fun g11 => ?_)
          · have g11 := g11
            refine lv_iconst (v := 0) hx hb d_M_called_80 (by decide) ?_
            refine lv_istore_n hx hb d_M_called_81 rfl hl (by decide) rfl (fun ls hl => ?_)
            have hl : lv_has ls 4 [(3, .int 0), (2, .int (nI yz.too)), (1, .int (nI wh)), (0, .ref h)] := hl
            have L82 : ∀ (k9 : Nat) (ym : MS) (b : Bool) (w : Nat) (m1 : yv.cl2 wh = (if b = true then MS.cl3 (MS.mlF w ym) wh yz.too else ym.cl4 wh yz.too)) (m2 : ym.lx) (m3 : ym.isT) (m4 : yv.tk ym) (m5 : yv.okA ym.frm → yv.okA yz.too) (m6 : b = true → ym.length + 1 ≤ w + ym.too) (hk9 : w + (if b = true then 1 else 0) = k9), ∀ (H : Heap) (locs : List Loc) (ls : Array Slot) (hP : va_P D vwCl (MW dA h ad ym) H) (hD : va_D A (MW dA h ad ym)) (hS : va_S A s.heap H locs) (hl : lv_has ls 4 [(3, .int (bI b)), (2, .int (nI yz.too)), (1, .int (nI wh)), (0, .ref h)]), W p l e ({ frames := 6, cells := 0, slots := 0, locals := 114 } : Room) s m ([.ref h, .int (nI wh)] : List Value).toArray below meth c H locs 0 0 (MQ below (va_Qi (fun (r9 : Int32) (u9 : MS) => r9 = bI (x.clF wh).1 ∧ u9 = (x.clF wh).2) (fun (u9 : MS) t9 => bW D A (MW dA h ad u9) t9) A) ([.ref h, .int (nI wh)] : List Value).toArray s 0 0 A) (F0 m 82 ls []) := by
              intro k9
              induction k9 using Nat.strongRecOn with
              | ind k9 ih82 =>
                intro ym b w m1 m2 m3 m4 m5 m6 hk9 H locs ls hP hD hS hl
                refine lv_iload_n hx hb d_M_called_82 rfl (lv_at hl 0 rfl) ?_
                refine lv_if_eq hx hb d_M_called_83 (tgt := 123) rfl (fun g12 => ?_) (fun g12 => ?_)
                · have g12 := bI_0 g12
                  have m1b : yv.cl2 wh = ym.cl4 wh yz.too := m1.trans (if_neg (by rw [g12]; decide))
                  refine lv_aload_n hx hb d_M_called_123 rfl (lv_at hl 3 rfl) ?_
                  refine lv_bipush (v := 125) hx hb d_M_called_124 (by decide) ?_
                  refine jfI (rnV (As := [.int 125]) (rest := []) hx hb hml hown hE hK (hN _ _ hS) hP hD (k_need l D dA H.size h ad ym 125 m2) (q0 := 0) rfl rfl w1023 w1022 w1024 w1025 w328 rfl rfl ⟨⟨by decide, by decide⟩, rfl⟩ ⟨(Nat.le_of_ble_eq_true rfl), (Nat.le_of_ble_eq_true rfl)⟩ rfl hl.1 rfl (Nat.le_of_ble_eq_true rfl) d_M_called_126 ⟨(Nat.le_of_ble_eq_true rfl), (Nat.le_of_ble_eq_true rfl)⟩) hP hD hS hA (fun r13 u14 H locs hp9 hP hD hS => ?_)
                  obtain ⟨y15, h9u⟩ : ∃ z9, z9 = u14 := ⟨_, rfl⟩
                  subst h9u
                  have hP : va_P D vwCl (MW dA h ad y15) H := hP
                  have hD : va_D A (MW dA h ad y15) := hD
                  obtain ⟨hp9, f_e_16⟩ := hp9
                  replace hp9 : bI (ym.ndF 125).1 = r13 := Eq.symm hp9
                  subst hp9
                  refine lv_if_ne hx hb d_M_called_129 (tgt := 134) rfl (fun g17 => ?_) (fun g17 => ?_)
                  · have g17 := bI_n0 g17
                    have lg : y15.lx := by rw [f_e_16]; exact (nd_in m2 g17).1
                    have kg : yv.tk y15 := tk_tr m4 (by rw [f_e_16]; exact tk_nd _ _)
                    have k125 : ym.kind = 125 := (nd_in m2 g17).2.2.2
                    have og : yv.okA yz.too := m5 ((okA_t (sT_tk m4)).mpr (okA_125 m3 k125))
                    have lg3 : yz.too ≤ y15.length := by rw [tk_f kg MS.length rfl, ← tk_f kz MS.length rfl]; exact lz.2.2.1
                    refine lv_aload_n hx hb d_M_called_134 rfl (lv_at hl 3 rfl) ?_
                    refine gF (v := .int y15.kind) hx hb hown hE hK hP 0 rfl rfl layM 44 (by decide) w469 rfl d_M_called_135 ?_
                    refine lv_bipush (v := 41) hx hb d_M_called_138 (by decide) ?_
                    refine lv_icmp_eq hx hb d_M_called_140 (tgt := 153) rfl (fun g18 => ?_) (fun g18 => ?_)
                    · have g18 := g18
                      refine lv_aload_n hx hb d_M_called_153 rfl (lv_at hl 3 rfl) ?_
                      refine gF (v := .int (bI y15.works)) hx hb hown hE hK hP 0 rfl rfl layM 56 (by decide) w475 rfl d_M_called_154 ?_
                      refine lv_if_eq hx hb d_M_called_157 (tgt := 166) rfl (fun g19 => ?_) (fun g19 => ?_)
                      · have g19 := bI_0 g19
                        refine lv_aload_n hx hb d_M_called_166 rfl (lv_at hl 3 rfl) ?_
                        refine jfI (rnV (As := []) (rest := []) hx hb hml hown hE hK (hN _ _ hS) hP hD (k_next l D dA H.size h ad y15 lg.1 lg.2.2.1 lg.2.2.2) (q0 := 0) rfl rfl w480 w479 w481 w482 w328 rfl rfl ⟨⟨by decide, by decide⟩, rfl⟩ ⟨(Nat.le_of_ble_eq_true rfl), (Nat.le_of_ble_eq_true rfl)⟩ rfl hl.1 rfl (Nat.le_of_ble_eq_true rfl) d_M_called_167 ⟨(Nat.le_of_ble_eq_true rfl), (Nat.le_of_ble_eq_true rfl)⟩) hP hD hS hA (fun r20 u21 H locs hp9 hP hD hS => ?_)
                        obtain ⟨y22, h9u⟩ : ∃ z9, z9 = u21 := ⟨_, rfl⟩
                        subst h9u
                        have hP : va_P D vwCl (MW dA h ad y22) H := hP
                        have hD : va_D A (MW dA h ad y22) := hD
                        obtain ⟨hp9, f_e_23⟩ := hp9
                        replace hp9 : bI (y15.nx).1 = r20 := Eq.symm hp9
                        subst hp9
                        exact rfZ hx hb hr (bI_nar ((y15.nx).1)) hlk hS y22 (by rw [c1, m1b, c4_1 g17 f_e_16, c5_n g18 g19]; exact ⟨rfl, f_e_23⟩) hP hD (Nat.le_of_ble_eq_true rfl) (Nat.le_of_ble_eq_true rfl) d_M_called_170
                      · have g19 := bI_n0 g19
                        have rg : y15.rkc := rkc_tk kg (c7 (by rw [← c6, ← tk_f kg MS.works rfl]; exact g19))
                        have pg : y15.pile = x.pile := (tk_f kg MS.pile rfl).trans c5
                        have ng : y15.nOK y15.pile := by rw [pg]; exact nOK_of hpl (nmT_tk kg c3) (by rw [tk_tn kg]; exact c4) lg.1
                        refine lv_aload_n hx hb d_M_called_160 rfl (lv_at hl 3 rfl) ?_
                        refine lv_iload_n hx hb d_M_called_161 rfl (lv_at hl 2 rfl) ?_
                        refine lv_iload_n hx hb d_M_called_162 rfl (lv_at hl 1 rfl) ?_
                        refine jfV (rnV (As := [.int (nI wh), .int (nI yz.too)]) (rest := []) hx hb hml hown hE hK (hN _ _ hS) hP hD (k_reckon l D dA H.size h ad y15 wh yz.too rg.1 rg.2.1 rg.2.2.1 (okA_mOK ((okA_t (sT_tk kg)).mp og) lg3) ng lg.1 rg.2.2.2.1 rg.2.2.2.2.1 rg.2.2.2.2.2.1 rg.2.2.2.2.2.2.1 rg.2.2.2.2.2.2.2 hwh) (q0 := 0) rfl rfl w1027 w1026 w1028 w1029 w328 rfl rfl ⟨⟨by decide, by decide⟩, rfl⟩ ⟨(Nat.le_of_ble_eq_true rfl), (Nat.le_of_ble_eq_true rfl)⟩ rfl hl.1 rfl (Nat.le_of_ble_eq_true rfl) d_M_called_163 ⟨(Nat.le_of_ble_eq_true rfl), (Nat.le_of_ble_eq_true rfl)⟩) hP hD hS hA (fun u25 H locs hp9 hP hD hS => ?_)
                        obtain ⟨y26, h9u⟩ : ∃ z9, z9 = u25 := ⟨_, rfl⟩
                        subst h9u
                        have hP : va_P D vwCl (MW dA h ad y26) H := hP
                        have hD : va_D A (MW dA h ad y26) := hD
                        have f_e_27 := hp9
                        refine lv_aload_n hx hb d_M_called_166 rfl (lv_at hl 3 rfl) ?_
                        refine jfI (rnV (As := []) (rest := []) hx hb hml hown hE hK (hN _ _ hS) hP hD (k_next l D dA H.size h ad y26 (show y26.lx by rw [f_e_27]; exact lx_rk lg).1 (show y26.lx by rw [f_e_27]; exact lx_rk lg).2.2.1 (show y26.lx by rw [f_e_27]; exact lx_rk lg).2.2.2) (q0 := 0) rfl rfl w480 w479 w481 w482 w328 rfl rfl ⟨⟨by decide, by decide⟩, rfl⟩ ⟨(Nat.le_of_ble_eq_true rfl), (Nat.le_of_ble_eq_true rfl)⟩ rfl hl.1 rfl (Nat.le_of_ble_eq_true rfl) d_M_called_167 ⟨(Nat.le_of_ble_eq_true rfl), (Nat.le_of_ble_eq_true rfl)⟩) hP hD hS hA (fun r28 u29 H locs hp9 hP hD hS => ?_)
                        obtain ⟨y30, h9u⟩ : ∃ z9, z9 = u29 := ⟨_, rfl⟩
                        subst h9u
                        have hP : va_P D vwCl (MW dA h ad y30) H := hP
                        have hD : va_D A (MW dA h ad y30) := hD
                        obtain ⟨hp9, f_e_31⟩ := hp9
                        replace hp9 : bI (y26.nx).1 = r28 := Eq.symm hp9
                        subst hp9
                        exact rfZ hx hb hr (bI_nar ((y26.nx).1)) hlk hS y30 (by rw [c1, m1b, c4_1 g17 f_e_16, c5_y g18 g19 f_e_27]; exact ⟨rfl, f_e_31⟩) hP hD (Nat.le_of_ble_eq_true rfl) (Nat.le_of_ble_eq_true rfl) d_M_called_170
                    · have g18 := g18
                      refine lv_aload_n hx hb d_M_called_143 rfl (lv_at hl 3 rfl) ?_
                      refine lv_iconst (v := 2) hx hb d_M_called_144 (by decide) ?_
                      refine lv_aload_n hx hb d_M_called_145 rfl (lv_at hl 3 rfl) ?_
                      refine gF (v := .int (nI y15.frm)) hx hb hown hE hK hP 0 rfl rfl layM 45 (by decide) w464 rfl d_M_called_146 ?_
                      refine jfI (rnV (As := [.int 2, .int (nI y15.frm)]) (rest := []) hx hb hml hown hE hK (hN _ _ hS) hP hD (k_flaw_0 l D dA H.size h ad y15 2 (nI y15.frm) lg.2.2.2) (q0 := 0) rfl rfl w431 w430 w432 w433 w328 rfl rfl ⟨⟨by decide, by decide⟩, rfl⟩ ⟨(Nat.le_of_ble_eq_true rfl), (Nat.le_of_ble_eq_true rfl)⟩ rfl hl.1 rfl (Nat.le_of_ble_eq_true rfl) d_M_called_149 ⟨(Nat.le_of_ble_eq_true rfl), (Nat.le_of_ble_eq_true rfl)⟩) hP hD hS hA (fun r32 u33 H locs hp9 hP hD hS => ?_)
                      have hP : va_P D vwCl (MW dA h ad (MS.s_faultPlace (MS.s_faultCode y15 2) (nI y15.frm))) H := hP
                      have hD : va_D A (MW dA h ad (MS.s_faultPlace (MS.s_faultCode y15 2) (nI y15.frm))) := hD
                      replace hp9 : bI false = r32 := Eq.symm hp9
                      subst hp9
                      exact rfZ hx hb hr (bI_nar false) hlk hS (MS.s_faultPlace (MS.s_faultCode y15 2) (nI y15.frm)) (by rw [c1, m1b, c4_1 g17 f_e_16, c5_x g18]; exact ⟨rfl, rfl⟩) hP hD (Nat.le_of_ble_eq_true rfl) (Nat.le_of_ble_eq_true rfl) d_M_called_152
                  · have g17 := bI_0 g17
                    refine lv_iconst (v := 0) hx hb d_M_called_132 (by decide) ?_
                    exact rfZ hx hb hr (bI_nar false) hlk hS y15 (by rw [c1, m1b, c4_0 g17]; exact ⟨rfl, f_e_16⟩) hP hD (Nat.le_of_ble_eq_true rfl) (Nat.le_of_ble_eq_true rfl) d_M_called_133
                · have g12 := bI_n0 g12
                  have m1b : yv.cl2 wh = MS.cl3 (MS.mlF w ym) wh yz.too := m1.trans (if_pos g12)
                  have m6b := m6 g12
                  have m2t := m2.2.2.1
                  refine lv_aload_n hx hb d_M_called_86 rfl (lv_at hl 3 rfl) ?_
                  refine jfI (rnV (As := []) (rest := []) hx hb hml hown hE hK (hN _ _ hS) hP hD (k_match l D dA H.size h ad ym m2) (q0 := 0) rfl rfl w1031 w1030 w1032 w1033 w328 rfl rfl ⟨⟨by decide, by decide⟩, rfl⟩ ⟨(Nat.le_of_ble_eq_true rfl), (Nat.le_of_ble_eq_true rfl)⟩ rfl hl.1 rfl (Nat.le_of_ble_eq_true rfl) d_M_called_87 ⟨(Nat.le_of_ble_eq_true rfl), (Nat.le_of_ble_eq_true rfl)⟩) hP hD hS hA (fun r34 u35 H locs hp9 hP hD hS => ?_)
                  obtain ⟨y36, h9u⟩ : ∃ z9, z9 = u35 := ⟨_, rfl⟩
                  subst h9u
                  have hP : va_P D vwCl (MW dA h ad y36) H := hP
                  have hD : va_D A (MW dA h ad y36) := hD
                  obtain ⟨hp9, f_e_37⟩ := hp9
                  replace hp9 : bI (ym.mcF).1 = r34 := Eq.symm hp9
                  subst hp9
                  refine lv_if_ne hx hb d_M_called_90 (tgt := 95) rfl (fun g38 => ?_) (fun g38 => ?_)
                  · have g38 := bI_n0 g38
                    have bm : byteF ym.tape := by rw [tk_f m4 MS.tape rfl]; exact c8
                    have me := mc_in bm m2 m3 (show ym.mcF = (true, y36) from Prod.ext g38 f_e_37.symm)
                    have be : byteF y36.tape := by rw [me.2.2.1.1]; exact bm
                    have ml := me.2.2.2.2.1
                    refine lv_aload_n hx hb d_M_called_95 rfl (lv_at hl 3 rfl) ?_
                    refine gF (v := .int y36.kind) hx hb hown hE hK hP 0 rfl rfl layM 44 (by decide) w469 rfl d_M_called_96 ?_
                    refine lv_bipush (v := 44) hx hb d_M_called_99 (by decide) ?_
                    refine lv_icmp_ne hx hb d_M_called_101 (tgt := 108) rfl (fun g39 => ?_) (fun g39 => ?_)
                    · have g39 := g39
                      refine lv_iconst (v := 0) hx hb d_M_called_108 (by decide) ?_
                      refine lv_istore_n hx hb d_M_called_109 rfl hl (by decide) rfl (fun ls hl => ?_)
                      have hl : lv_has ls 4 [(3, .int 0), (2, .int (nI yz.too)), (1, .int (nI wh)), (0, .ref h)] := hl
                      refine lv_iload_n hx hb d_M_called_110 rfl (lv_at hl 0 rfl) ?_
                      refine lv_if_eq hx hb d_M_called_111 (tgt := 82) rfl (fun _ => ?_) (fun h9 => absurd (by decide) h9)
                      exact ih82 _ (by rw [← hk9, if_pos g12]; first | (rw [if_pos rfl]; omega) | (rw [if_neg (by decide)]; omega)) y36 false (w - 1) (m1b.trans (ml_c2 (ml_e (by omega) g38 f_e_37 g39))) me.1 me.2.1 (tk_tr m4 me.2.2.2.1) (fun o9 => m5 ((okA_t (sT_tk m4)).mpr (me.2.2.2.2.2 ((okA_t (sT_tk m4)).mp o9)))) (fun z9 => Bool.noConfusion z9) rfl H _ ls hP hD hS (lv_sub hl [0, 1, 2, 3] rfl)
                    · have g39 := g39
                      refine lv_iconst (v := 1) hx hb d_M_called_104 (by decide) ?_
                      refine lv_goto hx hb d_M_called_105 (tgt := 109) rfl ?_
                      refine lv_istore_n hx hb d_M_called_109 rfl hl (by decide) rfl (fun ls hl => ?_)
                      have hl : lv_has ls 4 [(3, .int 1), (2, .int (nI yz.too)), (1, .int (nI wh)), (0, .ref h)] := hl
                      refine lv_iload_n hx hb d_M_called_110 rfl (lv_at hl 0 rfl) ?_
                      refine lv_if_eq hx hb d_M_called_111 (tgt := 82) rfl (fun h9 => absurd h9 (by decide)) (fun _ => ?_)
                      refine lv_aload_n hx hb d_M_called_114 rfl (lv_at hl 3 rfl) ?_
                      refine jfI (rnV (As := []) (rest := []) hx hb hml hown hE hK (hN _ _ hS) hP hD (k_next l D dA H.size h ad y36 me.1.1 me.1.2.2.1 me.1.2.2.2) (q0 := 0) rfl rfl w480 w479 w481 w482 w328 rfl rfl ⟨⟨by decide, by decide⟩, rfl⟩ ⟨(Nat.le_of_ble_eq_true rfl), (Nat.le_of_ble_eq_true rfl)⟩ rfl hl.1 rfl (Nat.le_of_ble_eq_true rfl) d_M_called_115 ⟨(Nat.le_of_ble_eq_true rfl), (Nat.le_of_ble_eq_true rfl)⟩) hP hD hS hA (fun r40 u41 H locs hp9 hP hD hS => ?_)
                      obtain ⟨y42, h9u⟩ : ∃ z9, z9 = u41 := ⟨_, rfl⟩
                      subst h9u
                      have hP : va_P D vwCl (MW dA h ad y42) H := hP
                      have hD : va_D A (MW dA h ad y42) := hD
                      obtain ⟨hp9, f_e_43⟩ := hp9
                      replace hp9 : bI (y36.nx).1 = r40 := Eq.symm hp9
                      subst hp9
                      refine lv_if_ne hx hb d_M_called_118 (tgt := 82) rfl (fun g44 => ?_) (fun g44 => ?_)
                      · have g44 := bI_n0 g44
                        exact ih82 _ (by rw [← hk9, if_pos g12]; first | (rw [if_pos rfl]; omega) | (rw [if_neg (by decide)]; omega)) y42 true (w - 1) (m1b.trans (ml_c1 (ml_m (by omega) g38 f_e_37 g39 g44 f_e_43))) (by rw [f_e_43]; exact (nx_in me.1 g44).1) (by rw [f_e_43]; exact (nx_isT g44).1) (tk_tr m4 (tk_tr me.2.2.2.1 (by rw [f_e_43]; exact tk_nx _))) (fun o9 => m5 ((okA_t (sT_tk m4)).mpr (me.2.2.2.2.2 ((okA_t (sT_tk m4)).mp ((okA_t (sT_tk (tk_tr m4 me.2.2.2.1))).mpr (okA_44 be me.2.1 g39 g44 f_e_43 ((okA_t (sT_tk (tk_tr m4 me.2.2.2.1))).mp o9))))))) (fun _ => by have a9 := (nx_in me.1 g44).2.1; have b9 : y42.frm ≤ y42.too := (by rw [f_e_43]; exact (nx_in me.1 g44).1 : y42.lx).2.1; rw [← f_e_43] at a9; have d9 : y42.length = ym.length := (by rw [f_e_43]; exact (nx_sT _).2.trans me.2.2.1.2); omega) rfl H _ ls hP hD hS (lv_sub hl [0, 1, 2, 3] rfl)
                      · have g44 := bI_0 g44
                        refine lv_iconst (v := 0) hx hb d_M_called_121 (by decide) ?_
                        exact rfZ hx hb hr (bI_nar false) hlk hS y42 (by rw [c1, m1b, ml_n (by omega) g38 f_e_37 g39 g44]; exact ⟨rfl, f_e_43⟩) hP hD (Nat.le_of_ble_eq_true rfl) (Nat.le_of_ble_eq_true rfl) d_M_called_122
                  · have g38 := bI_0 g38
                    refine lv_iconst (v := 0) hx hb d_M_called_93 (by decide) ?_
                    exact rfZ hx hb hr (bI_nar false) hlk hS y36 (by rw [c1, m1b, ml_0 (by omega) g38]; exact ⟨rfl, f_e_37⟩) hP hD (Nat.le_of_ble_eq_true rfl) (Nat.le_of_ble_eq_true rfl) d_M_called_94
            exact L82 _ y8 false (y8.length + 1) ((c2_e d1 yze g10 f_e_9 g11).trans (if_neg (by decide)).symm) lu tu ku ou (fun z9 => Bool.noConfusion z9) rfl H _ ls hP hD hS (lv_sub hl [0, 1, 2, 3] rfl)
          · have g11 := g11
            refine lv_iconst (v := 1) hx hb d_M_called_76 (by decide) ?_
            refine lv_goto hx hb d_M_called_77 (tgt := 81) rfl ?_
            refine lv_istore_n hx hb d_M_called_81 rfl hl (by decide) rfl (fun ls hl => ?_)
            have hl : lv_has ls 4 [(3, .int 1), (2, .int (nI yz.too)), (1, .int (nI wh)), (0, .ref h)] := hl
            have L82 : ∀ (k9 : Nat) (ym : MS) (b : Bool) (w : Nat) (m1 : yv.cl2 wh = (if b = true then MS.cl3 (MS.mlF w ym) wh yz.too else ym.cl4 wh yz.too)) (m2 : ym.lx) (m3 : ym.isT) (m4 : yv.tk ym) (m5 : yv.okA ym.frm → yv.okA yz.too) (m6 : b = true → ym.length + 1 ≤ w + ym.too) (hk9 : w + (if b = true then 1 else 0) = k9), ∀ (H : Heap) (locs : List Loc) (ls : Array Slot) (hP : va_P D vwCl (MW dA h ad ym) H) (hD : va_D A (MW dA h ad ym)) (hS : va_S A s.heap H locs) (hl : lv_has ls 4 [(3, .int (bI b)), (2, .int (nI yz.too)), (1, .int (nI wh)), (0, .ref h)]), W p l e ({ frames := 6, cells := 0, slots := 0, locals := 114 } : Room) s m ([.ref h, .int (nI wh)] : List Value).toArray below meth c H locs 0 0 (MQ below (va_Qi (fun (r9 : Int32) (u9 : MS) => r9 = bI (x.clF wh).1 ∧ u9 = (x.clF wh).2) (fun (u9 : MS) t9 => bW D A (MW dA h ad u9) t9) A) ([.ref h, .int (nI wh)] : List Value).toArray s 0 0 A) (F0 m 82 ls []) := by
              intro k9
              induction k9 using Nat.strongRecOn with
              | ind k9 ih82 =>
                intro ym b w m1 m2 m3 m4 m5 m6 hk9 H locs ls hP hD hS hl
                refine lv_iload_n hx hb d_M_called_82 rfl (lv_at hl 0 rfl) ?_
                refine lv_if_eq hx hb d_M_called_83 (tgt := 123) rfl (fun g45 => ?_) (fun g45 => ?_)
                · have g45 := bI_0 g45
                  have m1b : yv.cl2 wh = ym.cl4 wh yz.too := m1.trans (if_neg (by rw [g45]; decide))
                  refine lv_aload_n hx hb d_M_called_123 rfl (lv_at hl 3 rfl) ?_
                  refine lv_bipush (v := 125) hx hb d_M_called_124 (by decide) ?_
                  refine jfI (rnV (As := [.int 125]) (rest := []) hx hb hml hown hE hK (hN _ _ hS) hP hD (k_need l D dA H.size h ad ym 125 m2) (q0 := 0) rfl rfl w1023 w1022 w1024 w1025 w328 rfl rfl ⟨⟨by decide, by decide⟩, rfl⟩ ⟨(Nat.le_of_ble_eq_true rfl), (Nat.le_of_ble_eq_true rfl)⟩ rfl hl.1 rfl (Nat.le_of_ble_eq_true rfl) d_M_called_126 ⟨(Nat.le_of_ble_eq_true rfl), (Nat.le_of_ble_eq_true rfl)⟩) hP hD hS hA (fun r46 u47 H locs hp9 hP hD hS => ?_)
                  obtain ⟨y48, h9u⟩ : ∃ z9, z9 = u47 := ⟨_, rfl⟩
                  subst h9u
                  have hP : va_P D vwCl (MW dA h ad y48) H := hP
                  have hD : va_D A (MW dA h ad y48) := hD
                  obtain ⟨hp9, f_e_49⟩ := hp9
                  replace hp9 : bI (ym.ndF 125).1 = r46 := Eq.symm hp9
                  subst hp9
                  refine lv_if_ne hx hb d_M_called_129 (tgt := 134) rfl (fun g50 => ?_) (fun g50 => ?_)
                  · have g50 := bI_n0 g50
                    have lg : y48.lx := by rw [f_e_49]; exact (nd_in m2 g50).1
                    have kg : yv.tk y48 := tk_tr m4 (by rw [f_e_49]; exact tk_nd _ _)
                    have k125 : ym.kind = 125 := (nd_in m2 g50).2.2.2
                    have og : yv.okA yz.too := m5 ((okA_t (sT_tk m4)).mpr (okA_125 m3 k125))
                    have lg3 : yz.too ≤ y48.length := by rw [tk_f kg MS.length rfl, ← tk_f kz MS.length rfl]; exact lz.2.2.1
                    refine lv_aload_n hx hb d_M_called_134 rfl (lv_at hl 3 rfl) ?_
                    refine gF (v := .int y48.kind) hx hb hown hE hK hP 0 rfl rfl layM 44 (by decide) w469 rfl d_M_called_135 ?_
                    refine lv_bipush (v := 41) hx hb d_M_called_138 (by decide) ?_
                    refine lv_icmp_eq hx hb d_M_called_140 (tgt := 153) rfl (fun g51 => ?_) (fun g51 => ?_)
                    · have g51 := g51
                      refine lv_aload_n hx hb d_M_called_153 rfl (lv_at hl 3 rfl) ?_
                      refine gF (v := .int (bI y48.works)) hx hb hown hE hK hP 0 rfl rfl layM 56 (by decide) w475 rfl d_M_called_154 ?_
                      refine lv_if_eq hx hb d_M_called_157 (tgt := 166) rfl (fun g52 => ?_) (fun g52 => ?_)
                      · have g52 := bI_0 g52
                        refine lv_aload_n hx hb d_M_called_166 rfl (lv_at hl 3 rfl) ?_
                        refine jfI (rnV (As := []) (rest := []) hx hb hml hown hE hK (hN _ _ hS) hP hD (k_next l D dA H.size h ad y48 lg.1 lg.2.2.1 lg.2.2.2) (q0 := 0) rfl rfl w480 w479 w481 w482 w328 rfl rfl ⟨⟨by decide, by decide⟩, rfl⟩ ⟨(Nat.le_of_ble_eq_true rfl), (Nat.le_of_ble_eq_true rfl)⟩ rfl hl.1 rfl (Nat.le_of_ble_eq_true rfl) d_M_called_167 ⟨(Nat.le_of_ble_eq_true rfl), (Nat.le_of_ble_eq_true rfl)⟩) hP hD hS hA (fun r53 u54 H locs hp9 hP hD hS => ?_)
                        obtain ⟨y55, h9u⟩ : ∃ z9, z9 = u54 := ⟨_, rfl⟩
                        subst h9u
                        have hP : va_P D vwCl (MW dA h ad y55) H := hP
                        have hD : va_D A (MW dA h ad y55) := hD
                        obtain ⟨hp9, f_e_56⟩ := hp9
                        replace hp9 : bI (y48.nx).1 = r53 := Eq.symm hp9
                        subst hp9
                        exact rfZ hx hb hr (bI_nar ((y48.nx).1)) hlk hS y55 (by rw [c1, m1b, c4_1 g50 f_e_49, c5_n g51 g52]; exact ⟨rfl, f_e_56⟩) hP hD (Nat.le_of_ble_eq_true rfl) (Nat.le_of_ble_eq_true rfl) d_M_called_170
                      · have g52 := bI_n0 g52
                        have rg : y48.rkc := rkc_tk kg (c7 (by rw [← c6, ← tk_f kg MS.works rfl]; exact g52))
                        have pg : y48.pile = x.pile := (tk_f kg MS.pile rfl).trans c5
                        have ng : y48.nOK y48.pile := by rw [pg]; exact nOK_of hpl (nmT_tk kg c3) (by rw [tk_tn kg]; exact c4) lg.1
                        refine lv_aload_n hx hb d_M_called_160 rfl (lv_at hl 3 rfl) ?_
                        refine lv_iload_n hx hb d_M_called_161 rfl (lv_at hl 2 rfl) ?_
                        refine lv_iload_n hx hb d_M_called_162 rfl (lv_at hl 1 rfl) ?_
                        refine jfV (rnV (As := [.int (nI wh), .int (nI yz.too)]) (rest := []) hx hb hml hown hE hK (hN _ _ hS) hP hD (k_reckon l D dA H.size h ad y48 wh yz.too rg.1 rg.2.1 rg.2.2.1 (okA_mOK ((okA_t (sT_tk kg)).mp og) lg3) ng lg.1 rg.2.2.2.1 rg.2.2.2.2.1 rg.2.2.2.2.2.1 rg.2.2.2.2.2.2.1 rg.2.2.2.2.2.2.2 hwh) (q0 := 0) rfl rfl w1027 w1026 w1028 w1029 w328 rfl rfl ⟨⟨by decide, by decide⟩, rfl⟩ ⟨(Nat.le_of_ble_eq_true rfl), (Nat.le_of_ble_eq_true rfl)⟩ rfl hl.1 rfl (Nat.le_of_ble_eq_true rfl) d_M_called_163 ⟨(Nat.le_of_ble_eq_true rfl), (Nat.le_of_ble_eq_true rfl)⟩) hP hD hS hA (fun u58 H locs hp9 hP hD hS => ?_)
                        obtain ⟨y59, h9u⟩ : ∃ z9, z9 = u58 := ⟨_, rfl⟩
                        subst h9u
                        have hP : va_P D vwCl (MW dA h ad y59) H := hP
                        have hD : va_D A (MW dA h ad y59) := hD
                        have f_e_60 := hp9
                        refine lv_aload_n hx hb d_M_called_166 rfl (lv_at hl 3 rfl) ?_
                        refine jfI (rnV (As := []) (rest := []) hx hb hml hown hE hK (hN _ _ hS) hP hD (k_next l D dA H.size h ad y59 (show y59.lx by rw [f_e_60]; exact lx_rk lg).1 (show y59.lx by rw [f_e_60]; exact lx_rk lg).2.2.1 (show y59.lx by rw [f_e_60]; exact lx_rk lg).2.2.2) (q0 := 0) rfl rfl w480 w479 w481 w482 w328 rfl rfl ⟨⟨by decide, by decide⟩, rfl⟩ ⟨(Nat.le_of_ble_eq_true rfl), (Nat.le_of_ble_eq_true rfl)⟩ rfl hl.1 rfl (Nat.le_of_ble_eq_true rfl) d_M_called_167 ⟨(Nat.le_of_ble_eq_true rfl), (Nat.le_of_ble_eq_true rfl)⟩) hP hD hS hA (fun r61 u62 H locs hp9 hP hD hS => ?_)
                        obtain ⟨y63, h9u⟩ : ∃ z9, z9 = u62 := ⟨_, rfl⟩
                        subst h9u
                        have hP : va_P D vwCl (MW dA h ad y63) H := hP
                        have hD : va_D A (MW dA h ad y63) := hD
                        obtain ⟨hp9, f_e_64⟩ := hp9
                        replace hp9 : bI (y59.nx).1 = r61 := Eq.symm hp9
                        subst hp9
                        exact rfZ hx hb hr (bI_nar ((y59.nx).1)) hlk hS y63 (by rw [c1, m1b, c4_1 g50 f_e_49, c5_y g51 g52 f_e_60]; exact ⟨rfl, f_e_64⟩) hP hD (Nat.le_of_ble_eq_true rfl) (Nat.le_of_ble_eq_true rfl) d_M_called_170
                    · have g51 := g51
                      refine lv_aload_n hx hb d_M_called_143 rfl (lv_at hl 3 rfl) ?_
                      refine lv_iconst (v := 2) hx hb d_M_called_144 (by decide) ?_
                      refine lv_aload_n hx hb d_M_called_145 rfl (lv_at hl 3 rfl) ?_
                      refine gF (v := .int (nI y48.frm)) hx hb hown hE hK hP 0 rfl rfl layM 45 (by decide) w464 rfl d_M_called_146 ?_
                      refine jfI (rnV (As := [.int 2, .int (nI y48.frm)]) (rest := []) hx hb hml hown hE hK (hN _ _ hS) hP hD (k_flaw_0 l D dA H.size h ad y48 2 (nI y48.frm) lg.2.2.2) (q0 := 0) rfl rfl w431 w430 w432 w433 w328 rfl rfl ⟨⟨by decide, by decide⟩, rfl⟩ ⟨(Nat.le_of_ble_eq_true rfl), (Nat.le_of_ble_eq_true rfl)⟩ rfl hl.1 rfl (Nat.le_of_ble_eq_true rfl) d_M_called_149 ⟨(Nat.le_of_ble_eq_true rfl), (Nat.le_of_ble_eq_true rfl)⟩) hP hD hS hA (fun r65 u66 H locs hp9 hP hD hS => ?_)
                      have hP : va_P D vwCl (MW dA h ad (MS.s_faultPlace (MS.s_faultCode y48 2) (nI y48.frm))) H := hP
                      have hD : va_D A (MW dA h ad (MS.s_faultPlace (MS.s_faultCode y48 2) (nI y48.frm))) := hD
                      replace hp9 : bI false = r65 := Eq.symm hp9
                      subst hp9
                      exact rfZ hx hb hr (bI_nar false) hlk hS (MS.s_faultPlace (MS.s_faultCode y48 2) (nI y48.frm)) (by rw [c1, m1b, c4_1 g50 f_e_49, c5_x g51]; exact ⟨rfl, rfl⟩) hP hD (Nat.le_of_ble_eq_true rfl) (Nat.le_of_ble_eq_true rfl) d_M_called_152
                  · have g50 := bI_0 g50
                    refine lv_iconst (v := 0) hx hb d_M_called_132 (by decide) ?_
                    exact rfZ hx hb hr (bI_nar false) hlk hS y48 (by rw [c1, m1b, c4_0 g50]; exact ⟨rfl, f_e_49⟩) hP hD (Nat.le_of_ble_eq_true rfl) (Nat.le_of_ble_eq_true rfl) d_M_called_133
                · have g45 := bI_n0 g45
                  have m1b : yv.cl2 wh = MS.cl3 (MS.mlF w ym) wh yz.too := m1.trans (if_pos g45)
                  have m6b := m6 g45
                  have m2t := m2.2.2.1
                  refine lv_aload_n hx hb d_M_called_86 rfl (lv_at hl 3 rfl) ?_
                  refine jfI (rnV (As := []) (rest := []) hx hb hml hown hE hK (hN _ _ hS) hP hD (k_match l D dA H.size h ad ym m2) (q0 := 0) rfl rfl w1031 w1030 w1032 w1033 w328 rfl rfl ⟨⟨by decide, by decide⟩, rfl⟩ ⟨(Nat.le_of_ble_eq_true rfl), (Nat.le_of_ble_eq_true rfl)⟩ rfl hl.1 rfl (Nat.le_of_ble_eq_true rfl) d_M_called_87 ⟨(Nat.le_of_ble_eq_true rfl), (Nat.le_of_ble_eq_true rfl)⟩) hP hD hS hA (fun r67 u68 H locs hp9 hP hD hS => ?_)
                  obtain ⟨y69, h9u⟩ : ∃ z9, z9 = u68 := ⟨_, rfl⟩
                  subst h9u
                  have hP : va_P D vwCl (MW dA h ad y69) H := hP
                  have hD : va_D A (MW dA h ad y69) := hD
                  obtain ⟨hp9, f_e_70⟩ := hp9
                  replace hp9 : bI (ym.mcF).1 = r67 := Eq.symm hp9
                  subst hp9
                  refine lv_if_ne hx hb d_M_called_90 (tgt := 95) rfl (fun g71 => ?_) (fun g71 => ?_)
                  · have g71 := bI_n0 g71
                    have bm : byteF ym.tape := by rw [tk_f m4 MS.tape rfl]; exact c8
                    have me := mc_in bm m2 m3 (show ym.mcF = (true, y69) from Prod.ext g71 f_e_70.symm)
                    have be : byteF y69.tape := by rw [me.2.2.1.1]; exact bm
                    have ml := me.2.2.2.2.1
                    refine lv_aload_n hx hb d_M_called_95 rfl (lv_at hl 3 rfl) ?_
                    refine gF (v := .int y69.kind) hx hb hown hE hK hP 0 rfl rfl layM 44 (by decide) w469 rfl d_M_called_96 ?_
                    refine lv_bipush (v := 44) hx hb d_M_called_99 (by decide) ?_
                    refine lv_icmp_ne hx hb d_M_called_101 (tgt := 108) rfl (fun g72 => ?_) (fun g72 => ?_)
                    · have g72 := g72
                      refine lv_iconst (v := 0) hx hb d_M_called_108 (by decide) ?_
                      refine lv_istore_n hx hb d_M_called_109 rfl hl (by decide) rfl (fun ls hl => ?_)
                      have hl : lv_has ls 4 [(3, .int 0), (2, .int (nI yz.too)), (1, .int (nI wh)), (0, .ref h)] := hl
                      refine lv_iload_n hx hb d_M_called_110 rfl (lv_at hl 0 rfl) ?_
                      refine lv_if_eq hx hb d_M_called_111 (tgt := 82) rfl (fun _ => ?_) (fun h9 => absurd (by decide) h9)
                      exact ih82 _ (by rw [← hk9, if_pos g45]; first | (rw [if_pos rfl]; omega) | (rw [if_neg (by decide)]; omega)) y69 false (w - 1) (m1b.trans (ml_c2 (ml_e (by omega) g71 f_e_70 g72))) me.1 me.2.1 (tk_tr m4 me.2.2.2.1) (fun o9 => m5 ((okA_t (sT_tk m4)).mpr (me.2.2.2.2.2 ((okA_t (sT_tk m4)).mp o9)))) (fun z9 => Bool.noConfusion z9) rfl H _ ls hP hD hS (lv_sub hl [0, 1, 2, 3] rfl)
                    · have g72 := g72
                      refine lv_iconst (v := 1) hx hb d_M_called_104 (by decide) ?_
                      refine lv_goto hx hb d_M_called_105 (tgt := 109) rfl ?_
                      refine lv_istore_n hx hb d_M_called_109 rfl hl (by decide) rfl (fun ls hl => ?_)
                      have hl : lv_has ls 4 [(3, .int 1), (2, .int (nI yz.too)), (1, .int (nI wh)), (0, .ref h)] := hl
                      refine lv_iload_n hx hb d_M_called_110 rfl (lv_at hl 0 rfl) ?_
                      refine lv_if_eq hx hb d_M_called_111 (tgt := 82) rfl (fun h9 => absurd h9 (by decide)) (fun _ => ?_)
                      refine lv_aload_n hx hb d_M_called_114 rfl (lv_at hl 3 rfl) ?_
                      refine jfI (rnV (As := []) (rest := []) hx hb hml hown hE hK (hN _ _ hS) hP hD (k_next l D dA H.size h ad y69 me.1.1 me.1.2.2.1 me.1.2.2.2) (q0 := 0) rfl rfl w480 w479 w481 w482 w328 rfl rfl ⟨⟨by decide, by decide⟩, rfl⟩ ⟨(Nat.le_of_ble_eq_true rfl), (Nat.le_of_ble_eq_true rfl)⟩ rfl hl.1 rfl (Nat.le_of_ble_eq_true rfl) d_M_called_115 ⟨(Nat.le_of_ble_eq_true rfl), (Nat.le_of_ble_eq_true rfl)⟩) hP hD hS hA (fun r73 u74 H locs hp9 hP hD hS => ?_)
                      obtain ⟨y75, h9u⟩ : ∃ z9, z9 = u74 := ⟨_, rfl⟩
                      subst h9u
                      have hP : va_P D vwCl (MW dA h ad y75) H := hP
                      have hD : va_D A (MW dA h ad y75) := hD
                      obtain ⟨hp9, f_e_76⟩ := hp9
                      replace hp9 : bI (y69.nx).1 = r73 := Eq.symm hp9
                      subst hp9
                      refine lv_if_ne hx hb d_M_called_118 (tgt := 82) rfl (fun g77 => ?_) (fun g77 => ?_)
                      · have g77 := bI_n0 g77
                        exact ih82 _ (by rw [← hk9, if_pos g45]; first | (rw [if_pos rfl]; omega) | (rw [if_neg (by decide)]; omega)) y75 true (w - 1) (m1b.trans (ml_c1 (ml_m (by omega) g71 f_e_70 g72 g77 f_e_76))) (by rw [f_e_76]; exact (nx_in me.1 g77).1) (by rw [f_e_76]; exact (nx_isT g77).1) (tk_tr m4 (tk_tr me.2.2.2.1 (by rw [f_e_76]; exact tk_nx _))) (fun o9 => m5 ((okA_t (sT_tk m4)).mpr (me.2.2.2.2.2 ((okA_t (sT_tk m4)).mp ((okA_t (sT_tk (tk_tr m4 me.2.2.2.1))).mpr (okA_44 be me.2.1 g72 g77 f_e_76 ((okA_t (sT_tk (tk_tr m4 me.2.2.2.1))).mp o9))))))) (fun _ => by have a9 := (nx_in me.1 g77).2.1; have b9 : y75.frm ≤ y75.too := (by rw [f_e_76]; exact (nx_in me.1 g77).1 : y75.lx).2.1; rw [← f_e_76] at a9; have d9 : y75.length = ym.length := (by rw [f_e_76]; exact (nx_sT _).2.trans me.2.2.1.2); omega) rfl H _ ls hP hD hS (lv_sub hl [0, 1, 2, 3] rfl)
                      · have g77 := bI_0 g77
                        refine lv_iconst (v := 0) hx hb d_M_called_121 (by decide) ?_
                        exact rfZ hx hb hr (bI_nar false) hlk hS y75 (by rw [c1, m1b, ml_n (by omega) g71 f_e_70 g72 g77]; exact ⟨rfl, f_e_76⟩) hP hD (Nat.le_of_ble_eq_true rfl) (Nat.le_of_ble_eq_true rfl) d_M_called_122
                  · have g71 := bI_0 g71
                    refine lv_iconst (v := 0) hx hb d_M_called_93 (by decide) ?_
                    exact rfZ hx hb hr (bI_nar false) hlk hS y69 (by rw [c1, m1b, ml_0 (by omega) g71]; exact ⟨rfl, f_e_70⟩) hP hD (Nat.le_of_ble_eq_true rfl) (Nat.le_of_ble_eq_true rfl) d_M_called_94
            exact L82 _ y8 true (y8.length + 1) ((c2_m d1 yze g10 f_e_9 g11).trans (if_pos rfl).symm) lu tu ku ou (fun _ => by omega) rfl H _ ls hP hD hS (lv_sub hl [0, 1, 2, 3] rfl)
        · have g10 := bI_0 g10
          refine lv_iconst (v := 0) hx hb d_M_called_65 (by decide) ?_
          exact rfZ hx hb hr (bI_nar false) hlk hS y8 (by rw [c1, c2_1 d1 yze g10]; exact ⟨rfl, f_e_9⟩) hP hD (Nat.le_of_ble_eq_true rfl) (Nat.le_of_ble_eq_true rfl) d_M_called_66
      refine lv_bipush (v := 40) hx hb d_M_called_41 (by decide) ?_
      refine jfI (rnV (As := [.int 40]) (rest := []) hx hb hml hown hE hK (hN _ _ hS) hP hD (k_need l D dA H.size h ad yv 40 c2) (q0 := 0) rfl rfl w1023 w1022 w1024 w1025 w328 rfl rfl ⟨⟨by decide, by decide⟩, rfl⟩ ⟨(Nat.le_of_ble_eq_true rfl), (Nat.le_of_ble_eq_true rfl)⟩ rfl hl.1 rfl (Nat.le_of_ble_eq_true rfl) d_M_called_43 ⟨(Nat.le_of_ble_eq_true rfl), (Nat.le_of_ble_eq_true rfl)⟩) hP hD hS hA (fun r78 u79 H locs hp9 hP hD hS => ?_)
      obtain ⟨y80, h9u⟩ : ∃ z9, z9 = u79 := ⟨_, rfl⟩
      subst h9u
      have hP : va_P D vwCl (MW dA h ad y80) H := hP
      have hD : va_D A (MW dA h ad y80) := hD
      obtain ⟨hp9, f_e_81⟩ := hp9
      replace hp9 : bI (yv.ndF 40).1 = r78 := Eq.symm hp9
      subst hp9
      refine lv_if_ne hx hb d_M_called_46 (tgt := 51) rfl (fun g82 => ?_) (fun g82 => ?_)
      · have g82 := bI_n0 g82
        exact J51 y80 g82 f_e_81 H _ ls hP hD hS (lv_sub hl [0, 1] rfl)
      · have g82 := bI_0 g82
        refine lv_iconst (v := 0) hx hb d_M_called_49 (by decide) ?_
        exact rfZ hx hb hr (bI_nar false) hlk hS y80 (by rw [c1, c2_0 g82]; exact ⟨rfl, f_e_81⟩) hP hD (Nat.le_of_ble_eq_true rfl) (Nat.le_of_ble_eq_true rfl) d_M_called_50
    have l1 : y3.lx := by rw [f_e_4]; exact (nx_in (show x.cl0.lx from hlx) g5).1
    have T1 : x.cl0.tk y3 := by rw [f_e_4]; exact tk_nx _
    have p1 : y3.pile = x.pile := tk_f T1 MS.pile rfl
    have p2 : y3.works = x.works := tk_f T1 MS.works rfl
    have p3 : x.works = true → y3.rkc := fun z9 => rkc_tk T1 (hwk z9)
    have p4 : byteF y3.tape := by rw [tk_f T1 MS.tape rfl]; exact hby
    have n0 : y3.tableNames x.pile = 0 := (tk_tn T1 _).trans (va_us _ _ _)
    have n1 : y3.nmT x.pile := fun k hk => absurd hk (by rw [n0]; exact Nat.not_lt_zero k)
    refine lv_aload_n hx hb d_M_called_17 rfl (lv_at hl 0 rfl) ?_
    refine lv_bipush (v := 98) hx hb d_M_called_18 (by decide) ?_
    refine lv_bipush (v := 121) hx hb d_M_called_20 (by decide) ?_
    refine lv_bipush (v := 32) hx hb d_M_called_22 (by decide) ?_
    refine lv_bipush (v := 32) hx hb d_M_called_24 (by decide) ?_
    refine lv_iconst (v := 2) hx hb d_M_called_26 (by decide) ?_
    refine jfI (rnV (As := [.int 98, .int 121, .int 32, .int 32, .int 2]) (rest := []) hx hb hml hown hE hK (hN _ _ hS) hP hD (k_isName l D dA H.size h ad y3 98 121 32 32 2 l1.1 l1.2.1 (Nat.le_trans l1.2.2.1 (Nat.le_succ_of_le l1.1)) (show 2 ≤ 4 from by omega)) (q0 := 0) rfl rfl w1019 w1018 w1020 w1021 w328 rfl rfl ⟨⟨by decide, by decide⟩, rfl⟩ ⟨(Nat.le_of_ble_eq_true rfl), (Nat.le_of_ble_eq_true rfl)⟩ rfl hl.1 rfl (Nat.le_of_ble_eq_true rfl) d_M_called_27 ⟨(Nat.le_of_ble_eq_true rfl), (Nat.le_of_ble_eq_true rfl)⟩) hP hD hS hA (fun r83 u84 H locs hp9 hP hD hS => ?_)
    have hP : va_P D vwCl (MW dA h ad y3) H := hP
    have hD : va_D A (MW dA h ad y3) := hD
    replace hp9 : bI (y3.nmB 98 121 32 32 2) = r83 := Eq.symm hp9
    subst hp9
    refine lv_if_eq hx hb d_M_called_30 (tgt := 40) rfl (fun g85 => ?_) (fun g85 => ?_)
    · have g85 := bI_0 g85
      exact J40 y3 (cl_n g5 f_e_4 g85) l1 n1 (by rw [n0]; decide) p1 p2 p3 p4 H _ ls hP hD hS (lv_sub hl [1, 0] rfl)
    · have g85 := bI_n0 g85
      refine lv_aload_n hx hb d_M_called_33 rfl (lv_at hl 0 rfl) ?_
      refine jfI (rnV (As := []) (rest := []) hx hb hml hown hE hK (hN _ _ hS) hP hD (k_by l D dA H.size h ad y3 l1 (by rw [p1]; exact hpl) (by rw [p1]; exact n0)) (q0 := 0) rfl rfl w1035 w1034 w1036 w1037 w328 rfl rfl ⟨⟨by decide, by decide⟩, rfl⟩ ⟨(Nat.le_of_ble_eq_true rfl), (Nat.le_of_ble_eq_true rfl)⟩ rfl hl.1 rfl (Nat.le_of_ble_eq_true rfl) d_M_called_34 ⟨(Nat.le_of_ble_eq_true rfl), (Nat.le_of_ble_eq_true rfl)⟩) hP hD hS hA (fun r86 u87 H locs hp9 hP hD hS => ?_)
      obtain ⟨y88, h9u⟩ : ∃ z9, z9 = u87 := ⟨_, rfl⟩
      subst h9u
      have hP : va_P D vwCl (MW dA h ad y88) H := hP
      have hD : va_D A (MW dA h ad y88) := hD
      obtain ⟨hp9, f_e_89⟩ := hp9
      replace hp9 : bI (y3.byF).1 = r86 := Eq.symm hp9
      subst hp9
      refine lv_if_eq hx hb d_M_called_37 (tgt := 49) rfl (fun g90 => ?_) (fun g90 => ?_)
      · have g90 := bI_0 g90
        refine lv_iconst (v := 0) hx hb d_M_called_49 (by decide) ?_
        exact rfZ hx hb hr (bI_nar false) hlk hS y88 (by rw [cl_b g5 f_e_4 g85 g90]; exact ⟨rfl, f_e_89⟩) hP hD (Nat.le_of_ble_eq_true rfl) (Nat.le_of_ble_eq_true rfl) d_M_called_50
      · have g90 := bI_n0 g90
        exact J40 y88 (cl_y g5 f_e_4 g85 g90 f_e_89) (by_in l1 (by rw [p1]; exact n0) (Prod.ext g90 f_e_89.symm)).1 (by rw [← p1]; exact (by_in l1 (by rw [p1]; exact n0) (Prod.ext g90 f_e_89.symm)).2.2.1) (by rw [← p1]; exact (by_in l1 (by rw [p1]; exact n0) (Prod.ext g90 f_e_89.symm)).2.2.2.1) ((nk_f (by_in l1 (by rw [p1]; exact n0) (Prod.ext g90 f_e_89.symm)).2.2.2.2.1 MS.pile rfl).trans p1) ((nk_f (by_in l1 (by rw [p1]; exact n0) (Prod.ext g90 f_e_89.symm)).2.2.2.2.1 MS.works rfl).trans p2) (fun z9 => rkc_nk (by_in l1 (by rw [p1]; exact n0) (Prod.ext g90 f_e_89.symm)).2.2.2.2.1 (p3 z9)) (by rw [nk_f (by_in l1 (by rw [p1]; exact n0) (Prod.ext g90 f_e_89.symm)).2.2.2.2.1 MS.tape rfl]; exact p4) H _ ls hP hD hS (lv_sub hl [1, 0] rfl)
end
section
theorem sw_rs {ic : Nat → Bool} {ce : Nat → Int64} {rs : Nat → Nat} {t w : Nat} : ∀ r, (swG ic ce rs t w r).1 ≤ r ∧ (∀ q : Nat, q < 256 * t ∨ 256 * t + (swG ic ce rs t w r).1 ≤ q → (swG ic ce rs t w r).2.2.2 q = rs q) ∧ ∀ q : Nat, q < (swG ic ce rs t w r).1 → ∃ q', q' < r ∧ (swG ic ce rs t w r).2.2.2 (256 * t + q) = rs (256 * t + q')
  | 0 => ⟨Nat.le_refl 0, fun _ _ => rfl, fun q hq => absurd hq (Nat.not_lt_zero q)⟩
  | r + 1 => by
    obtain ⟨h1, h2, h3⟩ := sw_rs (ic := ic) (ce := ce) (rs := rs) (t := t) (w := w) r
    obtain ⟨m, i2, c2, r2, hg⟩ : ∃ z1 z2 z3 z4, swG ic ce rs t w r = (z1, z2, z3, z4) := ⟨_, _, _, _, rfl⟩
    rw [hg] at h1 h2 h3
    have h1 : m ≤ r := h1
    have h2 : ∀ q : Nat, q < 256 * t ∨ 256 * t + m ≤ q → r2 q = rs q := h2
    have h3 : ∀ q : Nat, q < m → ∃ q', q' < r ∧ r2 (256 * t + q) = rs (256 * t + q') := h3
    cases ha : anyB w (fun w => i2 (cA t r + w)) with
    | false =>
      rw [swG_f hg ha]
      exact ⟨Nat.le_succ_of_le h1, h2, fun q hq => by obtain ⟨q', a, b⟩ := h3 q hq; exact ⟨q', Nat.lt_succ_of_lt a, b⟩⟩
    | true =>
      rw [swG_t hg ha]
      refine ⟨Nat.succ_le_succ h1, fun q hq => ?_, fun q hq => ?_⟩
      · show (if q = 256 * t + m then r2 (256 * t + r) else r2 q) = rs q
        have hq : q < 256 * t ∨ 256 * t + (m + 1) ≤ q := hq
        rw [if_neg (by omega)]
        exact h2 q (by omega)
      · show ∃ q', q' < r + 1 ∧ (if 256 * t + q = 256 * t + m then r2 (256 * t + r) else r2 (256 * t + q)) = rs (256 * t + q')
        have hq : q < m + 1 := hq
        by_cases e : q = m
        · exact ⟨r, Nat.lt_succ_self r, by rw [if_pos (by omega)]; exact h2 _ (by omega)⟩
        · obtain ⟨q', a, b⟩ := h3 q (by omega)
          exact ⟨q', Nat.lt_succ_of_lt a, by rw [if_neg (by omega)]; exact b⟩
theorem me_rs {x : MS} {sg : Int32} {a b : Nat} : ∀ r, (x.meG sg a b r).1 ≤ r ∧ (∀ q : Nat, q < 256 * a ∨ 256 * a + (x.meG sg a b r).1 ≤ q → (x.meG sg a b r).2.2.1 q = x.rowSeries q) ∧ ∀ q : Nat, q < (x.meG sg a b r).1 → ∃ q', q' < r ∧ (x.meG sg a b r).2.2.1 (256 * a + q) = x.rowSeries (256 * a + q')
  | 0 => ⟨Nat.le_refl 0, fun _ _ => rfl, fun q hq => absurd hq (Nat.not_lt_zero q)⟩
  | r + 1 => by
    obtain ⟨h1, h2, h3⟩ := me_rs (x := x) (sg := sg) (a := a) (b := b) r
    obtain ⟨m, g, r2, v, hg⟩ : ∃ z1 z2 z3 z4, x.meG sg a b r = (z1, z2, z3, z4) := ⟨_, _, _, _, rfl⟩
    rw [hg] at h1 h2 h3
    have h1 : m ≤ r := h1
    have h2 : ∀ q : Nat, q < 256 * a ∨ 256 * a + m ≤ q → r2 q = x.rowSeries q := h2
    have h3 : ∀ q : Nat, q < m → ∃ q', q' < r ∧ r2 (256 * a + q) = x.rowSeries (256 * a + q') := h3
    obtain ⟨o, v2, hf⟩ : ∃ z1 z2, x.fo a (r2 (256 * a + r)) b r2 (x.tableRows b) (x.tableRows b + 1) 0 v = (z1, z2) := ⟨_, _, rfl⟩
    rw [me_s hg hf]
    unfold MS.me2
    by_cases ho : o = x.tableRows b
    · rw [if_pos ho]
      exact ⟨Nat.le_succ_of_le h1, h2, fun q hq => by obtain ⟨q', c, d⟩ := h3 q hq; exact ⟨q', Nat.lt_succ_of_lt c, d⟩⟩
    · rw [if_neg ho]
      refine ⟨Nat.succ_le_succ h1, fun q hq => ?_, fun q hq => ?_⟩
      · show (if q = 256 * a + m then r2 (256 * a + r) else r2 q) = x.rowSeries q
        have hq : q < 256 * a ∨ 256 * a + (m + 1) ≤ q := hq
        rw [if_neg (by omega)]
        exact h2 q (by omega)
      · show ∃ q', q' < r + 1 ∧ (if 256 * a + q = 256 * a + m then r2 (256 * a + r) else r2 (256 * a + q)) = x.rowSeries (256 * a + q')
        have hq : q < m + 1 := hq
        by_cases e : q = m
        · exact ⟨r, Nat.lt_succ_self r, by rw [if_pos (by omega)]; exact h2 _ (by omega)⟩
        · obtain ⟨q', c, d⟩ := h3 q (by omega)
          exact ⟨q', Nat.lt_succ_of_lt c, by rw [if_neg (by omega)]; exact d⟩
theorem mv_at {α : Type} {f : Nat → α} {b a n : Nat} (h : b + n ≤ a) : ∀ k, k ≤ n → ∀ q, mvG f b a k q = if b ≤ q ∧ q < b + k then f (a + (q - b)) else f q
  | 0, _, q => by rw [if_neg (by omega)]; rfl
  | k + 1, hk, q => by
    have ih := mv_at (f := f) h k (by omega)
    show (if q = b + k then mvG f b a k (a + k) else mvG f b a k q) = _
    by_cases e : q = b + k
    · rw [if_pos e, ih, if_neg (by omega), if_pos (by omega), e, show b + k - b = k by omega]
    · rw [if_neg e, ih]
      by_cases c : b ≤ q ∧ q < b + k
      · rw [if_pos c, if_pos (by omega)]
      · rw [if_neg c, if_neg (by omega)]
theorem gr_rs {x : MS} {t p : Nat} : ∀ k, k ≤ 256 → (∀ q : Nat, q < 256 * t ∨ 256 * t + 256 ≤ q → (x.grG t p k).2.1 q = x.rowSeries q) ∧ ∀ q : Nat, q < (x.grG t p k).1 → (x.grG t p k).2.1 (256 * t + q) < k
  | 0, _ => ⟨fun _ _ => rfl, fun q hq => absurd hq (Nat.not_lt_zero q)⟩
  | k + 1, hk => by
    obtain ⟨h1, h2⟩ := gr_rs (x := x) (t := t) (p := p) k (by omega)
    obtain ⟨n, rs, ro, hb, v, hg⟩ : ∃ z1 z2 z3 z4 z5, x.grG t p k = (z1, z2, z3, z4, z5) := ⟨_, _, _, _, _, rfl⟩
    have hn : n ≤ k := by
      have := gr_le' (x := x) (t := t) (p := p) k
      rw [hg] at this
      exact this
    rw [hg] at h1 h2
    have h1 : ∀ q : Nat, q < 256 * t ∨ 256 * t + 256 ≤ q → rs q = x.rowSeries q := h1
    have h2 : ∀ q : Nat, q < n → rs (256 * t + q) < k := h2
    cases hm : ((MS.s_valueLength x v).mt k p).1 with
    | false =>
      rw [gr_no hg hm]
      exact ⟨h1, rs_sc h2⟩
    | true =>
      obtain ⟨v2, hv2⟩ : ∃ z, (MS.s_valueLength x v).mt k p = (true, z) := ⟨_, Prod.ext hm rfl⟩
      obtain ⟨r, v3, hf⟩ : ∃ z1 z2, x.fr t k rs n (n + 1) 0 v2 = (z1, z2) := ⟨_, _, rfl⟩
      have hr : r ≤ n := by
        have := fr_le (x := x) (t := t) (s := k) (rs := rs) (n := n) (n + 1) 0 v2 (Nat.zero_le n)
        rw [hf] at this
        exact this
      rw [gr_y hg hv2 hf]
      cases hi : (x.gi t k rs n r v3).1 with
      | false =>
        obtain ⟨v4, h4⟩ : ∃ z, x.gi t k rs n r v3 = (false, z) := ⟨_, Prod.ext hi rfl⟩
        rw [gr_old h4]
        exact ⟨h1, rs_sc h2⟩
      | true =>
        obtain ⟨v4, h4⟩ : ∃ z, x.gi t k rs n r v3 = (true, z) := ⟨_, Prod.ext hi rfl⟩
        rw [grN_new h4]
        refine ⟨fun q hq => ?_, sh_lt h2 hr⟩
        show (if q = 256 * t + r then k else shR rs (256 * t) n (n - r) q) = x.rowSeries q
        rw [if_neg (by omega), shR_at rs (256 * t) n (n - r) (by omega), if_neg (by omega)]
        exact h1 q hq
/-- is table t well made -/
def MS.tI (x : MS) (t : Nat) : Prop := x.tableRows t ≤ 256 ∧ x.tableNames t ≤ 6 ∧ ∀ q : Nat, q < x.tableRows t → x.tableNames t = 0 ∨ x.tOK (x.rowSeries (256 * t + q))
def MS.nmG (x : MS) : Prop := (∀ q : Nat, x.nameFroms q + x.nameLengths q ≤ 65536) ∧ ∀ q : Nat, x.keySeries q < 256
/-- what a working question keeps -/
def MS.qI (x : MS) : Prop := x.seriesCount ≤ 256 ∧ (∀ q : Nat, q < x.seriesCount → x.tOK q) ∧ x.points ≤ 12000 ∧ (∀ q : Nat, q < x.points → x.pointSeries q < 256) ∧ x.windows ≤ 64 ∧ 1 ≤ x.width ∧ (∀ q : Nat, x.keySeries q < 256) ∧ ∀ t : Nat, t < x.pile → x.tI t
theorem sw_tI {x : MS} {a t : Nat} (ha : x.tableRows a ≤ 256) (h : x.tI t) : (x.swS a).tI t := by
  obtain ⟨h1, h2, h3⟩ := h
  obtain ⟨g1, g2, g3⟩ := sw_rs (ic := x.isCell) (ce := x.cells) (rs := x.rowSeries) (t := a) (w := x.windows) (x.tableRows a)
  obtain ⟨m, i2, c2, r2, hg⟩ : ∃ z1 z2 z3 z4, swG x.isCell x.cells x.rowSeries a x.windows (x.tableRows a) = (z1, z2, z3, z4) := ⟨_, _, _, _, rfl⟩
  rw [hg] at g1 g2 g3
  rw [swS_eq hg]
  show va_up x.tableRows a m t ≤ 256 ∧ x.tableNames t ≤ 6 ∧ ∀ q : Nat, q < va_up x.tableRows a m t → x.tableNames t = 0 ∨ x.tOK (r2 (256 * t + q))
  by_cases e : t = a
  · subst e
    rw [va_us]
    have g1 : m ≤ x.tableRows t := g1
    refine ⟨by omega, h2, fun q hq => ?_⟩
    obtain ⟨q', c, d⟩ := g3 q hq
    have d : r2 (256 * t + q) = x.rowSeries (256 * t + q') := d
    rw [d]
    exact h3 q' c
  · have e1 : va_up x.tableRows a m t = x.tableRows t := if_neg e
    rw [e1]
    refine ⟨h1, h2, fun q hq => ?_⟩
    have g1 : m ≤ x.tableRows a := g1
    have g2 : ∀ q : Nat, q < 256 * a ∨ 256 * a + m ≤ q → r2 q = x.rowSeries q := g2
    rw [g2 _ (by omega)]
    exact h3 q hq
theorem me_tI {x : MS} {sg : Int32} {a b t : Nat} (ha : x.tI a) (h : x.tI t) : (x.meS sg a b).tI t := by
  obtain ⟨h1, h2, h3⟩ := h
  obtain ⟨g1, g2, g3⟩ := me_rs (x := x) (sg := sg) (a := a) (b := b) (x.tableRows a)
  obtain ⟨m, g, r2, v, hg⟩ : ∃ z1 z2 z3 z4, x.meG sg a b (x.tableRows a) = (z1, z2, z3, z4) := ⟨_, _, _, _, rfl⟩
  rw [hg] at g1 g2 g3
  unfold MS.meS
  rw [hg]
  show va_up x.tableRows a m t ≤ 256 ∧ x.tableNames t ≤ 6 ∧ ∀ q : Nat, q < va_up x.tableRows a m t → x.tableNames t = 0 ∨ x.tOK (r2 (256 * t + q))
  have g1 : m ≤ x.tableRows a := g1
  have a1 := ha.1
  by_cases e : t = a
  · subst e
    rw [va_us]
    refine ⟨by omega, h2, fun q hq => ?_⟩
    obtain ⟨q', c, d⟩ := g3 q hq
    have d : r2 (256 * t + q) = x.rowSeries (256 * t + q') := d
    rw [d]
    exact h3 q' c
  · have e1 : va_up x.tableRows a m t = x.tableRows t := if_neg e
    rw [e1]
    refine ⟨h1, h2, fun q hq => ?_⟩
    have g2 : ∀ q : Nat, q < 256 * a ∨ 256 * a + m ≤ q → r2 q = x.rowSeries q := g2
    rw [g2 _ (by omega)]
    exact h3 q hq
theorem ob_tI {x : MS} {sg : Int32} {a b t : Nat} (ha : x.tI a) (h : x.tI t) : (x.obS sg a b).tI t := by
  obtain ⟨h1, h2, h3⟩ := h
  show va_up x.tableRows a (if 0 < x.tableRows b then x.tableRows a else 0) t ≤ 256 ∧ x.tableNames t ≤ 6 ∧ ∀ q : Nat, q < va_up x.tableRows a (if 0 < x.tableRows b then x.tableRows a else 0) t → x.tableNames t = 0 ∨ x.tOK (x.rowSeries (256 * t + q))
  have a1 := ha.1
  by_cases e : t = a
  · subst e
    rw [va_us]
    refine ⟨by split <;> omega, h2, fun q hq => h3 q ?_⟩
    split at hq <;> omega
  · have e1 : va_up x.tableRows a (if 0 < x.tableRows b then x.tableRows a else 0) t = x.tableRows t := if_neg e
    rw [e1]
    exact ⟨h1, h2, h3⟩
theorem sp_tI {x : MS} {sg : Int32} {a t : Nat} (ha : x.tI a) (hb : x.tI (a + 1)) (h : x.tI t) (hn : ¬ t = a + 1) : (x.spS sg a (a + 1)).tI t := by
  obtain ⟨h1, h2, h3⟩ := h
  obtain ⟨n, hN⟩ : ∃ n, (if 0 < x.tableRows a then x.tableRows (a + 1) else 0) = n := ⟨_, rfl⟩
  have b1 := hb.1
  have hn2 : n ≤ x.tableRows (a + 1) := by rw [← hN]; split <;> omega
  unfold MS.spS
  rw [hN]
  show va_up x.tableRows a n t ≤ 256 ∧ va_up x.tableNames a (x.tableNames (a + 1)) t ≤ 6 ∧ ∀ q : Nat, q < va_up x.tableRows a n t → va_up x.tableNames a (x.tableNames (a + 1)) t = 0 ∨ x.tOK (mvG x.rowSeries (256 * a) (256 * (a + 1)) n (256 * t + q))
  have mv := mv_at (f := x.rowSeries) (b := 256 * a) (a := 256 * (a + 1)) (n := n) (by omega) n (Nat.le_refl n)
  by_cases e : t = a
  · subst e
    rw [va_us, va_us]
    refine ⟨by omega, hb.2.1, fun q hq => ?_⟩
    rw [mv, if_pos (by omega), show 256 * t + q - 256 * t = q by omega]
    exact hb.2.2 q (by omega)
  · have e1 : va_up x.tableRows a n t = x.tableRows t := if_neg e
    have e2 : va_up x.tableNames a (x.tableNames (a + 1)) t = x.tableNames t := if_neg e
    rw [e1, e2]
    refine ⟨h1, h2, fun q hq => ?_⟩
    rw [mv, if_neg (by omega)]
    exact h3 q hq
theorem op_tI {x : MS} {sg : Int32} (hp : 2 ≤ x.pile) (h : ∀ t : Nat, t < x.pile → x.tI t) : ∀ t : Nat, t < x.pile - 1 → (x.opM sg).tI t := by
  intro t ht
  have ha := h (x.pile - 2) (by omega)
  have hb := h (x.pile - 1) (by omega)
  have hx := h t (by omega)
  unfold MS.opM
  split
  · exact me_tI ha hx
  · split
    · exact ob_tI ha hx
    · have e : x.pile - 1 = x.pile - 2 + 1 := by omega
      rw [e] at hb ⊢
      exact sp_tI ha hb hx (by omega)
/-- x with the tables of y -/
def MS.tbS (x y : MS) : MS := MS.s_valueLength (MS.s_pile (MS.s_isCell (MS.s_cells (MS.s_rowSeries (MS.s_tableRows (MS.s_nameLengths (MS.s_nameFroms (MS.s_tableNames x y.tableNames) y.nameFroms) y.nameLengths) y.tableRows) y.rowSeries) y.cells) y.isCell) y.pile) y.valueLength
def MS.tb (x y : MS) : Prop := y = x.tbS y
theorem tb_tr {x y z : MS} (h1 : x.tb y) (h2 : y.tb z) : x.tb z := h2.trans ((congrArg (fun w => MS.tbS w z) h1).trans rfl)
theorem tb_f {x y : MS} {α : Type} (h : x.tb y) (f : MS → α) (hf : f (x.tbS y) = f x) : f y = f x := (congrArg f h).trans hf
theorem tb_sw (x : MS) (a : Nat) : x.tb (x.swS a) := rfl
theorem tb_opM (x : MS) (sg : Int32) : x.tb (x.opM sg) := by
  unfold MS.opM
  repeat' split
  all_goals exact rfl
theorem tb_pile (x : MS) (n : Nat) : x.tb (MS.s_pile x n) := rfl
theorem op_v {x : MS} {sg : Int32} {q : Nat} (h : x.opB = true) : x.opS sg q = MS.swS (MS.s_pile (x.opM sg) ((x.opM sg).pile - 1)) (x.pile - 2) := if_pos h
theorem op_in {x : MS} {sg : Int32} {q : Nat} (hp : 2 ≤ x.pile) (h : x.qI) (hb : x.opB = true) : (x.opS sg q).qI ∧ x.tb (x.opS sg q) ∧ (x.opS sg q).pile = x.pile - 1 := by
  rw [op_v hb]
  have t1 : x.tb (MS.swS (MS.s_pile (x.opM sg) ((x.opM sg).pile - 1)) (x.pile - 2)) := tb_tr (tb_opM x sg) (tb_tr (tb_pile _ _) (tb_sw _ _))
  have p1 : (x.opM sg).pile = x.pile := by
    unfold MS.opM
    repeat' split
    all_goals exact rfl
  have p2 : (MS.swS (MS.s_pile (x.opM sg) ((x.opM sg).pile - 1)) (x.pile - 2)).pile = x.pile - 1 := by
    show (x.opM sg).pile - 1 = _
    rw [p1]
  refine ⟨?_, t1, p2⟩
  have hop := op_tI (sg := sg) hp h.2.2.2.2.2.2.2
  have hT : ∀ t : Nat, t < x.pile - 1 → (MS.swS (MS.s_pile (x.opM sg) ((x.opM sg).pile - 1)) (x.pile - 2)).tI t := fun t ht => sw_tI (x := MS.s_pile (x.opM sg) ((x.opM sg).pile - 1)) (hop (x.pile - 2) (by omega)).1 (hop t ht)
  generalize MS.swS (MS.s_pile (x.opM sg) ((x.opM sg).pile - 1)) (x.pile - 2) = v at t1 p2 hT ⊢
  have a1 : v.seriesCount = x.seriesCount := tb_f t1 MS.seriesCount rfl
  have hq := h
  obtain ⟨b1, b2, b3, b4, b5, b6, b7, -⟩ := h
  have key : (x.tbS v).seriesCount ≤ 256 ∧ (∀ q : Nat, q < (x.tbS v).seriesCount → (x.tbS v).tOK q) ∧ (x.tbS v).points ≤ 12000 ∧ (∀ q : Nat, q < (x.tbS v).points → (x.tbS v).pointSeries q < 256) ∧ (x.tbS v).windows ≤ 64 ∧ 1 ≤ (x.tbS v).width ∧ (∀ q : Nat, (x.tbS v).keySeries q < 256) := ⟨b1, b2, b3, b4, b5, b6, b7⟩
  rw [← show v = x.tbS v from t1] at key
  obtain ⟨d1, d2, d3, d4, d5, d6, d7⟩ := key
  exact ⟨d1, d2, d3, d4, d5, d6, d7, fun t ht => hT t (by omega)⟩
/-- x with the token, the fault and the tables of y -/
def MS.ckS (x y : MS) : MS := MS.s_hasBefore (MS.s_befores (MS.s_keySeries (MS.s_keyTimes (MS.s_rowOf ((x.tkS y).tbS y) y.rowOf) y.keyTimes) y.keySeries) y.befores) y.hasBefore
def MS.ck (x y : MS) : Prop := y = x.ckS y
theorem ck_tr {x y z : MS} (h1 : x.ck y) (h2 : y.ck z) : x.ck z := h2.trans ((congrArg (fun w => MS.ckS w z) h1).trans rfl)
theorem ck_f {x y : MS} {α : Type} (h : x.ck y) (f : MS → α) (hf : f (x.ckS y) = f x) : f y = f x := (congrArg f h).trans hf
theorem ck_tk {x y : MS} (h : x.tk y) : x.ck y := by
  have h1 : x.ck (x.tkS y) := rfl
  rw [← show y = x.tkS y from h] at h1
  exact h1
theorem ck_nk {x y : MS} (h : x.nk y) : x.ck y := by
  have h1 : x.ck (x.nkS y) := rfl
  rw [← show y = x.nkS y from h] at h1
  exact h1
theorem ck_tb {x y : MS} (h : x.tb y) : x.ck y := by
  have h1 : x.ck (x.tbS y) := rfl
  rw [← show y = x.tbS y from h] at h1
  exact h1
theorem ck_rk (x : MS) (wh p : Nat) : x.ck (x.rkS wh p) := rfl
theorem ck_rf (x : MS) : x.ck x := rfl
theorem rk_ks {x : MS} {t wh : Nat} (h : ∀ k : Nat, x.keySeries k < 256) (hs : ∀ q : Nat, q < x.points → x.pointSeries q < 256) : ∀ n, n ≤ x.points → ∀ k : Nat, (x.rkG t wh n).2.2.2.1 k < 256
  | 0, _, k => h k
  | n + 1, hn, k => by
    have ih := rk_ks (t := t) (wh := wh) h hs n (by omega)
    show (x.rk1 t wh n (x.rkG t wh n)).2.2.2.1 k < 256
    unfold MS.rk1
    split
    · exact ih k
    · split
      · exact ih k
      · show (x.rkA t wh n (x.rkG t wh n)).2.2.2 k < 256
        unfold MS.rkA
        split
        · exact ga_ks (x := x.pt (x.rkG t wh n)) ih (hs n (by omega)) k
        · exact ih k
theorem gr_eq {x : MS} {t p n v : Nat} {rs : Nat → Nat} {ro : Nat → Int32} {hb : Nat → Bool} (h : x.grG t p x.seriesCount = (n, rs, ro, hb, v)) : (x.grS t p).tableRows = va_up x.tableRows t n ∧ (x.grS t p).rowSeries = rs := by
  unfold MS.grS
  rw [h]
  exact ⟨rfl, rfl⟩
/-- a table made: the question still stands well -/
theorem rk_in {x : MS} {wh p : Nat} (h : x.qI) (hn : x.tableNames x.pile ≤ 6) : (x.rkS wh p).qI ∧ (x.rkS wh p).pile = x.pile + 1 := by
  obtain ⟨b1, b2, b3, b4, b5, b6, b7, b8⟩ := h
  obtain ⟨n, rs, ro, hb, v, hg⟩ : ∃ z1 z2 z3 z4 z5, x.grG x.pile p x.seriesCount = (z1, z2, z3, z4, z5) := ⟨_, _, _, _, _, rfl⟩
  obtain ⟨e1, e2⟩ := gr_eq hg
  have hn9 : n ≤ 256 := gr_le b1 hg
  obtain ⟨r1, r2⟩ := gr_rs (x := x) (t := x.pile) (p := p) x.seriesCount b1
  rw [hg] at r1 r2
  have r1 : ∀ q : Nat, q < 256 * x.pile ∨ 256 * x.pile + 256 ≤ q → rs q = x.rowSeries q := r1
  have r2 : ∀ q : Nat, q < n → rs (256 * x.pile + q) < x.seriesCount := r2
  have k1 := rk_ks (x := x.grS x.pile p) (t := x.pile) (wh := wh) b7 b4 (x.grS x.pile p).points (Nat.le_refl _)
  have hT : ∀ t : Nat, t < x.pile + 1 → (x.grS x.pile p).tI t := by
    intro t ht
    show (x.grS x.pile p).tableRows t ≤ 256 ∧ x.tableNames t ≤ 6 ∧ ∀ q : Nat, q < (x.grS x.pile p).tableRows t → x.tableNames t = 0 ∨ x.tOK ((x.grS x.pile p).rowSeries (256 * t + q))
    rw [e1, e2]
    by_cases e : t = x.pile
    · rw [e, va_us]
      exact ⟨hn9, hn, fun q hq => Or.inr (b2 _ (r2 q hq))⟩
    · have e3 : va_up x.tableRows x.pile n t = x.tableRows t := if_neg e
      obtain ⟨h1, h2, h3⟩ := b8 t (by omega)
      rw [e3]
      refine ⟨h1, h2, fun q hq => ?_⟩
      rw [r1 _ (by omega)]
      exact h3 q hq
  have hT2 : ∀ t : Nat, t < x.pile + 1 → (x.rkS wh p).tI t := fun t ht => sw_tI (x := MS.s_pile (MS.pt (x.grS x.pile p) ((x.grS x.pile p).rkG x.pile wh (x.grS x.pile p).points)) ((x.grS x.pile p).pile + 1)) (hT x.pile (Nat.lt_succ_self _)).1 (hT t ht)
  exact ⟨⟨b1, b2, b3, b4, b5, b6, k1, hT2⟩, rfl⟩
theorem qI_tk {x y : MS} (h : x.tk y) (hx : x.qI) : y.qI := by
  have h1 : (x.tkS y).qI := hx
  rw [← show y = x.tkS y from h] at h1
  exact h1
/-- the table of a number -/
def MS.nbS (x : MS) : MS := MS.s_pile (MS.s_isCell (MS.s_cells (MS.s_rowSeries (MS.s_tableRows (MS.s_tableNames x (va_up x.tableNames x.pile 0)) (va_up x.tableRows x.pile 1)) (va_up x.rowSeries (256 * x.pile) 0)) (filG x.cells (cA x.pile 0) x.amount x.windows)) (filG x.isCell (cA x.pile 0) true x.windows)) (x.pile + 1)
theorem nb_in {x : MS} (h : x.qI) : x.nbS.qI ∧ x.nbS.pile = x.pile + 1 := by
  obtain ⟨b1, b2, b3, b4, b5, b6, b7, b8⟩ := h
  refine ⟨⟨b1, b2, b3, b4, b5, b6, b7, fun t ht => ?_⟩, rfl⟩
  have ht : t < x.pile + 1 := ht
  show va_up x.tableRows x.pile 1 t ≤ 256 ∧ va_up x.tableNames x.pile 0 t ≤ 6 ∧ ∀ q : Nat, q < va_up x.tableRows x.pile 1 t → va_up x.tableNames x.pile 0 t = 0 ∨ x.tOK (va_up x.rowSeries (256 * x.pile) 0 (256 * t + q))
  by_cases e : t = x.pile
  · rw [e, va_us, va_us]
    exact ⟨by decide, by decide, fun _ _ => Or.inl rfl⟩
  · have e1 : va_up x.tableRows x.pile 1 t = x.tableRows t := if_neg e
    have e2 : va_up x.tableNames x.pile 0 t = x.tableNames t := if_neg e
    obtain ⟨h1, h2, h3⟩ := b8 t (by omega)
    rw [e1, e2]
    refine ⟨h1, h2, fun q hq => ?_⟩
    rw [show va_up x.rowSeries (256 * x.pile) 0 (256 * t + q) = x.rowSeries (256 * t + q) from if_neg (by omega)]
    exact h3 q hq
theorem ck_nb (x : MS) : x.ck x.nbS := rfl
def MS.ngS (x : MS) : MS := MS.s_cells x (ngR x.cells (x.pile - 1) x.windows (x.tableRows (x.pile - 1)))
theorem ng_qI {x : MS} (h : x.qI) : x.ngS.qI := h
theorem ck_ng (x : MS) : x.ck x.ngS := rfl
/-- signs that open, signs between two operands -/
def isOpS (z : Nat) : Bool := decide (z = 109) || decide (z = 40)
def binS (z : Nat) : Bool := decide (z = 43) || (decide (z = 45) || (decide (z = 42) || (decide (z = 47) || decide (z = 37))))
def rkM (z : Nat) : Nat := rkN (nI z)
theorem bin_c {z : Nat} (h : binS z = true) : (rkM z = 1 ∨ rkM z = 2) ∧ isOpS z = false ∧ isOp (nI z) ∧ z ≤ 109 ∧ ¬ z = 109 ∧ ¬ z = 40 := by
  unfold binS at h
  simp only [Bool.or_eq_true, decide_eq_true_eq] at h
  unfold isOp
  rcases h with h | h | h | h | h <;> subst h <;> decide
theorem opn_c {z : Nat} (h : isOpS z = true) : z = 109 ∨ z = 40 := by
  unfold isOpS at h
  simpa only [Bool.or_eq_true, decide_eq_true_eq] using h
def MS.isO (x : MS) (k : Nat) : Bool := isOpS (x.signs k)
/-- the signs that wait; e is 1 where an operand has just been read -/
def MS.sI (x : MS) (e : Nat) : Prop := x.opn ≤ 8 ∧ cnt x.signCount x.isO = x.opn ∧ (∀ k : Nat, k < x.signCount → isOpS (x.signs k) = true ∨ binS (x.signs k) = true) ∧ (∀ k : Nat, k + 1 < x.signCount → binS (x.signs k) = true → binS (x.signs (k + 1)) = true → rkM (x.signs k) < rkM (x.signs (k + 1))) ∧ (x.works = true → x.pile + x.opn = x.signCount + e)
theorem cnt_mono {f : Nat → Bool} : ∀ {n m : Nat}, n ≤ m → cnt n f ≤ cnt m f
  | n, 0, h => by obtain rfl : n = 0 := by omega
                  exact Nat.le_refl _
  | n, m + 1, h => by
    by_cases e : n = m + 1
    · subst e
      exact Nat.le_refl _
    · have := cnt_mono (f := f) (n := n) (m := m) (by omega)
      have h2 : cnt (m + 1) f = cnt m f + (if f m then 1 else 0) := rfl
      omega
theorem sI_b {x : MS} {e : Nat} (h : x.sI e) : ∀ n, n ≤ x.signCount → n ≤ 3 * cnt n x.isO + 2 := by
  obtain ⟨h1, h2, h3, h4, h5⟩ := h
  intro n
  induction n using Nat.strongRecOn with
  | ind n ih =>
    intro hn
    by_cases h0 : n ≤ 2
    · omega
    · obtain ⟨m, rfl⟩ : ∃ m, n = m + 3 := ⟨n - 3, by omega⟩
      have i1 := ih m (by omega) (by omega)
      have c0 : cnt (m + 1) x.isO = cnt m x.isO + (if x.isO m then 1 else 0) := rfl
      have c1 : cnt (m + 2) x.isO = cnt (m + 1) x.isO + (if x.isO (m + 1) then 1 else 0) := rfl
      have c2 : cnt (m + 3) x.isO = cnt (m + 2) x.isO + (if x.isO (m + 2) then 1 else 0) := rfl
      have key : x.isO m = true ∨ x.isO (m + 1) = true ∨ x.isO (m + 2) = true := by
        rcases h3 m (by omega) with a | a
        · exact Or.inl a
        · rcases h3 (m + 1) (by omega) with b | b
          · exact Or.inr (Or.inl b)
          · rcases h3 (m + 2) (by omega) with c | c
            · exact Or.inr (Or.inr c)
            · have r1 := h4 m (by omega) a b
              have r2 := h4 (m + 1) (by omega) b c
              have q1 := (bin_c a).1
              have q3 := (bin_c c).1
              have r2 : rkM (x.signs (m + 1)) < rkM (x.signs (m + 2)) := r2
              omega
      rcases key with k | k | k
      · rw [k] at c0
        simp only [if_true] at c0
        split at c1 <;> split at c2 <;> omega
      · rw [k] at c1
        simp only [if_true] at c1
        split at c0 <;> split at c2 <;> omega
      · rw [k] at c2
        simp only [if_true] at c2
        split at c0 <;> split at c1 <;> omega
theorem sI_26 {x : MS} {e : Nat} (h : x.sI e) : x.signCount ≤ 26 := by
  have := sI_b h x.signCount (Nat.le_refl _)
  rw [h.2.1] at this
  have := h.1
  omega
theorem sI_lt {x : MS} {e k : Nat} (h : x.sI e) (hk : k < x.signCount) : x.signs k ≤ 109 := by
  rcases h.2.2.1 k hk with a | a
  · rcases opn_c a with b | b <;> omega
  · exact (bin_c a).2.2.2.1
theorem sI_pl {x : MS} {e : Nat} (h : x.sI e) (hw : x.works = true) (he : e ≤ 1) : x.pile ≤ 19 := by
  have h1 := sI_b h x.signCount (Nat.le_refl _)
  rw [h.2.1] at h1
  have h2 := h.1
  have h3 := h.2.2.2.2 hw
  omega
def MS.top (x : MS) : Nat := x.signs (x.signCount - 1)
def MS.pop (x : MS) : MS := MS.s_opn (MS.s_signCount x (x.signCount - 1)) (x.opn - (if x.top = 109 then 1 else 0))
/-- the uppermost sign done -/
def MS.dnF (x : MS) : Bool × MS := if x.works = true then (if x.top = 109 then (true, x.pop.ngS) else (x.pop.opB, x.pop.opS (nI x.top) (x.signPlaces (x.signCount - 1)))) else (true, x.pop)
theorem cnt_pred {f : Nat → Bool} {n : Nat} (h : 0 < n) : cnt n f = cnt (n - 1) f + (if f (n - 1) then 1 else 0) := by
  obtain ⟨k, rfl⟩ : ∃ k, n = k + 1 := ⟨n - 1, by omega⟩
  rfl
theorem top_c {x : MS} {e : Nat} (h : x.sI e) (h0 : 0 < x.signCount) (h4 : ¬ x.top = 40) : (x.top = 109 ∧ 1 ≤ x.opn) ∨ binS x.top = true := by
  rcases h.2.2.1 (x.signCount - 1) (by omega) with a | a
  · rcases opn_c a with b | b
    · refine Or.inl ⟨b, ?_⟩
      have c1 := cnt_pred (f := x.isO) h0
      rw [show x.isO (x.signCount - 1) = true from a] at c1
      simp only [if_true] at c1
      have := h.2.1
      omega
    · exact absurd b h4
  · exact Or.inr a
theorem pop_sI {x : MS} {e : Nat} (h : x.sI e) (h0 : 0 < x.signCount) (h4 : ¬ x.top = 40) : x.pop.opn ≤ 8 ∧ cnt x.pop.signCount x.pop.isO = x.pop.opn ∧ (∀ k : Nat, k < x.pop.signCount → isOpS (x.pop.signs k) = true ∨ binS (x.pop.signs k) = true) ∧ (∀ k : Nat, k + 1 < x.pop.signCount → binS (x.pop.signs k) = true → binS (x.pop.signs (k + 1)) = true → rkM (x.pop.signs k) < rkM (x.pop.signs (k + 1))) := by
  have ht := top_c h h0 h4
  obtain ⟨h1, h2, h3, h5, -⟩ := h
  have c1 := cnt_pred (f := x.isO) h0
  have e1 : (if x.isO (x.signCount - 1) then 1 else 0) = (if x.top = 109 then 1 else 0) := by
    rcases ht with ⟨a, -⟩ | a
    · have : x.isO (x.signCount - 1) = true := by
        show isOpS x.top = true
        rw [a]
        rfl
      rw [this, if_pos a]
      rfl
    · have b := bin_c a
      have : x.isO (x.signCount - 1) = false := b.2.1
      rw [this, if_neg b.2.2.2.2.1]
      rfl
  rw [e1, h2] at c1
  refine ⟨?_, ?_, fun k hk => h3 k ?_, fun k hk => h5 k ?_⟩
  · show x.opn - (if x.top = 109 then 1 else 0) ≤ 8
    omega
  · show cnt (x.signCount - 1) x.isO = x.opn - (if x.top = 109 then 1 else 0)
    omega
  · have hk : k < x.signCount - 1 := hk
    omega
  · have hk : k + 1 < x.signCount - 1 := hk
    omega
/-- x with the token, the fault, the tables and the number of signs of y -/
def MS.dkS (x y : MS) : MS := MS.s_opn (MS.s_signCount (x.ckS y) y.signCount) y.opn
def MS.dk (x y : MS) : Prop := y = x.dkS y
theorem dk_tr {x y z : MS} (h1 : x.dk y) (h2 : y.dk z) : x.dk z := h2.trans ((congrArg (fun w => MS.dkS w z) h1).trans rfl)
theorem dk_f {x y : MS} {α : Type} (h : x.dk y) (f : MS → α) (hf : f (x.dkS y) = f x) : f y = f x := (congrArg f h).trans hf
theorem dk_ck {x y : MS} (h : x.ck y) : x.dk y := by
  have h1 : x.dk (x.ckS y) := rfl
  rw [← show y = x.ckS y from h] at h1
  exact h1
theorem dk_pop (x : MS) : x.dk x.pop := rfl
theorem dk_rf (x : MS) : x.dk x := rfl
/-- only the fault of a failing operation differs beside the tables -/
theorem ck_opS (x : MS) (sg : Int32) (q : Nat) : x.ck (x.opS sg q) := by
  unfold MS.opS
  split
  · exact ck_tb (tb_tr (tb_opM x sg) (tb_tr (tb_pile _ _) (tb_sw _ _)))
  · exact rfl
theorem dk_dn (x : MS) : x.dk x.dnF.2 := by
  unfold MS.dnF
  split
  · split
    · exact dk_tr (dk_pop x) (dk_ck (ck_ng _))
    · exact dk_tr (dk_pop x) (dk_ck (ck_opS _ _ _))
  · exact dk_pop x
theorem nmG_sp {x : MS} {sg : Int32} {a : Nat} (h : x.nmG) : (x.spS sg a (a + 1)).nmG := by
  refine ⟨fun q => ?_, h.2⟩
  show mvG x.nameFroms (6 * a) (6 * (a + 1)) 6 q + mvG x.nameLengths (6 * a) (6 * (a + 1)) 6 q ≤ 65536
  rw [mv_at (f := x.nameFroms) (b := 6 * a) (a := 6 * (a + 1)) (n := 6) (by omega) 6 (Nat.le_refl 6), mv_at (f := x.nameLengths) (b := 6 * a) (a := 6 * (a + 1)) (n := 6) (by omega) 6 (Nat.le_refl 6)]
  split
  · exact h.1 _
  · exact h.1 _
theorem nmG_op {x : MS} {sg : Int32} {q : Nat} (hp : 2 ≤ x.pile) (h : x.nmG) : (x.opS sg q).nmG := by
  unfold MS.opS
  split
  · show (x.opM sg).nmG
    unfold MS.opM
    repeat' split
    · exact h
    · exact h
    · rw [show x.pile - 1 = x.pile - 2 + 1 by omega]
      exact nmG_sp h
  · exact h
/-- what doing the signs wants -/
def MS.dI (x : MS) : Prop := x.sI 1 ∧ (x.works = true → x.qI) ∧ x.nmG ∧ x.faultCode = 0
theorem bin_pl {x : MS} (h : x.sI 1) (h0 : 0 < x.signCount) (hb : binS x.top = true) (hw : x.works = true) : 2 ≤ x.pile := by
  have c1 := cnt_pred (f := x.isO) h0
  rw [show x.isO (x.signCount - 1) = false from (bin_c hb).2.1] at c1
  simp only [Bool.false_eq_true, if_false] at c1
  have c2 := cnt_le (x.signCount - 1) x.isO
  have h5 := h.2.2.2.2 hw
  have h2 := h.2.1
  omega
theorem dn_in {x v : MS} (h : x.dI) (h0 : 0 < x.signCount) (h4 : ¬ x.top = 40) (hd : x.dnF = (true, v)) : v.dI ∧ v.signCount = x.signCount - 1 := by
  obtain ⟨hs, hq, hn, hf⟩ := h
  have ht := top_c hs h0 h4
  obtain ⟨p1, p2, p3, p4⟩ := pop_sI hs h0 h4
  have h5 := hs.2.2.2.2
  unfold MS.dnF at hd
  by_cases hw : x.works = true
  · rw [if_pos hw] at hd
    have hP := h5 hw
    by_cases c : x.top = 109
    · rw [if_pos c] at hd
      have ev : v = x.pop.ngS := (congrArg Prod.snd hd).symm
      rw [ev]
      have ho : 1 ≤ x.opn := by
        rcases ht with a | a
        · exact a.2
        · exact absurd c (bin_c a).2.2.2.2.1
      refine ⟨⟨⟨p1, p2, p3, p4, fun _ => ?_⟩, fun _ => ng_qI (x := x.pop) (hq hw), hn, hf⟩, rfl⟩
      show x.pile + (x.opn - (if x.top = 109 then 1 else 0)) = x.signCount - 1 + 1
      rw [if_pos c]
      omega
    · rw [if_neg c] at hd
      have hb : binS x.top = true := by
        rcases ht with a | a
        · exact absurd a.1 c
        · exact a
      have hp2 := bin_pl hs h0 hb hw
      have e1 : x.pop.opB = true := congrArg Prod.fst hd
      have ev : v = x.pop.opS (nI x.top) (x.signPlaces (x.signCount - 1)) := (congrArg Prod.snd hd).symm
      obtain ⟨o1, o2, o3⟩ := op_in (x := x.pop) (sg := nI x.top) (q := x.signPlaces (x.signCount - 1)) hp2 (hq hw) e1
      have o4 := nmG_op (x := x.pop) (sg := nI x.top) (q := x.signPlaces (x.signCount - 1)) hp2 hn
      rw [← ev] at o1 o2 o3 o4
      have s1 : v.signCount = x.signCount - 1 := tb_f o2 MS.signCount rfl
      have s2 : v.opn = x.pop.opn := tb_f o2 MS.opn rfl
      have s3 : v.signs = x.signs := tb_f o2 MS.signs rfl
      have s4 : v.isO = x.pop.isO := by
        funext k
        show isOpS (v.signs k) = isOpS (x.signs k)
        rw [s3]
      have s5 : v.faultCode = x.faultCode := tb_f o2 MS.faultCode rfl
      have s6 : x.pop.pile = x.pile := rfl
      refine ⟨⟨⟨by rw [s2]; exact p1, by rw [s1, s4, s2]; exact p2, ?_, ?_, fun _ => ?_⟩, fun _ => o1, o4, by rw [s5]; exact hf⟩, s1⟩
      · rw [s1, s3]
        exact p3
      · rw [s1, s3]
        exact p4
      · rw [o3, s1, s2, s6]
        show x.pile - 1 + (x.opn - (if x.top = 109 then 1 else 0)) = x.signCount - 1 + 1
        rw [if_neg c]
        omega
  · rw [if_neg hw] at hd
    have ev : v = x.pop := (congrArg Prod.snd hd).symm
    rw [ev]
    exact ⟨⟨⟨p1, p2, p3, p4, fun z => absurd z hw⟩, fun z => absurd z hw, hn, hf⟩, rfl⟩
/-- signs of this rank or a higher one done, from the uppermost on -/
def MS.dtF (rk : Nat) : Nat → MS → Bool × MS
  | 0, x => (true, x)
  | w + 1, x => if x.signCount = 0 then (true, x) else if rkM x.top < rk then (true, x) else if x.dnF.1 = true then MS.dtF rk w x.dnF.2 else (false, x.dnF.2)
def MS.dt (x : MS) (rk : Nat) : Bool × MS := MS.dtF rk x.signCount x
section DT
variable {rk w : Nat} {x y : MS}
theorem dt_e (h : x.signCount = 0 ∨ rkM x.top < rk) : MS.dtF rk w x = (true, x) := by
  cases w with
  | zero => rfl
  | succ w =>
    show (if x.signCount = 0 then (true, x) else if rkM x.top < rk then (true, x) else _) = _
    by_cases h0 : x.signCount = 0
    · rw [if_pos h0]
    · rw [if_neg h0, if_pos (h.resolve_left h0)]
theorem dt_f (hw : 0 < w) (h0 : ¬ x.signCount = 0) (h1 : ¬ rkM x.top < rk) (h2 : x.dnF.1 = false) : MS.dtF rk w x = (false, x.dnF.2) := by
  obtain ⟨d, rfl⟩ : ∃ d, w = d + 1 := ⟨w - 1, by omega⟩
  exact (if_neg h0).trans ((if_neg h1).trans (if_neg (by rw [h2]; decide)))
theorem dt_t (hw : 0 < w) (h0 : ¬ x.signCount = 0) (h1 : ¬ rkM x.top < rk) (h2 : x.dnF.1 = true) (e : y = x.dnF.2) : MS.dtF rk w x = MS.dtF rk (w - 1) y := by
  obtain ⟨d, rfl⟩ : ∃ d, w = d + 1 := ⟨w - 1, by omega⟩
  subst e
  exact (if_neg h0).trans ((if_neg h1).trans (if_pos h2))
end DT
theorem rk_40 {x : MS} {rk : Nat} (h : ¬ rkM x.top < rk) (hr : 1 ≤ rk) : ¬ x.top = 40 := fun z => h (by
  rw [z]
  exact Nat.lt_of_lt_of_le (by decide) hr)
/-- what is left when the signs of a rank are done -/
theorem dt_in {rk : Nat} (hr : 1 ≤ rk) : ∀ {w : Nat} {x v : MS}, x.dI → w = x.signCount → MS.dtF rk w x = (true, v) → v.dI ∧ x.dk v ∧ (v.signCount = 0 ∨ rkM v.top < rk)
  | 0, x, v, h, hw, hd => by
    have ev : v = x := (congrArg Prod.snd hd).symm
    rw [ev]
    exact ⟨h, dk_rf x, Or.inl hw.symm⟩
  | w + 1, x, v, h, hw, hd => by
    by_cases h0 : x.signCount = 0
    · omega
    · by_cases h1 : rkM x.top < rk
      · rw [dt_e (Or.inr h1)] at hd
        have ev : v = x := (congrArg Prod.snd hd).symm
        rw [ev]
        exact ⟨h, dk_rf x, Or.inr h1⟩
      · cases h2 : x.dnF.1 with
        | false =>
          rw [dt_f (Nat.succ_pos w) h0 h1 h2] at hd
          cases hd
        | true =>
          obtain ⟨y, ey⟩ : ∃ y, y = x.dnF.2 := ⟨_, rfl⟩
          rw [dt_t (Nat.succ_pos w) h0 h1 h2 ey] at hd
          obtain ⟨i1, i2⟩ := dn_in (v := y) h (by omega) (rk_40 h1 hr) (Prod.ext h2 ey.symm)
          obtain ⟨j1, j2, j3⟩ := dt_in hr (w := w) i1 (by omega) hd
          exact ⟨j1, dk_tr (by rw [ey]; exact dk_dn x) j2, j3⟩
theorem pl_dt {rk : Nat} : ∀ {w : Nat} {x : MS}, x.works = false → (MS.dtF rk w x).2.pile = x.pile
  | 0, x, _ => rfl
  | w + 1, x, h => by
    have e : x.dnF = (true, x.pop) := if_neg (by rw [h]; decide)
    unfold MS.dtF
    split
    · rfl
    · split
      · rfl
      · rw [e, if_pos rfl]
        exact pl_dt (x := x.pop) h
theorem dk_dt {rk : Nat} : ∀ {w : Nat} {x : MS}, x.dk (MS.dtF rk w x).2
  | 0, x => dk_rf x
  | w + 1, x => by
    unfold MS.dtF
    split
    · exact dk_rf x
    · split
      · exact dk_rf x
      · split
        · exact dk_tr (dk_dn x) dk_dt
        · exact dk_dn x
theorem rk_le (z : Int32) : rkN z ≤ 3 := by
  unfold rkN
  repeat' split
  all_goals decide
theorem dt_st {x yy v : MS} {rk w : Nat} (i : x.dt rk = MS.dtF rk w yy) (hw : 0 < w) (h0 : ¬ yy.signCount = 0) (h1 : ¬ rkM yy.top < rk) (e : v = yy.dnF.2) : x.dt rk = (if yy.dnF.1 = true then MS.dtF rk (w - 1) v else (false, v)) := by
  cases h2 : yy.dnF.1 with
  | true => rw [i, dt_t hw h0 h1 h2 e, if_pos rfl]
  | false => rw [i, dt_f hw h0 h1 h2, if_neg (by decide), e]
theorem dn_st {yy v : MS} {rk w : Nat} (h : yy.dI) (h0 : 0 < yy.signCount) (h1 : ¬ rkM yy.top < rk) (hr : 1 ≤ rk) (h2 : yy.dnF.1 = true) (e : v = yy.dnF.2) (hw : w = yy.signCount) : v.dI ∧ w - 1 = v.signCount := by
  obtain ⟨a, b⟩ := dn_in (v := v) h h0 (rk_40 h1 hr) (Prod.ext h2 e.symm)
  exact ⟨a, by omega⟩
theorem ck_sc {x y : MS} (h : x.ck y) : y.signCount = x.signCount := ck_f h MS.signCount rfl
theorem dt_le {rk : Nat} : ∀ {w : Nat} {x : MS}, (MS.dtF rk w x).2.signCount ≤ x.signCount
  | 0, x => Nat.le_refl _
  | w + 1, x => by
    unfold MS.dtF
    split
    · exact Nat.le_refl _
    · split
      · exact Nat.le_refl _
      · have h : x.dnF.2.signCount ≤ x.signCount := by
          unfold MS.dnF
          split
          · split
            · exact Nat.sub_le _ _
            · have e := ck_sc (ck_opS x.pop (nI x.top) (x.signPlaces (x.signCount - 1)))
              show (x.pop.opS (nI x.top) (x.signPlaces (x.signCount - 1))).signCount ≤ x.signCount
              rw [e]
              exact Nat.sub_le _ _
          · exact Nat.sub_le _ _
        split
        · exact Nat.le_trans dt_le h
        · exact h
theorem d_M_done_0 : decode prog_14_method_81_code 0 = .ok (.aload_n 0, 1) := by decide +kernel
theorem d_M_done_1 : decode prog_14_method_81_code 1 = .ok (.dup, 1) := by decide +kernel
theorem d_M_done_2 : decode prog_14_method_81_code 2 = .ok (.getfield 439, 3) := by decide +kernel
theorem d_M_done_5 : decode prog_14_method_81_code 5 = .ok (.iconst 1, 1) := by decide +kernel
theorem d_M_done_6 : decode prog_14_method_81_code 6 = .ok (.isub, 1) := by decide +kernel
theorem d_M_done_7 : decode prog_14_method_81_code 7 = .ok (.putfield 439, 3) := by decide +kernel
theorem d_M_done_10 : decode prog_14_method_81_code 10 = .ok (.aload_n 0, 1) := by decide +kernel
theorem d_M_done_11 : decode prog_14_method_81_code 11 = .ok (.getfield 126, 3) := by decide +kernel
theorem d_M_done_14 : decode prog_14_method_81_code 14 = .ok (.aload_n 0, 1) := by decide +kernel
theorem d_M_done_15 : decode prog_14_method_81_code 15 = .ok (.getfield 439, 3) := by decide +kernel
theorem d_M_done_18 : decode prog_14_method_81_code 18 = .ok (.iaload, 1) := by decide +kernel
theorem d_M_done_36 : decode prog_14_method_81_code 36 = .ok (.isub, 1) := by decide +kernel
theorem d_M_done_37 : decode prog_14_method_81_code 37 = .ok (.putfield 436, 3) := by decide +kernel
theorem d_M_done_40 : decode prog_14_method_81_code 40 = .ok (.aload_n 0, 1) := by decide +kernel
theorem d_M_done_41 : decode prog_14_method_81_code 41 = .ok (.getfield 442, 3) := by decide +kernel
theorem d_M_done_44 : decode prog_14_method_81_code 44 = .ok (.ifCond .ne 5, 3) := by decide +kernel
theorem d_M_done_49 : decode prog_14_method_81_code 49 = .ok (.iload_n 1, 1) := by decide +kernel
theorem d_M_done_50 : decode prog_14_method_81_code 50 = .ok (.bipush 109, 2) := by decide +kernel
theorem d_M_done_52 : decode prog_14_method_81_code 52 = .ok (.if_icmp .ne 9, 3) := by decide +kernel
theorem d_M_done_61 : decode prog_14_method_81_code 61 = .ok (.aload_n 0, 1) := by decide +kernel
theorem d_M_done_62 : decode prog_14_method_81_code 62 = .ok (.iload_n 1, 1) := by decide +kernel
theorem d_M_done_63 : decode prog_14_method_81_code 63 = .ok (.aload_n 0, 1) := by decide +kernel
theorem d_M_done_64 : decode prog_14_method_81_code 64 = .ok (.getfield 129, 3) := by decide +kernel
theorem d_M_done_67 : decode prog_14_method_81_code 67 = .ok (.aload_n 0, 1) := by decide +kernel
theorem d_M_done_68 : decode prog_14_method_81_code 68 = .ok (.getfield 439, 3) := by decide +kernel
theorem d_M_done_71 : decode prog_14_method_81_code 71 = .ok (.iaload, 1) := by decide +kernel
theorem d_M_done_72 : decode prog_14_method_81_code 72 = .ok (.invokevirtual 448, 3) := by decide +kernel
theorem d_M_done_75 : decode prog_14_method_81_code 75 = .ok (.ireturn, 1) := by decide +kernel
theorem d_M_done_55 : decode prog_14_method_81_code 55 = .ok (.aload_n 0, 1) := by decide +kernel
theorem d_M_done_56 : decode prog_14_method_81_code 56 = .ok (.invokevirtual 445, 3) := by decide +kernel
theorem d_M_done_59 : decode prog_14_method_81_code 59 = .ok (.iconst 1, 1) := by decide +kernel
theorem d_M_done_60 : decode prog_14_method_81_code 60 = .ok (.ireturn, 1) := by decide +kernel
theorem d_M_done_47 : decode prog_14_method_81_code 47 = .ok (.iconst 1, 1) := by decide +kernel
theorem d_M_done_48 : decode prog_14_method_81_code 48 = .ok (.ireturn, 1) := by decide +kernel
theorem d_M_done_19 : decode prog_14_method_81_code 19 = .ok (.istore_n 1, 1) := by decide +kernel
theorem d_M_done_20 : decode prog_14_method_81_code 20 = .ok (.aload_n 0, 1) := by decide +kernel
theorem d_M_done_21 : decode prog_14_method_81_code 21 = .ok (.dup, 1) := by decide +kernel
theorem d_M_done_22 : decode prog_14_method_81_code 22 = .ok (.getfield 436, 3) := by decide +kernel
theorem d_M_done_25 : decode prog_14_method_81_code 25 = .ok (.iload_n 1, 1) := by decide +kernel
theorem d_M_done_26 : decode prog_14_method_81_code 26 = .ok (.bipush 109, 2) := by decide +kernel
theorem d_M_done_28 : decode prog_14_method_81_code 28 = .ok (.if_icmp .ne 7, 3) := by decide +kernel
theorem d_M_done_35 : decode prog_14_method_81_code 35 = .ok (.iconst 0, 1) := by decide +kernel
theorem d_M_done_31 : decode prog_14_method_81_code 31 = .ok (.iconst 1, 1) := by decide +kernel
theorem d_M_done_32 : decode prog_14_method_81_code 32 = .ok (.goto 4, 3) := by decide +kernel
theorem w1038 : Cond.methodLink "SeriesVaultModel" 448 ⟨"SeriesVaultModel", "operate", "(II)Z"⟩ ∈ aW := aw_of (tb_11 (List.mem_of_getElem? (i := 27) rfl)) rfl
theorem w1039 : Cond.code ⟨"SeriesVaultModel", "operate", "(II)Z"⟩ prog_14_method_75_code 7 (some FieldType.boolean) ∈ aW := aw_of (tb_11 (List.mem_of_getElem? (i := 30) rfl)) rfl
theorem w1040 : Cond.instanceMethod ⟨"SeriesVaultModel", "operate", "(II)Z"⟩ ∈ aW := aw_of (tb_11 (List.mem_of_getElem? (i := 29) rfl)) rfl
theorem w1041 : Cond.selects "SeriesVaultModel" ⟨"SeriesVaultModel", "operate", "(II)Z"⟩ ⟨"SeriesVaultModel", "operate", "(II)Z"⟩ ∈ aW := aw_pr (List.mem_map.mpr ⟨_, pv_8 (List.mem_of_getElem? (i := 7) rfl), rfl⟩) rfl
theorem w1042 : Cond.methodLink "SeriesVaultModel" 445 ⟨"SeriesVaultModel", "negate", "()V"⟩ ∈ aW := aw_of (tb_11 (List.mem_of_getElem? (i := 23) rfl)) rfl
theorem w1043 : Cond.code ⟨"SeriesVaultModel", "negate", "()V"⟩ prog_14_method_78_code 4 none ∈ aW := aw_of (tb_11 (List.mem_of_getElem? (i := 26) rfl)) rfl
theorem w1044 : Cond.instanceMethod ⟨"SeriesVaultModel", "negate", "()V"⟩ ∈ aW := aw_of (tb_11 (List.mem_of_getElem? (i := 25) rfl)) rfl
theorem w1045 : Cond.selects "SeriesVaultModel" ⟨"SeriesVaultModel", "negate", "()V"⟩ ⟨"SeriesVaultModel", "negate", "()V"⟩ ∈ aW := aw_pr (List.mem_map.mpr ⟨_, pv_8 (List.mem_of_getElem? (i := 6) rfl), rfl⟩) rfl
set_option maxHeartbeats 4000000 in
set_option maxRecDepth 100000 in
theorem k_done (l : Launch) (D : va_G) (dA : Nat → ClassId) (sz : Nat) (h : Nat) (ad : Nat → Nat) (x : MS) (hdi : x.dI) (h0 : 0 < x.signCount) (h4 : ¬ x.top = 40) : Met l ⟨"SeriesVaultModel", "done", "()Z"⟩ [Cond.code ⟨"SeriesVaultModel", "done", "()Z"⟩ prog_14_method_81_code 2 (some FieldType.boolean)] { frames := 5, cells := 0, slots := 0, locals := 111 } (pC D dA [.ref h] (MW dA h ad x) sz) (va_Qi (fun (r9 : Int32) (u9 : MS) => r9 = bI (x.dnF).1 ∧ u9 = (x.dnF).2) (fun (u9 : MS) t9 => bW D (va_A (MW dA h ad x) sz) (MW dA h ad u9) t9) (va_A (MW dA h ad x) sz)) 0 0 (va_A (MW dA h ad x) sz) := by
  refine mkC (y := ⟨"SeriesVaultModel", "done", "()Z"⟩) (cc := prog_14_method_81_code) (maxL := 2) (av := [.ref h]) (ws := MW dA h ad x) (sz := sz) (Qc := fun A => va_Qi (fun (r9 : Int32) (u9 : MS) => r9 = bI (x.dnF).1 ∧ u9 = (x.dnF).2) (fun (u9 : MS) t9 => bW D A (MW dA h ad u9) t9) A) (by decide) (Nat.le_of_ble_eq_true rfl) ?_
  intro A p e s m below meth c ls hsz hB
  obtain ⟨hx, hb, hr, hml, hown, hin, hlk, hE, hK, hP, hD, hS, hA, hN, hl⟩ := hB
  have hown : s.vm.findClass "SeriesVaultModel" = some m.cls := hown
  have hl : lv_has ls 2 [(0, .ref h)] := hl
  obtain ⟨H, hH⟩ : ∃ z, z = s.heap := ⟨_, rfl⟩
  have hP : va_P D vwCl (MW dA h ad x) H := by rw [hH]; exact hP
  have hS : va_S A s.heap H [] := by rw [hH]; exact hS
  rw [← hH]
  obtain ⟨hs, hq, hn, hf⟩ := hdi
  have h26 := sI_26 hs
  have htc := top_c hs h0 h4
  have h109 : x.signs (x.signCount - 1) ≤ 109 := sI_lt hs (by omega)
  have ho8 := hs.1
  refine lv_aload_n hx hb d_M_done_0 rfl (lv_at hl 0 rfl) ?_
  refine lv_dup hx hb d_M_done_1 rfl ?_
  refine gF (v := .int (nI x.signCount)) hx hb hown hE hK hP 0 rfl rfl layM 68 (by decide) w477 rfl d_M_done_2 ?_
  refine lv_iconst (v := 1) hx hb d_M_done_5 (by decide) ?_
  refine lv_isub hx hb d_M_done_6 (tpi (y := nI (x.signCount - 1)) (pk_sub (a := x.signCount) (b := 1) (by omega)) ?_)
  refine pF (v := .int (nI (x.signCount - 1))) hx hb hown hE hK hP hD hS 0 rfl rfl layM tyM tokM nmM 68 (by decide) w477 rfl rfl rfl (Nat.le_of_ble_eq_true rfl) d_M_done_7 (fun H locs hP hD hS => ?_)
  have hP : va_P D vwCl (MW dA h ad (MS.s_signCount x (x.signCount - 1))) H := hP
  have hD : va_D A (MW dA h ad (MS.s_signCount x (x.signCount - 1))) := hD
  refine lv_aload_n hx hb d_M_done_10 rfl (lv_at hl 0 rfl) ?_
  refine gF (v := .ref (ad 66)) hx hb hown hE hK hP 0 rfl rfl layM 66 (by decide) w532 rfl d_M_done_11 ?_
  refine lv_aload_n hx hb d_M_done_14 rfl (lv_at hl 0 rfl) ?_
  refine gF (v := .int (nI (x.signCount - 1))) hx hb hown hE hK hP 0 rfl rfl layM 68 (by decide) w477 rfl d_M_done_15 ?_
  refine nild (f := (fun z9 => nI (x.signs z9))) hx hb hK hP 33 1 rfl rfl (x.signCount - 1) (by omega) (by decide) d_M_done_18 ?_
  have J36 : ∀ (d : Nat) (d1 : (if x.signs (x.signCount - 1) = 109 then 1 else 0) = d) (d2 : d ≤ x.opn), ∀ (H : Heap) (locs : List Loc) (ls : Array Slot) (hP : va_P D vwCl (MW dA h ad (MS.s_signCount x (x.signCount - 1))) H) (hD : va_D A (MW dA h ad (MS.s_signCount x (x.signCount - 1)))) (hS : va_S A s.heap H locs) (hl : lv_has ls 2 [(1, .int (nI (x.signs (x.signCount - 1)))), (0, .ref h)]), W p l e ({ frames := 5, cells := 0, slots := 0, locals := 111 } : Room) s m ([.ref h] : List Value).toArray below meth c H locs 0 0 (MQ below (va_Qi (fun (r9 : Int32) (u9 : MS) => r9 = bI (x.dnF).1 ∧ u9 = (x.dnF).2) (fun (u9 : MS) t9 => bW D A (MW dA h ad u9) t9) A) ([.ref h] : List Value).toArray s 0 0 A) (F0 m 36 ls [.int (nI d), .int (nI x.opn), .ref h]) := by
    intro d d1 d2 H locs ls hP hD hS hl
    refine lv_isub hx hb d_M_done_36 (tpi (y := nI (x.opn - d)) (pk_sub (a := x.opn) (b := d) (by omega)) ?_)
    refine pF (v := .int (nI (x.opn - d))) hx hb hown hE hK hP hD hS 0 rfl rfl layM tyM tokM nmM 69 (by decide) w478 rfl rfl rfl (Nat.le_of_ble_eq_true rfl) d_M_done_37 (fun H locs hP hD hS => ?_)
    have hP : va_P D vwCl (MW dA h ad (MS.s_opn (MS.s_signCount x (x.signCount - 1)) (x.opn - d))) H := hP
    have hD : va_D A (MW dA h ad (MS.s_opn (MS.s_signCount x (x.signCount - 1)) (x.opn - d))) := hD
    refine lv_aload_n hx hb d_M_done_40 rfl (lv_at hl 1 rfl) ?_
    refine gF (v := .int (bI x.works)) hx hb hown hE hK hP 0 rfl rfl layM 56 (by decide) w475 rfl d_M_done_41 ?_
    refine lv_if_ne hx hb d_M_done_44 (tgt := 49) rfl (fun g1 => ?_) (fun g1 => ?_)
    · have g1 := bI_n0 g1
      have hw : x.works = true := g1
      have hpp := hs.2.2.2.2 hw
      have hpl := sI_pl hs hw (Nat.le_refl 1)
      have hp0 : 0 < x.pile := by have c9 := cnt_le x.signCount x.isO; have c8 := hs.2.1; omega
      refine lv_iload_n hx hb d_M_done_49 rfl (lv_at hl 0 rfl) ?_
      refine lv_bipush (v := 109) hx hb d_M_done_50 (by decide) ?_
      refine lv_icmp_ne hx hb d_M_done_52 (tgt := 61) rfl (fun g2 => ?_) (fun g2 => ?_)
      · have g2 := mt (nI_eq (a := x.signs (x.signCount - 1)) (b := 109) (by omega) (by omega)).mpr g2
        have hbn : binS x.top = true := htc.resolve_left (fun z9 => absurd z9.1 g2)
        have hp2 := bin_pl hs h0 hbn hw
        refine lv_aload_n hx hb d_M_done_61 rfl (lv_at hl 1 rfl) ?_
        refine lv_iload_n hx hb d_M_done_62 rfl (lv_at hl 0 rfl) ?_
        refine lv_aload_n hx hb d_M_done_63 rfl (lv_at hl 1 rfl) ?_
        refine gF (v := .ref (ad 67)) hx hb hown hE hK hP 0 rfl rfl layM 67 (by decide) w533 rfl d_M_done_64 ?_
        refine lv_aload_n hx hb d_M_done_67 rfl (lv_at hl 1 rfl) ?_
        refine gF (v := .int (nI (x.signCount - 1))) hx hb hown hE hK hP 0 rfl rfl layM 68 (by decide) w477 rfl d_M_done_68 ?_
        refine nild (f := (fun z9 => nI (x.signPlaces z9))) hx hb hK hP 34 1 rfl rfl (x.signCount - 1) (by omega) (by decide) d_M_done_71 ?_
        refine jfI (rnV (As := [.int (nI (x.signs (x.signCount - 1))), .int (nI (x.signPlaces (x.signCount - 1)))]) (rest := []) hx hb hml hown hE hK (hN _ _ hS) hP hD (k_operate l D dA H.size h ad (MS.s_opn (MS.s_signCount x (x.signCount - 1)) (x.opn - d)) (nI (x.signs (x.signCount - 1))) (x.signPlaces (x.signCount - 1)) (bin_c hbn).2.2.1 hp2 (show x.pile ≤ 20 from by omega) (hq hw).2.2.2.2.1 (fun t ht => ⟨((hq hw).2.2.2.2.2.2.2 t ht).1, ⟨by have := sI_pl hs hw (Nat.le_refl 1); have ht2 : t < x.pile := ht; omega, ((hq hw).2.2.2.2.2.2.2 t ht).2.1, fun k _ => hn.1 _⟩, ((hq hw).2.2.2.2.2.2.2 t ht).2.2⟩) (fun t _ k _ => hn.1 _) hf) (q0 := 0) rfl rfl w1039 w1038 w1040 w1041 w328 rfl rfl ⟨⟨by decide, by decide⟩, rfl⟩ ⟨(Nat.le_of_ble_eq_true rfl), (Nat.le_of_ble_eq_true rfl)⟩ rfl hl.1 rfl (Nat.le_of_ble_eq_true rfl) d_M_done_72 ⟨(Nat.le_of_ble_eq_true rfl), (Nat.le_of_ble_eq_true rfl)⟩) hP hD hS hA (fun r3 u4 H locs hp9 hP hD hS => ?_)
        obtain ⟨y5, h9u⟩ : ∃ z9, z9 = u4 := ⟨_, rfl⟩
        subst h9u
        have hP : va_P D vwCl (MW dA h ad y5) H := hP
        have hD : va_D A (MW dA h ad y5) := hD
        obtain ⟨hp9, f_e_6⟩ := hp9
        replace hp9 : bI (MS.s_opn (MS.s_signCount x (x.signCount - 1)) (x.opn - d)).opB = r3 := Eq.symm hp9
        subst hp9
        exact rfZ hx hb hr (bI_nar ((MS.s_opn (MS.s_signCount x (x.signCount - 1)) (x.opn - d)).opB)) hlk hS y5 (by have e9 : x.dnF = (x.pop.opB, x.pop.opS (nI x.top) (x.signPlaces (x.signCount - 1))) := (if_pos g1).trans (if_neg g2); have e8 : x.pop = MS.s_opn (MS.s_signCount x (x.signCount - 1)) (x.opn - d) := (by unfold MS.pop; rw [show (if x.top = 109 then 1 else 0) = d from d1]); rw [e9, e8]; exact ⟨rfl, f_e_6⟩) hP hD (Nat.le_of_ble_eq_true rfl) (Nat.le_of_ble_eq_true rfl) d_M_done_75
      · have g2 := (nI_eq (a := x.signs (x.signCount - 1)) (b := 109) (by omega) (by omega)).mp g2
        refine lv_aload_n hx hb d_M_done_55 rfl (lv_at hl 1 rfl) ?_
        refine jfV (rnV (As := []) (rest := []) hx hb hml hown hE hK (hN _ _ hS) hP hD (k_negate l D dA H.size h ad (MS.s_opn (MS.s_signCount x (x.signCount - 1)) (x.opn - d)) hp0 (show x.pile ≤ 20 from by omega) (hq hw).2.2.2.2.1 ((hq hw).2.2.2.2.2.2.2 (x.pile - 1) (by omega)).1) (q0 := 0) rfl rfl w1043 w1042 w1044 w1045 w328 rfl rfl ⟨⟨by decide, by decide⟩, rfl⟩ ⟨(Nat.le_of_ble_eq_true rfl), (Nat.le_of_ble_eq_true rfl)⟩ rfl hl.1 rfl (Nat.le_of_ble_eq_true rfl) d_M_done_56 ⟨(Nat.le_of_ble_eq_true rfl), (Nat.le_of_ble_eq_true rfl)⟩) hP hD hS hA (fun u8 H locs hp9 hP hD hS => ?_)
        have hP : va_P D vwCl (MW dA h ad (MS.s_opn (MS.s_signCount (MS.s_cells x (ngR x.cells (x.pile - 1) x.windows (x.tableRows (x.pile - 1)))) (x.signCount - 1)) (x.opn - d))) H := hP
        have hD : va_D A (MW dA h ad (MS.s_opn (MS.s_signCount (MS.s_cells x (ngR x.cells (x.pile - 1) x.windows (x.tableRows (x.pile - 1)))) (x.signCount - 1)) (x.opn - d))) := hD
        refine lv_iconst (v := 1) hx hb d_M_done_59 (by decide) ?_
        exact rfZ hx hb hr (bI_nar true) hlk hS (MS.s_opn (MS.s_signCount (MS.s_cells x (ngR x.cells (x.pile - 1) x.windows (x.tableRows (x.pile - 1)))) (x.signCount - 1)) (x.opn - d)) (by have e9 : x.dnF = (true, x.pop.ngS) := (if_pos g1).trans (if_pos g2); rw [e9]; exact ⟨rfl, by unfold MS.ngS MS.pop; rw [show (if x.top = 109 then 1 else 0) = d from d1]⟩) hP hD (Nat.le_of_ble_eq_true rfl) (Nat.le_of_ble_eq_true rfl) d_M_done_60
    · have g1 := bI_0 g1
      refine lv_iconst (v := 1) hx hb d_M_done_47 (by decide) ?_
      exact rfZ hx hb hr (bI_nar true) hlk hS (MS.s_opn (MS.s_signCount x (x.signCount - 1)) (x.opn - d)) (by have e9 : x.dnF = (true, x.pop) := if_neg (by rw [g1]; decide); rw [e9]; exact ⟨rfl, by unfold MS.pop; rw [show (if x.top = 109 then 1 else 0) = d from d1]⟩) hP hD (Nat.le_of_ble_eq_true rfl) (Nat.le_of_ble_eq_true rfl) d_M_done_48
  refine lv_istore_n hx hb d_M_done_19 rfl hl (by decide) rfl (fun ls hl => ?_)
  have hl : lv_has ls 2 [(1, .int (nI (x.signs (x.signCount - 1)))), (0, .ref h)] := hl
  refine lv_aload_n hx hb d_M_done_20 rfl (lv_at hl 1 rfl) ?_
  refine lv_dup hx hb d_M_done_21 rfl ?_
  refine gF (v := .int (nI x.opn)) hx hb hown hE hK hP 0 rfl rfl layM 69 (by decide) w478 rfl d_M_done_22 ?_
  refine lv_iload_n hx hb d_M_done_25 rfl (lv_at hl 0 rfl) ?_
  refine lv_bipush (v := 109) hx hb d_M_done_26 (by decide) ?_
  refine lv_icmp_ne hx hb d_M_done_28 (tgt := 35) rfl (fun g9 => ?_) (fun g9 => ?_)
  · have g9 := mt (nI_eq (a := x.signs (x.signCount - 1)) (b := 109) (by omega) (by omega)).mpr g9
    refine lv_iconst (v := 0) hx hb d_M_done_35 (by decide) ?_
    exact J36 0 (if_neg g9) (Nat.zero_le _) H _ ls hP hD hS (lv_sub hl [0, 1] rfl)
  · have g9 := (nI_eq (a := x.signs (x.signCount - 1)) (b := 109) (by omega) (by omega)).mp g9
    refine lv_iconst (v := 1) hx hb d_M_done_31 (by decide) ?_
    refine lv_goto hx hb d_M_done_32 (tgt := 36) rfl ?_
    exact J36 1 (if_pos g9) (htc.elim (fun z9 => z9.2) (fun z9 => absurd g9 (bin_c z9).2.2.2.2.1)) H _ ls hP hD hS (lv_sub hl [0, 1] rfl)
theorem d_M_doneTo_0 : decode prog_14_method_82_code 0 = .ok (.iconst 1, 1) := by decide +kernel
theorem d_M_doneTo_1 : decode prog_14_method_82_code 1 = .ok (.istore_n 2, 1) := by decide +kernel
theorem d_M_doneTo_2 : decode prog_14_method_82_code 2 = .ok (.iload_n 2, 1) := by decide +kernel
theorem d_M_doneTo_3 : decode prog_14_method_82_code 3 = .ok (.ifCond .eq 36, 3) := by decide +kernel
theorem d_M_doneTo_39 : decode prog_14_method_82_code 39 = .ok (.iload_n 2, 1) := by decide +kernel
theorem d_M_doneTo_40 : decode prog_14_method_82_code 40 = .ok (.ireturn, 1) := by decide +kernel
theorem d_M_doneTo_6 : decode prog_14_method_82_code 6 = .ok (.aload_n 0, 1) := by decide +kernel
theorem d_M_doneTo_7 : decode prog_14_method_82_code 7 = .ok (.getfield 439, 3) := by decide +kernel
theorem d_M_doneTo_10 : decode prog_14_method_82_code 10 = .ok (.ifCond .le 29, 3) := by decide +kernel
theorem d_M_doneTo_13 : decode prog_14_method_82_code 13 = .ok (.aload_n 0, 1) := by decide +kernel
theorem d_M_doneTo_14 : decode prog_14_method_82_code 14 = .ok (.getfield 126, 3) := by decide +kernel
theorem d_M_doneTo_17 : decode prog_14_method_82_code 17 = .ok (.aload_n 0, 1) := by decide +kernel
theorem d_M_doneTo_18 : decode prog_14_method_82_code 18 = .ok (.getfield 439, 3) := by decide +kernel
theorem d_M_doneTo_21 : decode prog_14_method_82_code 21 = .ok (.iconst 1, 1) := by decide +kernel
theorem d_M_doneTo_22 : decode prog_14_method_82_code 22 = .ok (.isub, 1) := by decide +kernel
theorem d_M_doneTo_23 : decode prog_14_method_82_code 23 = .ok (.iaload, 1) := by decide +kernel
theorem d_M_doneTo_24 : decode prog_14_method_82_code 24 = .ok (.invokestatic 451, 3) := by decide +kernel
theorem d_M_doneTo_27 : decode prog_14_method_82_code 27 = .ok (.iload_n 1, 1) := by decide +kernel
theorem d_M_doneTo_28 : decode prog_14_method_82_code 28 = .ok (.if_icmp .lt 11, 3) := by decide +kernel
theorem d_M_doneTo_31 : decode prog_14_method_82_code 31 = .ok (.aload_n 0, 1) := by decide +kernel
theorem d_M_doneTo_32 : decode prog_14_method_82_code 32 = .ok (.invokevirtual 454, 3) := by decide +kernel
theorem d_M_doneTo_35 : decode prog_14_method_82_code 35 = .ok (.istore_n 2, 1) := by decide +kernel
theorem d_M_doneTo_36 : decode prog_14_method_82_code 36 = .ok (.goto (-34), 3) := by decide +kernel
theorem w1046 : Cond.methodLink "SeriesVaultModel" 451 ⟨"SeriesVaultModel", "rank", "(I)I"⟩ ∈ aW := aw_of (tb_11 (List.mem_of_getElem? (i := 16) rfl)) rfl
theorem w1047 : Cond.code ⟨"SeriesVaultModel", "rank", "(I)I"⟩ prog_14_method_79_code 1 (some FieldType.int) ∈ aW := aw_of (tb_11 (List.mem_of_getElem? (i := 18) rfl)) rfl
theorem w1048 : Cond.static ⟨"SeriesVaultModel", "rank", "(I)I"⟩ ∈ aW := aw_of (tb_11 (List.mem_of_getElem? (i := 17) rfl)) rfl
theorem w1049 : Cond.methodLink "SeriesVaultModel" 454 ⟨"SeriesVaultModel", "done", "()Z"⟩ ∈ aW := aw_of (tb_11 (List.mem_of_getElem? (i := 19) rfl)) rfl
theorem w1050 : Cond.code ⟨"SeriesVaultModel", "done", "()Z"⟩ prog_14_method_81_code 2 (some FieldType.boolean) ∈ aW := aw_of (tb_11 (List.mem_of_getElem? (i := 22) rfl)) rfl
theorem w1051 : Cond.instanceMethod ⟨"SeriesVaultModel", "done", "()Z"⟩ ∈ aW := aw_of (tb_11 (List.mem_of_getElem? (i := 21) rfl)) rfl
theorem w1052 : Cond.selects "SeriesVaultModel" ⟨"SeriesVaultModel", "done", "()Z"⟩ ⟨"SeriesVaultModel", "done", "()Z"⟩ ∈ aW := aw_pr (List.mem_map.mpr ⟨_, pv_8 (List.mem_of_getElem? (i := 5) rfl), rfl⟩) rfl
set_option maxHeartbeats 4000000 in
set_option maxRecDepth 100000 in
theorem k_doneTo (l : Launch) (D : va_G) (dA : Nat → ClassId) (sz : Nat) (h : Nat) (ad : Nat → Nat) (x : MS) (rk : Nat) (hdi : x.dI) (hr1 : 1 ≤ rk) (hr3 : rk ≤ 3) : Met l ⟨"SeriesVaultModel", "doneTo", "(I)Z"⟩ [Cond.code ⟨"SeriesVaultModel", "doneTo", "(I)Z"⟩ prog_14_method_82_code 3 (some FieldType.boolean)] { frames := 6, cells := 0, slots := 0, locals := 132 } (pC D dA [.ref h, .int (nI rk)] (MW dA h ad x) sz) (va_Qi (fun (r9 : Int32) (u9 : MS) => r9 = bI (x.dt rk).1 ∧ u9 = (x.dt rk).2) (fun (u9 : MS) t9 => bW D (va_A (MW dA h ad x) sz) (MW dA h ad u9) t9) (va_A (MW dA h ad x) sz)) 0 0 (va_A (MW dA h ad x) sz) := by
  refine mkC (y := ⟨"SeriesVaultModel", "doneTo", "(I)Z"⟩) (cc := prog_14_method_82_code) (maxL := 3) (av := [.ref h, .int (nI rk)]) (ws := MW dA h ad x) (sz := sz) (Qc := fun A => va_Qi (fun (r9 : Int32) (u9 : MS) => r9 = bI (x.dt rk).1 ∧ u9 = (x.dt rk).2) (fun (u9 : MS) t9 => bW D A (MW dA h ad u9) t9) A) (by decide) (Nat.le_of_ble_eq_true rfl) ?_
  intro A p e s m below meth c ls hsz hB
  obtain ⟨hx, hb, hr, hml, hown, hin, hlk, hE, hK, hP, hD, hS, hA, hN, hl⟩ := hB
  have hown : s.vm.findClass "SeriesVaultModel" = some m.cls := hown
  have hl : lv_has ls 3 [(0, .ref h), (1, .int (nI rk))] := hl
  obtain ⟨H, hH⟩ : ∃ z, z = s.heap := ⟨_, rfl⟩
  have hP : va_P D vwCl (MW dA h ad x) H := by rw [hH]; exact hP
  have hS : va_S A s.heap H [] := by rw [hH]; exact hS
  rw [← hH]
  refine lv_iconst (v := 1) hx hb d_M_doneTo_0 (by decide) ?_
  refine lv_istore_n hx hb d_M_doneTo_1 rfl hl (by decide) rfl (fun ls hl => ?_)
  have hl : lv_has ls 3 [(2, .int 1), (0, .ref h), (1, .int (nI rk))] := hl
  have L2 : ∀ (k9 : Nat) (yy : MS) (g : Bool) (w : Nat) (i1 : x.dt rk = (if g = true then MS.dtF rk w yy else (false, yy))) (i2 : g = true → yy.dI ∧ w = yy.signCount) (hk9 : w + (if g = true then 1 else 0) = k9), ∀ (H : Heap) (locs : List Loc) (ls : Array Slot) (hP : va_P D vwCl (MW dA h ad yy) H) (hD : va_D A (MW dA h ad yy)) (hS : va_S A s.heap H locs) (hl : lv_has ls 3 [(2, .int (bI g)), (1, .int (nI rk)), (0, .ref h)]), W p l e ({ frames := 6, cells := 0, slots := 0, locals := 132 } : Room) s m ([.ref h, .int (nI rk)] : List Value).toArray below meth c H locs 0 0 (MQ below (va_Qi (fun (r9 : Int32) (u9 : MS) => r9 = bI (x.dt rk).1 ∧ u9 = (x.dt rk).2) (fun (u9 : MS) t9 => bW D A (MW dA h ad u9) t9) A) ([.ref h, .int (nI rk)] : List Value).toArray s 0 0 A) (F0 m 2 ls []) := by
    intro k9
    induction k9 using Nat.strongRecOn with
    | ind k9 ih2 =>
      intro yy g w i1 i2 hk9 H locs ls hP hD hS hl
      refine lv_iload_n hx hb d_M_doneTo_2 rfl (lv_at hl 0 rfl) ?_
      refine lv_if_eq hx hb d_M_doneTo_3 (tgt := 39) rfl (fun g1 => ?_) (fun g1 => ?_)
      · have g1 := bI_0 g1
        refine lv_iload_n hx hb d_M_doneTo_39 rfl (lv_at hl 0 rfl) ?_
        exact rfZ hx hb hr (bI_nar g) hlk hS yy (by rw [i1, if_neg (by rw [g1]; decide)]; exact ⟨by rw [g1], rfl⟩) hP hD (Nat.le_of_ble_eq_true rfl) (Nat.le_of_ble_eq_true rfl) d_M_doneTo_40
      · have g1 := bI_n0 g1
        have i1b : x.dt rk = MS.dtF rk w yy := i1.trans (if_pos g1)
        obtain ⟨i2b, i2w⟩ := i2 g1
        have h26 := sI_26 i2b.1
        refine lv_aload_n hx hb d_M_doneTo_6 rfl (lv_at hl 2 rfl) ?_
        refine gF (v := .int (nI yy.signCount)) hx hb hown hE hK hP 0 rfl rfl layM 68 (by decide) w477 rfl d_M_doneTo_7 ?_
        refine lv_if_le hx hb d_M_doneTo_10 (tgt := 39) rfl (fun g2 => ?_) (fun g2 => ?_)
        · have g2 := (nI_leI (a := yy.signCount) (b := 0) (by omega) (by decide)).mp g2
          refine lv_iload_n hx hb d_M_doneTo_39 rfl (lv_at hl 0 rfl) ?_
          exact rfZ hx hb hr (bI_nar g) hlk hS yy (by rw [i1, if_pos g1, dt_e (Or.inl (by omega))]; exact ⟨by rw [g1], rfl⟩) hP hD (Nat.le_of_ble_eq_true rfl) (Nat.le_of_ble_eq_true rfl) d_M_doneTo_40
        · have g2 := mt (nI_leI (a := yy.signCount) (b := 0) (by omega) (by decide)).mpr g2
          have h109 : yy.signs (yy.signCount - 1) ≤ 109 := sI_lt i2b.1 (by omega)
          have hrk := rk_le (nI (yy.signs (yy.signCount - 1)))
          refine lv_aload_n hx hb d_M_doneTo_13 rfl (lv_at hl 2 rfl) ?_
          refine gF (v := .ref (ad 66)) hx hb hown hE hK hP 0 rfl rfl layM 66 (by decide) w532 rfl d_M_doneTo_14 ?_
          refine lv_aload_n hx hb d_M_doneTo_17 rfl (lv_at hl 2 rfl) ?_
          refine gF (v := .int (nI yy.signCount)) hx hb hown hE hK hP 0 rfl rfl layM 68 (by decide) w477 rfl d_M_doneTo_18 ?_
          refine lv_iconst (v := 1) hx hb d_M_doneTo_21 (by decide) ?_
          refine lv_isub hx hb d_M_doneTo_22 (tpi (y := nI (yy.signCount - 1)) (pk_sub (a := yy.signCount) (b := 1) (by omega)) ?_)
          refine nild (f := (fun z9 => nI (yy.signs z9))) hx hb hK hP 33 1 rfl rfl (yy.signCount - 1) (by omega) (by decide) d_M_doneTo_23 ?_
          have hPc := hP.sub (ws' := []) [] rfl
          have hDc := hD.sub (ws' := []) [] (by decide) rfl
          refine jnI (rnS (As := [.int (nI (yy.signs (yy.signCount - 1)))]) (rest := []) hx hb hml hown hE hK (hN _ _ hS) hPc hDc (k_rank l D dA H.size (nI (yy.signs (yy.signCount - 1)))) w1047 w1046 w1048 w328 rfl rfl ⟨⟨by decide, by decide⟩, rfl⟩ ⟨(Nat.le_of_ble_eq_true rfl), (Nat.le_of_ble_eq_true rfl)⟩ rfl hl.1 rfl (Nat.le_of_ble_eq_true rfl) d_M_doneTo_24 ⟨(Nat.le_of_ble_eq_true rfl), (Nat.le_of_ble_eq_true rfl)⟩) hP hD hS hA [] [0, 1, 2, 3, 4, 5, 6, 7, 8, 9, 10, 11, 12, 13, 14, 15, 16, 17, 18, 19, 20, 21, 22, 23, 24, 25, 26, 27, 28, 29, 30, 31, 32, 33, 34, 35, 36, 37, 38] (wr := MW dA h ad yy) rfl rfl (by decide) (by decide) (fun r3 u9 H locs hp9 hP hD hS => ?_)
          have hP : va_P D vwCl (MW dA h ad yy) H := hP
          have hD : va_D A (MW dA h ad yy) := hD
          replace hp9 : nI (rkN (nI (yy.signs (yy.signCount - 1)))) = r3 := Eq.symm hp9
          subst hp9
          refine lv_iload_n hx hb d_M_doneTo_27 rfl (lv_at hl 1 rfl) ?_
          refine lv_icmp_lt hx hb d_M_doneTo_28 (tgt := 39) rfl (fun g5 => ?_) (fun g5 => ?_)
          · have g5 := (nI_ltI (a := rkN (nI (yy.signs (yy.signCount - 1)))) (b := rk) (by omega) (by omega)).mp g5
            refine lv_iload_n hx hb d_M_doneTo_39 rfl (lv_at hl 0 rfl) ?_
            exact rfZ hx hb hr (bI_nar g) hlk hS yy (by rw [i1, if_pos g1, dt_e (Or.inr (by show rkN (nI (yy.signs (yy.signCount - 1))) < rk; omega))]; exact ⟨by rw [g1], rfl⟩) hP hD (Nat.le_of_ble_eq_true rfl) (Nat.le_of_ble_eq_true rfl) d_M_doneTo_40
          · have g5 := mt (nI_ltI (a := rkN (nI (yy.signs (yy.signCount - 1)))) (b := rk) (by omega) (by omega)).mpr g5
            refine lv_aload_n hx hb d_M_doneTo_31 rfl (lv_at hl 2 rfl) ?_
            refine jfI (rnV (As := []) (rest := []) hx hb hml hown hE hK (hN _ _ hS) hP hD (k_done l D dA H.size h ad yy i2b (show 0 < yy.signCount from by omega) (rk_40 (by show ¬ rkN (nI (yy.signs (yy.signCount - 1))) < rk; omega) hr1)) (q0 := 0) rfl rfl w1050 w1049 w1051 w1052 w328 rfl rfl ⟨⟨by decide, by decide⟩, rfl⟩ ⟨(Nat.le_of_ble_eq_true rfl), (Nat.le_of_ble_eq_true rfl)⟩ rfl hl.1 rfl (Nat.le_of_ble_eq_true rfl) d_M_doneTo_32 ⟨(Nat.le_of_ble_eq_true rfl), (Nat.le_of_ble_eq_true rfl)⟩) hP hD hS hA (fun r6 u7 H locs hp9 hP hD hS => ?_)
            obtain ⟨y8, h9u⟩ : ∃ z9, z9 = u7 := ⟨_, rfl⟩
            subst h9u
            have hP : va_P D vwCl (MW dA h ad y8) H := hP
            have hD : va_D A (MW dA h ad y8) := hD
            obtain ⟨hp9, f_e_9⟩ := hp9
            replace hp9 : bI (yy.dnF).1 = r6 := Eq.symm hp9
            subst hp9
            refine lv_istore_n hx hb d_M_doneTo_35 rfl hl (by decide) rfl (fun ls hl => ?_)
            have hl : lv_has ls 3 [(2, .int (bI (yy.dnF).1)), (1, .int (nI rk)), (0, .ref h)] := hl
            refine lv_goto hx hb d_M_doneTo_36 (tgt := 2) rfl ?_
            exact ih2 _ (by rw [← hk9, if_pos g1]; split <;> omega) y8 ((yy.dnF).1) (w - 1) (dt_st i1b (by omega) (by omega) (by show ¬ rkN (nI (yy.signs (yy.signCount - 1))) < rk; omega) f_e_9) (fun z9 => (dn_st i2b (by omega) (by show ¬ rkN (nI (yy.signs (yy.signCount - 1))) < rk; omega) hr1 z9 f_e_9 i2w)) rfl H _ ls hP hD hS (lv_sub hl [0, 1, 2] rfl)
  exact L2 _ x true x.signCount rfl (fun _ => ⟨hdi, rfl⟩) rfl H _ ls hP hD hS (lv_sub hl [0, 2, 1] rfl)
end
section
theorem mc_tk (x : MS) : x.tk x.mcF.2 := by
  unfold MS.mcF
  split
  · refine tk_tr (tk_nd x 2) ?_
    unfold MS.mc1
    split
    · split
      · exact tk_tr (tk_nx _) (tk_nd _ _)
      · exact tk_nx _
    · exact tk_fl _ _ _
  · exact tk_nd x 2
theorem ml_tk : ∀ {w : Nat} {x : MS}, x.tk (MS.mlF w x).2
  | 0, x => tk_rf x
  | w + 1, x => by
    unfold MS.mlF
    split
    · split
      · split
        · exact tk_tr (mc_tk x) (tk_tr (tk_nx _) ml_tk)
        · exact tk_tr (mc_tk x) (tk_nx _)
      · exact mc_tk x
    · exact mc_tk x
theorem ml_in {w : Nat} : ∀ {x v : MS}, byteF x.tape → x.lx → x.isT → MS.mlF w x = (true, v) → v.lx ∧ v.isT ∧ x.too ≤ v.too := by
  induction w with
  | zero => intro x v _ _ _ h; cases h
  | succ w ih =>
    intro x v hb hl ht h
    cases c1 : x.mcF.1 with
    | false => rw [ml_0 (Nat.succ_pos w) c1] at h; cases h
    | true =>
      obtain ⟨y, ey⟩ : ∃ y, y = x.mcF.2 := ⟨_, rfl⟩
      obtain ⟨a1, a2, a3, a4, a5, -⟩ := mc_in hb hl ht (show x.mcF = (true, y) from Prod.ext c1 ey.symm)
      by_cases c2 : y.kind = 44
      · cases c3 : y.nx.1 with
        | false => rw [ml_n (Nat.succ_pos w) c1 ey c2 c3] at h; cases h
        | true =>
          obtain ⟨z, ez⟩ : ∃ z, z = y.nx.2 := ⟨_, rfl⟩
          rw [ml_m (Nat.succ_pos w) c1 ey c2 c3 ez] at h
          obtain ⟨n1, n2, -⟩ := nx_in a1 c3
          have t1 := (nx_isT c3).1
          rw [← ez] at n1 n2 t1
          have bz : byteF z.tape := by
            rw [show z.tape = x.tape by rw [ez, (nx_sT y).1, a3.1]]
            exact hb
          obtain ⟨r1, r2, r3⟩ := ih bz n1 t1 h
          have := n1.2.1
          exact ⟨r1, r2, by omega⟩
      · rw [ml_e (Nat.succ_pos w) c1 ey c2] at h
        have ev : v = y := (congrArg Prod.snd h).symm
        rw [ev]
        exact ⟨a1, a2, Nat.le_of_lt a5⟩
/-- a token behind this one -/
def MS.aft (x v : MS) : Prop := v.lx ∧ v.isT ∧ x.too ≤ v.frm ∧ (v.kind = 0 ∨ v.frm < v.too)
theorem nx_aft {x : MS} (h : x.lx) (hn : x.nx.1 = true) : x.aft x.nx.2 := by
  obtain ⟨a, b, c⟩ := nx_in h hn
  exact ⟨a, (nx_isT hn).1, b, c⟩
theorem nd_aft {x : MS} {k : Int32} (h : x.lx) (hn : (x.ndF k).1 = true) : x.aft (x.ndF k).2 := by
  have kk := (nd_in h hn).2.2.2
  have n1 : x.ndF k = x.nx := if_pos kk
  rw [n1] at hn ⊢
  exact nx_aft h hn
theorem aft_tr {x y z : MS} (h1 : x.aft y) (h2 : y.aft z) : x.aft z := ⟨h2.1, h2.2.1, by have := h1.1.2.1; have := h1.2.2.1; have := h2.2.2.1; omega, h2.2.2.2⟩
theorem aft_le {x y z : MS} (h1 : x.too ≤ y.too) (h2 : y.aft z) : x.aft z := ⟨h2.1, h2.2.1, by have := h2.2.2.1; omega, h2.2.2.2⟩
theorem nmG_tk {x y : MS} (h : x.tk y) (hx : x.nmG) : y.nmG := by
  have h1 : (x.tkS y).nmG := hx
  rw [← show y = x.tkS y from h] at h1
  exact h1
theorem byL_G {t : Nat} : ∀ {w : Nat} {y : MS}, y.nmG → y.length ≤ 65536 → y.frm ≤ y.too → y.too ≤ y.length → y.faultCode = 0 → (MS.byL t w y).2.nmG
  | 0, y, h, _, _, _, _ => h
  | w + 1, y, h, h1, h2, h3, h4 => by
    have ha : (y.adS t).nmG := by
      refine ⟨fun q => ?_, h.2⟩
      show va_up y.nameFroms (6 * t + y.tableNames t) y.frm q + va_up y.nameLengths (6 * t + y.tableNames t) (y.too - y.frm) q ≤ 65536
      unfold va_up
      split
      · omega
      · exact h.1 q
    have hz := nmG_tk (tk_nx (y.adS t)) ha
    unfold MS.byL
    split
    · split
      · exact nmG_tk (tk_fl y 4 y.frm) h
      · split
        · rename_i c2
          have lz := (nx_in (show (y.adS t).lx from ⟨h1, h2, h3, h4⟩) c2).1
          split
          · split
            · rename_i c4
              have lu := (nx_in lz c4).1
              exact byL_G (nmG_tk (tk_nx _) hz) lu.1 lu.2.1 lu.2.2.1 lu.2.2.2
            · exact nmG_tk (tk_nx _) hz
          · exact nmG_tk (tk_nd _ _) hz
        · exact hz
    · exact nmG_tk (tk_fl y 2 y.frm) h
theorem by_G {x : MS} (h : x.nmG) (hl : x.lx) : x.byF.2.nmG := by
  unfold MS.byF
  split
  · rename_i c1
    have l1 := (nx_in hl c1).1
    split
    · rename_i c2
      have l2 := (nd_in l1 c2).1
      exact byL_G (nmG_tk (tk_nd _ _) (nmG_tk (tk_nx x) h)) l2.1 l2.2.1 l2.2.2.1 l2.2.2.2
    · exact nmG_tk (tk_nd _ _) (nmG_tk (tk_nx x) h)
  · exact nmG_tk (tk_nx x) h
theorem byL_aft {t : Nat} : ∀ {w : Nat} {y v : MS}, y.lx → MS.byL t w y = (true, v) → y.aft v
  | 0, y, v, _, h => by cases h
  | w + 1, y, v, hl, h => by
    have hp : 0 < w + 1 := Nat.succ_pos w
    by_cases k2 : y.kind = 2
    · cases c1 : y.byT t with
      | true => rw [by_4 hp k2 c1] at h; cases h
      | false =>
        cases c2 : (y.adS t).nx.1 with
        | false => rw [by_n hp k2 c1 c2] at h; cases h
        | true =>
          obtain ⟨z, ez⟩ : ∃ z, z = (y.adS t).nx.2 := ⟨_, rfl⟩
          have az : y.aft z := by rw [ez]; exact nx_aft (x := y.adS t) hl c2
          by_cases c3 : z.kind = 44
          · cases c4 : z.nx.1 with
            | false => rw [by_mn hp k2 c1 c2 ez c3 c4] at h; cases h
            | true =>
              obtain ⟨u, eu⟩ : ∃ u, u = z.nx.2 := ⟨_, rfl⟩
              have au : z.aft u := by rw [eu]; exact nx_aft az.1 c4
              rw [by_m hp k2 c1 c2 ez c3 c4 eu] at h
              exact aft_tr az (aft_tr au (byL_aft au.1 h))
          · rw [by_e hp k2 c1 c2 ez c3] at h
            have g : (z.ndF 41).1 = true := by rw [h]
            have ev : v = (z.ndF 41).2 := by rw [h]
            rw [ev]
            exact aft_tr az (nd_aft az.1 g)
    · rw [by_k hp k2] at h; cases h
theorem by_aft {x v : MS} (hl : x.lx) (h : x.byF = (true, v)) : x.aft v := by
  cases c1 : x.nx.1 with
  | false => rw [byF_0 c1] at h; cases h
  | true =>
    obtain ⟨y, ey⟩ : ∃ y, y = x.nx.2 := ⟨_, rfl⟩
    have ay : x.aft y := by rw [ey]; exact nx_aft hl c1
    cases c2 : (y.ndF 40).1 with
    | false => rw [byF_1 c1 ey c2] at h; cases h
    | true =>
      obtain ⟨z, ez⟩ : ∃ z, z = (y.ndF 40).2 := ⟨_, rfl⟩
      have az : y.aft z := by rw [ez]; exact nd_aft ay.1 c2
      rw [byF_2 c1 ey c2 ez] at h
      exact aft_tr ay (aft_tr az (byL_aft az.1 h))
/-- behind a function that has been read -/
def MS.clR (x v : MS) (wk : Bool) : Prop := x.aft v ∧ x.ck v ∧ v.nmG ∧ (wk = true → v.qI ∧ v.pile = x.pile + 1) ∧ (wk = false → v.pile = x.pile)
theorem c5_in {z v : MS} {wh p : Nat} (hl : z.lx) (hn : z.nmG) (hq : z.works = true → z.qI ∧ z.tableNames z.pile ≤ 6) (h : z.cl5 wh p = (true, v)) : z.clR v z.works := by
  by_cases k : z.kind = 41
  · cases w : z.works with
    | true =>
      obtain ⟨u, eu⟩ : ∃ u, u = z.rkS wh p := ⟨_, rfl⟩
      rw [c5_y k w eu] at h
      have g : u.nx.1 = true := by rw [h]
      have ev : v = u.nx.2 := by rw [h]
      obtain ⟨r1, r2⟩ := rk_in (wh := wh) (p := p) (hq w).1 (hq w).2
      rw [← eu] at r1 r2
      have lu : u.lx := by rw [eu]; exact hl
      have au := nx_aft lu g
      rw [← ev] at au
      have tu : u.too = z.too := by rw [eu]; rfl
      refine ⟨aft_le (by rw [tu]; exact Nat.le_refl _) au, ck_tr (y := u) (by rw [eu]; exact ck_rk z wh p) (by rw [ev]; exact ck_tk (tk_nx u)), ?_, fun _ => ⟨by rw [ev]; exact qI_tk (tk_nx u) r1, ?_⟩, fun z9 => Bool.noConfusion z9⟩
      · rw [ev]
        exact nmG_tk (tk_nx u) ⟨by rw [eu]; exact hn.1, r1.2.2.2.2.2.2.1⟩
      · rw [ev, tk_f (tk_nx u) MS.pile rfl]
        exact r2
    | false =>
      rw [c5_n k w] at h
      have g : z.nx.1 = true := by rw [h]
      have ev : v = z.nx.2 := by rw [h]
      rw [ev]
      exact ⟨nx_aft hl g, ck_tk (tk_nx z), nmG_tk (tk_nx z) hn, fun z9 => Bool.noConfusion z9, fun _ => tk_f (tk_nx z) MS.pile rfl⟩
  · rw [c5_x k] at h; cases h
theorem clR_tk {x y v : MS} {wk : Bool} (h : x.tk y) (ha : x.too ≤ y.too) (hv : y.clR v wk) : x.clR v wk := ⟨aft_le ha hv.1, ck_tr (ck_tk h) hv.2.1, hv.2.2.1, fun w => by obtain ⟨a, b⟩ := hv.2.2.2.1 w; exact ⟨a, by rw [b, tk_f h MS.pile rfl]⟩, fun w => by rw [hv.2.2.2.2 w, tk_f h MS.pile rfl]⟩
theorem c4_in {y v : MS} {wh p : Nat} (hl : y.lx) (hn : y.nmG) (hq : y.works = true → y.qI ∧ y.tableNames y.pile ≤ 6) (h : y.cl4 wh p = (true, v)) : y.clR v y.works := by
  cases c : (y.ndF 125).1 with
  | false => rw [c4_0 c] at h; cases h
  | true =>
    obtain ⟨z, ez⟩ : ∃ z, z = (y.ndF 125).2 := ⟨_, rfl⟩
    have T : y.tk z := by rw [ez]; exact tk_nd _ _
    have az : y.aft z := by rw [ez]; exact nd_aft hl c
    have w1 : z.works = y.works := tk_f T MS.works rfl
    rw [c4_1 c ez] at h
    have r := c5_in az.1 (nmG_tk T hn) (fun w => by
      obtain ⟨a, b⟩ := hq (by rw [← w1]; exact w)
      exact ⟨qI_tk T a, by rw [tk_f T MS.pile rfl, tk_tn T]; exact b⟩) h
    rw [w1] at r
    exact clR_tk T (by have := az.1.2.1; have := az.2.2.1; omega) r
theorem c2_in {y v : MS} {wh : Nat} (hl : y.lx) (hb : byteF y.tape) (hn : y.nmG) (hq : y.works = true → y.qI ∧ y.tableNames y.pile ≤ 6) (h : y.cl2 wh = (true, v)) : y.clR v y.works := by
  cases c : (y.ndF 40).1 with
  | false => rw [c2_0 c] at h; cases h
  | true =>
    obtain ⟨z, ez⟩ : ∃ z, z = (y.ndF 40).2 := ⟨_, rfl⟩
    have Tz : y.tk z := by rw [ez]; exact tk_nd _ _
    have az : y.aft z := by rw [ez]; exact nd_aft hl c
    cases c2 : (z.ndF 123).1 with
    | false => rw [c2_1 c ez c2] at h; cases h
    | true =>
      obtain ⟨u, eu⟩ : ∃ u, u = (z.ndF 123).2 := ⟨_, rfl⟩
      have Tu : y.tk u := tk_tr Tz (by rw [eu]; exact tk_nd _ _)
      have au : y.aft u := aft_tr az (by rw [eu]; exact nd_aft az.1 c2)
      have key : ∀ m : MS, y.tk m → y.too ≤ m.too → m.lx → m.cl4 wh z.too = (true, v) → y.clR v y.works := by
        intro m Tm hm lm h4
        have w1 : m.works = y.works := tk_f Tm MS.works rfl
        have r := c4_in lm (nmG_tk Tm hn) (fun w => by
          obtain ⟨a, b⟩ := hq (by rw [← w1]; exact w)
          exact ⟨qI_tk Tm a, by rw [tk_f Tm MS.pile rfl, tk_tn Tm]; exact b⟩) h4
        rw [w1] at r
        exact clR_tk Tm hm r
      have hu : y.too ≤ u.too := by have := au.1.2.1; have := au.2.2.1; omega
      by_cases k : u.kind = 125
      · rw [c2_e c ez c2 eu k] at h
        exact key u Tu hu au.1 h
      · rw [c2_m c ez c2 eu k] at h
        cases c3 : (MS.mlF (u.length + 1) u).1 with
        | false =>
          rw [show MS.mlF (u.length + 1) u = (false, (MS.mlF (u.length + 1) u).2) from Prod.ext c3 rfl, c3_f] at h
          cases h
        | true =>
          have bu : byteF u.tape := by rw [tk_f Tu MS.tape rfl]; exact hb
          obtain ⟨m, em⟩ : ∃ m, m = (MS.mlF (u.length + 1) u).2 := ⟨_, rfl⟩
          have hm : MS.mlF (u.length + 1) u = (true, m) := Prod.ext c3 em.symm
          obtain ⟨m1, m2, m3⟩ := ml_in bu au.1 au.2.1 hm
          rw [hm, c3_t] at h
          exact key m (tk_tr Tu (by rw [em]; exact ml_tk)) (by omega) m1 h
theorem cl_in {x v : MS} {wh : Nat} (hl : x.lx) (hb : byteF x.tape) (hn : x.nmG) (hq : x.works = true → x.qI) (h : x.clF wh = (true, v)) : x.clR v x.works := by
  have l0 : x.cl0.lx := hl
  have k0 : x.ck x.cl0 := rfl
  have t0 : x.cl0.tableNames x.pile = 0 := va_us _ _ _
  have q0 : x.works = true → x.cl0.qI := fun w => by
    obtain ⟨b1, b2, b3, b4, b5, b6, b7, b8⟩ := hq w
    refine ⟨b1, b2, b3, b4, b5, b6, b7, fun t ht => ?_⟩
    have ht : t < x.pile := ht
    show x.tableRows t ≤ 256 ∧ va_up x.tableNames x.pile 0 t ≤ 6 ∧ ∀ q : Nat, q < x.tableRows t → va_up x.tableNames x.pile 0 t = 0 ∨ x.tOK (x.rowSeries (256 * t + q))
    rw [show va_up x.tableNames x.pile 0 t = x.tableNames t from if_neg (by omega)]
    exact b8 t ht
  cases c : x.cl0.nx.1 with
  | false => rw [cl_0 c] at h; cases h
  | true =>
    obtain ⟨y, ey⟩ : ∃ y, y = x.cl0.nx.2 := ⟨_, rfl⟩
    have Ty : x.cl0.tk y := by rw [ey]; exact tk_nx _
    have ay : x.aft y := by rw [ey]; exact nx_aft (x := x.cl0) l0 c
    have wy : y.works = x.works := tk_f Ty MS.works rfl
    have py : y.pile = x.pile := tk_f Ty MS.pile rfl
    have ny : y.nmG := nmG_tk Ty hn
    have by_ : byteF y.tape := by rw [tk_f Ty MS.tape rfl]; exact hb
    have ty : y.tableNames y.pile = 0 := by rw [py, tk_tn Ty]; exact t0
    have qy : x.works = true → y.qI := fun w => qI_tk Ty (q0 w)
    have fin : ∀ m : MS, y.ck m → m.works = y.works → m.pile = y.pile → y.too ≤ m.too → m.clR v m.works → x.clR v x.works := by
      intro m km wm pm hm r
      rw [wm, wy] at r
      refine ⟨aft_le ?_ r.1, ck_tr k0 (ck_tr (ck_tk Ty) (ck_tr km r.2.1)), r.2.2.1, fun w => ?_, fun w => by rw [r.2.2.2.2 w, pm, py]⟩
      · have := ay.1.2.1
        have := ay.2.2.1
        omega
      · obtain ⟨a, b⟩ := r.2.2.2.1 w
        exact ⟨a, by rw [b, pm, py]⟩
    cases c2 : y.nmB 98 121 32 32 2 with
    | false =>
      rw [cl_n c ey c2] at h
      exact fin y (ck_rf y) rfl rfl (Nat.le_refl _) (c2_in ay.1 by_ ny (fun w => ⟨qy (by rw [← wy]; exact w), by rw [ty]; decide⟩) h)
    | true =>
      cases c3 : y.byF.1 with
      | false => rw [cl_b c ey c2 c3] at h; cases h
      | true =>
        obtain ⟨z, ez⟩ : ∃ z, z = y.byF.2 := ⟨_, rfl⟩
        rw [cl_y c ey c2 c3 ez] at h
        have hz : y.byF = (true, z) := Prod.ext c3 ez.symm
        obtain ⟨r1, r2, r3, r4, r5, r6⟩ := by_in ay.1 ty hz
        have az := by_aft ay.1 hz
        have wz : z.works = y.works := nk_f r5 MS.works rfl
        have pz : z.pile = y.pile := nk_f r5 MS.pile rfl
        refine fin z (ck_nk r5) wz pz (by have := az.1.2.1; have := az.2.2.1; omega) (c2_in r1 (by rw [nk_f r5 MS.tape rfl]; exact by_) (by rw [ez]; exact by_G ny ay.1) (fun w => ?_) h)
        have hw : x.works = true := by rw [← wy, ← wz]; exact w
        obtain ⟨b1, b2, b3, b4, b5, b6, b7, b8⟩ := qy hw
        have e1 : z.tableRows = y.tableRows := nk_f r5 MS.tableRows rfl
        have e2 : z.rowSeries = y.rowSeries := nk_f r5 MS.rowSeries rfl
        have key : (y.nkS z).seriesCount ≤ 256 ∧ (∀ q : Nat, q < (y.nkS z).seriesCount → (y.nkS z).tOK q) ∧ (y.nkS z).points ≤ 12000 ∧ (∀ q : Nat, q < (y.nkS z).points → (y.nkS z).pointSeries q < 256) ∧ (y.nkS z).windows ≤ 64 ∧ 1 ≤ (y.nkS z).width ∧ (∀ q : Nat, (y.nkS z).keySeries q < 256) ∧ (∀ s : Nat, y.tOK s → (y.nkS z).tOK s) := ⟨b1, b2, b3, b4, b5, b6, b7, fun _ h => h⟩
        rw [← show z = y.nkS z from r5] at key
        obtain ⟨d1, d2, d3, d4, d5, d6, d7, d8⟩ := key
        refine ⟨⟨d1, d2, d3, d4, d5, d6, d7, fun t ht => ?_⟩, by rw [pz]; exact r4⟩
        have ht : t < y.pile := by rw [← pz]; exact ht
        obtain ⟨h1, h2, h3⟩ := b8 t ht
        unfold MS.tI
        rw [e1, e2, r6.1 t (by omega)]
        exact ⟨h1, h2, fun q hq => (h3 q hq).imp id (d8 _)⟩
/-- behind a sign that opens -/
def MS.psS' (x : MS) (sg : Nat) : MS := x.psS sg
/-- an operand's end: the signs that bind it are done -/
def MS.od3 (m : Bool × MS) : Bool × MS := if m.1 = true then m.2.dt 3 else (false, m.2)
def MS.nm1 (y : MS) : Bool × MS := if y.works = true then y.nbS.nx else y.nx
def MS.odF (x : MS) : Bool × MS := if x.kind = 45 then x.osF 109 else if x.kind = 40 then x.osF 40 else if (MS.s_wants x false).fnI < 0 then (if x.kind = 1 then MS.od3 (MS.s_wants x false).nm1 else (false, (MS.s_wants x false).flS 2 x.frm)) else MS.od3 ((MS.s_wants x false).clF (i2n (MS.s_wants x false).fnI))
/-- what reading a question keeps; e is 1 behind an operand -/
def MS.oI (x : MS) (e : Nat) : Prop := x.lx ∧ x.isT ∧ (x.kind = 0 ∨ x.frm < x.too) ∧ x.sI e ∧ (x.works = true → x.qI) ∧ x.nmG ∧ byteF x.tape ∧ (x.works = false → x.pile = 0)
theorem sI_of {x y : MS} {e e' : Nat} (h : x.sI e) (h1 : y.opn = x.opn) (h2 : y.signCount = x.signCount) (h3 : y.signs = x.signs) (h4 : y.works = true → y.pile + y.opn = y.signCount + e') : y.sI e' := by
  obtain ⟨a, b, c, d, -⟩ := h
  have h5 : y.isO = x.isO := by
    funext k
    show isOpS (y.signs k) = isOpS (x.signs k)
    rw [h3]
  refine ⟨by rw [h1]; exact a, by rw [h2, h5, h1]; exact b, ?_, ?_, h4⟩
  · rw [h2, h3]
    exact c
  · rw [h2, h3]
    exact d
/-- x with all that reading a question changes, of y -/
def MS.qkS (x y : MS) : MS := MS.s_wants (MS.s_opn (MS.s_signCount (MS.s_signPlaces (MS.s_signs (x.ckS y) y.signs) y.signPlaces) y.signCount) y.opn) y.wants
def MS.qk (x y : MS) : Prop := y = x.qkS y
theorem qk_tr {x y z : MS} (h1 : x.qk y) (h2 : y.qk z) : x.qk z := h2.trans ((congrArg (fun w => MS.qkS w z) h1).trans rfl)
theorem qk_f {x y : MS} {α : Type} (h : x.qk y) (f : MS → α) (hf : f (x.qkS y) = f x) : f y = f x := (congrArg f h).trans hf
theorem qk_ck {x y : MS} (h : x.ck y) : x.qk y := by
  have h1 : x.qk (x.ckS y) := rfl
  rw [← show y = x.ckS y from h] at h1
  exact h1
theorem qk_dk {x y : MS} (h : x.dk y) : x.qk y := by
  have h1 : x.qk (x.dkS y) := rfl
  rw [← show y = x.dkS y from h] at h1
  exact h1
/-- the token does not change when signs are done -/
def MS.sk' (x y : MS) : Prop := y.kind = x.kind ∧ y.frm = x.frm ∧ y.too = x.too
theorem sk_opS (x : MS) (sg : Int32) (q : Nat) : x.sk' (x.opS sg q) := by
  unfold MS.opS
  split
  · show x.sk' (x.opM sg)
    unfold MS.opM
    repeat' split
    all_goals exact ⟨rfl, rfl, rfl⟩
  · exact ⟨rfl, rfl, rfl⟩
theorem sk_dn (x : MS) : x.sk' x.dnF.2 := by
  unfold MS.dnF
  split
  · split
    · exact ⟨rfl, rfl, rfl⟩
    · exact sk_opS x.pop _ _
  · exact ⟨rfl, rfl, rfl⟩
theorem sk_dt {rk : Nat} : ∀ {w : Nat} {x : MS}, x.sk' (MS.dtF rk w x).2
  | 0, x => ⟨rfl, rfl, rfl⟩
  | w + 1, x => by
    unfold MS.dtF
    split
    · exact ⟨rfl, rfl, rfl⟩
    · split
      · exact ⟨rfl, rfl, rfl⟩
      · split
        · obtain ⟨a, b, c⟩ := sk_dn x
          obtain ⟨d, e, f⟩ := sk_dt (rk := rk) (w := w) (x := x.dnF.2)
          exact ⟨d.trans a, e.trans b, f.trans c⟩
        · exact sk_dn x
theorem isT_of {x y : MS} (h : x.isT) (h1 : x.sk' y) (h2 : x.sT y) : y.isT := by
  unfold MS.isT MS.atN MS.idE MS.tx MS.tw MS.atN at h ⊢
  rw [h1.1, h1.2.1, h1.2.2, h2.1, h2.2]
  exact h
/-- signs done: the question still stands well -/
theorem dt_oI {x v : MS} {rk : Nat} (hr : 1 ≤ rk) (h : x.oI 1) (hd : x.dt rk = (true, v)) : v.oI 1 ∧ x.dk v ∧ x.sk' v ∧ (v.signCount = 0 ∨ rkM v.top < rk) := by
  obtain ⟨h1, h2, h3, h4, h5, h6, h7, h8⟩ := h
  obtain ⟨a, b, c⟩ := dt_in hr (show x.dI from ⟨h4, h5, h6, h1.2.2.2⟩) rfl hd
  have s := sk_dt (rk := rk) (w := x.signCount) (x := x)
  have hd' : MS.dtF rk x.signCount x = (true, v) := hd
  rw [hd'] at s
  have s : x.sk' v := s
  have e1 : v.tape = x.tape := dk_f b MS.tape rfl
  have e2 : v.length = x.length := dk_f b MS.length rfl
  refine ⟨⟨?_, isT_of h2 s ⟨e1, e2⟩, by rw [s.1, s.2.1, s.2.2]; exact h3, a.1, a.2.1, a.2.2.1, by rw [e1]; exact h7, fun w => ?_⟩, b, s, c⟩
  · unfold MS.lx
    rw [e2, s.2.1, s.2.2]
    exact ⟨h1.1, h1.2.1, h1.2.2.1, a.2.2.2⟩
  · have w1 : x.works = false := (dk_f b MS.works rfl).symm.trans w
    have := pl_dt (rk := rk) (w := x.signCount) w1
    rw [hd'] at this
    exact this.trans (h8 w1)
theorem cnt_ext {f g : Nat → Bool} : ∀ {n : Nat}, (∀ k, k < n → f k = g k) → cnt n f = cnt n g
  | 0, _ => rfl
  | n + 1, h => by
    show cnt n f + (if f n then 1 else 0) = cnt n g + (if g n then 1 else 0)
    rw [cnt_ext (fun k hk => h k (by omega)), h n (Nat.lt_succ_self n)]
/-- a sign put on the others -/
theorem push_sI {x y : MS} {e e' sg : Nat} (h : x.sI e) (h2 : y.signCount = x.signCount + 1) (h3 : y.signs = va_up x.signs x.signCount sg) (h1 : (isOpS sg = true ∧ y.opn = x.opn + 1 ∧ x.opn < 8) ∨ (binS sg = true ∧ y.opn = x.opn ∧ (x.signCount = 0 ∨ binS x.top = false ∨ rkM x.top < rkM sg))) (h4 : y.works = true → y.pile + y.opn = y.signCount + e') : y.sI e' := by
  obtain ⟨a, b, c, d, -⟩ := h
  have lo : ∀ k, k < x.signCount → y.signs k = x.signs k := fun k hk => by
    rw [h3]
    exact if_neg (by omega)
  have hi : y.signs x.signCount = sg := by
    rw [h3]
    exact va_us _ _ _
  have cc : cnt y.signCount y.isO = x.opn + (if isOpS sg then 1 else 0) := by
    rw [h2]
    show cnt x.signCount y.isO + (if isOpS (y.signs x.signCount) then 1 else 0) = _
    rw [hi, ← b]
    congr 1
    exact cnt_ext (fun k hk => by show isOpS (y.signs k) = isOpS (x.signs k); rw [lo k hk])
  refine ⟨?_, ?_, fun k hk => ?_, fun k hk => ?_, h4⟩
  · rcases h1 with ⟨_, q, r⟩ | ⟨_, q, _⟩ <;> omega
  · rw [cc]
    rcases h1 with ⟨p, q, _⟩ | ⟨p, q, _⟩
    · rw [p, q]
      rfl
    · rw [(bin_c p).2.1, q]
      rfl
  · rw [h2] at hk
    by_cases g : k = x.signCount
    · rw [g, hi]
      rcases h1 with ⟨p, _⟩ | ⟨p, _⟩
      · exact Or.inl p
      · exact Or.inr p
    · rw [lo k (by omega)]
      exact c k (by omega)
  · rw [h2] at hk
    by_cases g : k + 1 = x.signCount
    · rw [lo k (by omega), g, hi]
      intro p1 p2
      rcases h1 with ⟨p, _⟩ | ⟨_, _, p⟩
      · exact absurd ((bin_c p2).2.1) (by rw [p]; decide)
      · have e1 : x.top = x.signs k := by
          unfold MS.top
          rw [show x.signCount - 1 = k by omega]
        rw [e1] at p
        rcases p with p | p | p
        · omega
        · rw [p] at p1
          cases p1
        · exact p
    · rw [lo k (by omega), lo (k + 1) (by omega)]
      exact d k (by omega)
theorem os_in {x v : MS} {sg : Nat} (h : x.oI 0) (hs : isOpS sg = true) (ho : x.osF sg = (true, v)) : v.oI 0 ∧ x.aft v ∧ x.qk v ∧ v.wants = x.wants := by
  obtain ⟨h1, h2, h3, h4, h5, h6, h7, h8⟩ := h
  by_cases c : x.opn = 8
  · rw [show x.osF sg = _ from if_pos c] at ho
    cases ho
  · have e : x.osF sg = (x.psS sg).nx := if_neg c
    rw [e] at ho
    have g : (x.psS sg).nx.1 = true := by rw [ho]
    have ev : v = (x.psS sg).nx.2 := by rw [ho]
    have T := tk_nx (x.psS sg)
    have A := nx_aft (x := x.psS sg) h1 g
    rw [← ev] at T A
    have p1 : v.pile = x.pile := tk_f T MS.pile rfl
    have p2 : v.opn = x.opn + 1 := tk_f T MS.opn rfl
    have p3 : v.signCount = x.signCount + 1 := tk_f T MS.signCount rfl
    have p4 : v.works = x.works := tk_f T MS.works rfl
    have o8 := h4.1
    refine ⟨⟨A.1, A.2.1, A.2.2.2, push_sI (sg := sg) h4 p3 (tk_f T MS.signs rfl) (Or.inl ⟨hs, p2, by omega⟩) (fun w => ?_), fun w => qI_tk T (h5 (by rw [← p4]; exact w)), nmG_tk T h6, by rw [tk_f T MS.tape rfl]; exact h7, fun w => by rw [p1]; exact h8 (by rw [← p4]; exact w)⟩, A, qk_tr (y := x.psS sg) rfl (qk_ck (ck_tk T)), tk_f T MS.wants rfl⟩
    have := h4.2.2.2.2 (by rw [← p4]; exact w)
    omega
theorem oI_dI {x : MS} (h : x.oI 1) : x.dI := ⟨h.2.2.2.1, h.2.2.2.2.1, h.2.2.2.2.2.1, h.1.2.2.2⟩
theorem od3_in {x m v : MS} (h : m.oI 1) (ha : x.aft m) (hq : x.qk m) (hd : m.dt 3 = (true, v)) : v.oI 1 ∧ x.aft v ∧ x.qk v ∧ v.wants = m.wants := by
  obtain ⟨a, b, c, -⟩ := dt_oI (by decide) h hd
  refine ⟨a, ⟨a.1, a.2.1, by rw [c.2.1]; exact ha.2.2.1, a.2.2.1⟩, qk_tr hq (qk_dk b), dk_f b MS.wants rfl⟩
theorem cl_oI {y m : MS} {wh : Nat} (h : y.oI 0) (hm : y.clF wh = (true, m)) : m.oI 1 ∧ y.aft m ∧ y.qk m ∧ m.wants = y.wants := by
  obtain ⟨h1, h2, h3, h4, h5, h6, h7, h8⟩ := h
  obtain ⟨r1, r2, r3, r4⟩ := cl_in h1 h7 h6 h5 hm
  have p2 : m.opn = y.opn := ck_f r2 MS.opn rfl
  have p3 : m.signCount = y.signCount := ck_f r2 MS.signCount rfl
  have p4 : m.works = y.works := ck_f r2 MS.works rfl
  refine ⟨⟨r1.1, r1.2.1, r1.2.2.2, sI_of h4 p2 p3 (ck_f r2 MS.signs rfl) (fun w => ?_), fun w => (r4.1 (by rw [← p4]; exact w)).1, r3, by rw [ck_f r2 MS.tape rfl]; exact h7, fun w => by rw [r4.2 (by rw [← p4]; exact w)]; exact h8 (by rw [← p4]; exact w)⟩, r1, qk_ck r2, ck_f r2 MS.wants rfl⟩
  have a := h4.2.2.2.2 (by rw [← p4]; exact w)
  have b := (r4.1 (by rw [← p4]; exact w)).2
  omega
theorem nm_oI {y m : MS} (h : y.oI 0) (hm : y.nm1 = (true, m)) : m.oI 1 ∧ y.aft m ∧ y.qk m ∧ m.wants = y.wants := by
  obtain ⟨h1, h2, h3, h4, h5, h6, h7, h8⟩ := h
  by_cases w : y.works = true
  · have e : y.nm1 = y.nbS.nx := if_pos w
    rw [e] at hm
    have g : y.nbS.nx.1 = true := by rw [hm]
    have ev : m = y.nbS.nx.2 := by rw [hm]
    have T := tk_nx y.nbS
    have A := nx_aft (x := y.nbS) h1 g
    rw [← ev] at T A
    obtain ⟨n1, n2⟩ := nb_in (h5 w)
    refine ⟨⟨A.1, A.2.1, A.2.2.2, sI_of h4 (tk_f T MS.opn rfl) (tk_f T MS.signCount rfl) (tk_f T MS.signs rfl) (fun _ => ?_), fun _ => qI_tk T n1, nmG_tk T h6, by rw [tk_f T MS.tape rfl]; exact h7, fun z => by rw [show m.works = y.works from tk_f T MS.works rfl, w] at z; cases z⟩, A, qk_tr (y := y.nbS) (qk_ck (ck_nb y)) (qk_ck (ck_tk T)), tk_f T MS.wants rfl⟩
    have a := h4.2.2.2.2 w
    have b : m.pile = y.pile + 1 := tk_f T MS.pile rfl
    have c : m.opn = y.opn := tk_f T MS.opn rfl
    have d : m.signCount = y.signCount := tk_f T MS.signCount rfl
    omega
  · have e : y.nm1 = y.nx := if_neg w
    rw [e] at hm
    have g : y.nx.1 = true := by rw [hm]
    have ev : m = y.nx.2 := by rw [hm]
    have T := tk_nx y
    have A := nx_aft h1 g
    rw [← ev] at T A
    have p4 : m.works = y.works := tk_f T MS.works rfl
    exact ⟨⟨A.1, A.2.1, A.2.2.2, sI_of h4 (tk_f T MS.opn rfl) (tk_f T MS.signCount rfl) (tk_f T MS.signs rfl) (fun z => absurd (p4.symm.trans z) w), fun z => absurd (p4.symm.trans z) w, nmG_tk T h6, by rw [tk_f T MS.tape rfl]; exact h7, fun z => by rw [tk_f T MS.pile rfl]; exact h8 (p4.symm.trans z)⟩, A, qk_ck (ck_tk T), tk_f T MS.wants rfl⟩
theorem od_in {x v : MS} (h : x.oI 0) (hw : x.wants = true) (ho : x.odF = (true, v)) : x.aft v ∧ x.qk v ∧ ¬ x.kind = 0 ∧ ((v.wants = true ∧ v.oI 0) ∨ (v.wants = false ∧ v.oI 1)) := by
  unfold MS.odF at ho
  by_cases c1 : x.kind = 45
  · rw [if_pos c1] at ho
    obtain ⟨a, b, c, d⟩ := os_in h (by decide) ho
    exact ⟨b, c, by rw [c1]; decide, Or.inl ⟨d.trans hw, a⟩⟩
  · rw [if_neg c1] at ho
    by_cases c2 : x.kind = 40
    · rw [if_pos c2] at ho
      obtain ⟨a, b, c, d⟩ := os_in h (by decide) ho
      exact ⟨b, c, by rw [c2]; decide, Or.inl ⟨d.trans hw, a⟩⟩
    · rw [if_neg c2] at ho
      have hy : (MS.s_wants x false).oI 0 := h
      have kx : x.qk (MS.s_wants x false) := rfl
      have fin : ∀ m : MS, m.oI 1 ∧ (MS.s_wants x false).aft m ∧ (MS.s_wants x false).qk m ∧ m.wants = (MS.s_wants x false).wants → m.dt 3 = (true, v) → x.aft v ∧ x.qk v ∧ v.wants = false ∧ v.oI 1 := by
        intro m ⟨a, b, c, d⟩ hd
        obtain ⟨e1, e2, e3, e4⟩ := od3_in (x := MS.s_wants x false) a b c hd
        exact ⟨e2, qk_tr kx e3, e4.trans d, e1⟩
      by_cases c3 : (MS.s_wants x false).fnI < 0
      · rw [if_pos c3] at ho
        by_cases c4 : x.kind = 1
        · rw [if_pos c4] at ho
          unfold MS.od3 at ho
          cases c5 : (MS.s_wants x false).nm1.1 with
          | false => rw [c5] at ho; cases ho
          | true =>
            rw [if_pos c5] at ho
            obtain ⟨r1, r2, r3, r4⟩ := fin _ (nm_oI hy (Prod.ext c5 rfl)) ho
            exact ⟨r1, r2, by rw [c4]; decide, Or.inr ⟨r3, r4⟩⟩
        · rw [if_neg c4] at ho
          cases ho
      · rw [if_neg c3] at ho
        unfold MS.od3 at ho
        cases c5 : ((MS.s_wants x false).clF (i2n (MS.s_wants x false).fnI)).1 with
        | false => rw [c5] at ho; cases ho
        | true =>
          rw [if_pos c5] at ho
          obtain ⟨r1, r2, r3, r4⟩ := fin _ (cl_oI hy (Prod.ext c5 rfl)) ho
          refine ⟨r1, r2, fun z => c3 ?_, Or.inr ⟨r3, r4⟩⟩
          have n0 : (MS.s_wants x false).fnN = 0 := if_neg (fun z2 => by
            have z2 : x.kind = 2 := z2
            rw [z] at z2
            exact absurd z2 (by decide))
          unfold MS.fnI
          rw [n0, if_neg (by decide), if_neg (by decide), if_neg (by decide), if_neg (by decide)]
          decide
theorem oI_pl {x : MS} {e : Nat} (h : x.oI e) (he : e ≤ 1) : x.pile < 20 := by
  cases w : x.works with
  | true =>
    have := sI_pl h.2.2.2.1 w he
    omega
  | false =>
    have := h.2.2.2.2.2.2.2 w
    omega
theorem qI_rkc {x : MS} (hp : x.pile < 20) (h : x.qI) : x.rkc := ⟨hp, h.1, h.2.1, h.2.2.1, h.2.2.2.1, h.2.2.2.2.1, h.2.2.2.2.2.1, h.2.2.2.2.2.2.1⟩
def MS.psh (x : MS) : MS := MS.s_wants (MS.s_signCount (MS.s_signPlaces (MS.s_signs x (va_up x.signs x.signCount (i2n x.kind))) (va_up x.signPlaces x.signCount x.frm)) (x.signCount + 1)) true
def MS.pop4 (x : MS) : MS := MS.s_opn (MS.s_signCount x (x.signCount - 1)) (x.opn - 1)
/-- a sign between operands, or a parenthesis closed -/
def MS.opr1 (x : MS) (rk : Nat) : Bool × MS := if (x.dt rk).1 = true then (x.dt rk).2.psh.nx else (false, (x.dt rk).2)
def MS.opr2 (x : MS) : Bool × MS := if (x.dt 1).1 = true then MS.od3 (x.dt 1).2.pop4.nx else (false, (x.dt 1).2)
def MS.opr (x : MS) : Bool × MS := if rkN x.kind = 1 ∨ rkN x.kind = 2 then x.opr1 (rkN x.kind) else if x.kind = 41 ∧ x.opnB = true then x.opr2 else (false, x.flS 2 x.frm)
theorem rkN_c {z : Int32} (h : rkN z = 1 ∨ rkN z = 2) : binS (i2n z) = true ∧ 0 ≤ z ∧ rkM (i2n z) = rkN z ∧ ¬ z = 0 := by
  have key : z = 43 ∨ z = 45 ∨ z = 42 ∨ z = 47 ∨ z = 37 := by
    unfold rkN at h
    by_cases h1 : z = 43 ∨ z = 45
    · rcases h1 with h1 | h1
      · exact Or.inl h1
      · exact Or.inr (Or.inl h1)
    · rw [if_neg h1] at h
      by_cases h2 : z = 42 ∨ z = 47 ∨ z = 37
      · exact Or.inr (Or.inr h2)
      · rw [if_neg h2] at h
        split at h <;> omega
  rcases key with h | h | h | h | h <;> subst h <;> decide
theorem top_0 {x : MS} (h : x.sI 1) (h0 : 0 < x.signCount) (hr : rkM x.top < 1) : x.top = 40 := by
  rcases h.2.2.1 (x.signCount - 1) (by omega) with a | a
  · rcases opn_c a with b | b
    · have b : x.top = 109 := b
      rw [b] at hr
      exact absurd hr (by decide)
    · exact b
  · have := (bin_c a).1
    have hr : rkM (x.signs (x.signCount - 1)) < 1 := hr
    omega
theorem anyB_t {f : Nat → Bool} : ∀ {n k : Nat}, k < n → f k = true → anyB n f = true
  | 0, k, h, _ => absurd h (Nat.not_lt_zero k)
  | n + 1, k, h, hf => by
    rw [anyB_s]
    by_cases e : k = n
    · subst e
      rw [hf, Bool.or_true]
    · rw [anyB_t (by omega) hf]
      rfl
theorem anyB_x {f : Nat → Bool} : ∀ {n : Nat}, anyB n f = true → ∃ k, k < n ∧ f k = true
  | 0, h => by cases h
  | n + 1, h => by
    rw [anyB_s, Bool.or_eq_true] at h
    rcases h with h | h
    · obtain ⟨k, a, b⟩ := anyB_x h
      exact ⟨k, Nat.lt_succ_of_lt a, b⟩
    · exact ⟨n, Nat.lt_succ_self n, h⟩
/-- a parenthesis stays when signs are done -/
theorem dt_opn {rk : Nat} (hr : 1 ≤ rk) : ∀ {w : Nat} {x v : MS}, x.dI → w = x.signCount → x.opnB = true → MS.dtF rk w x = (true, v) → v.opnB = true
  | 0, x, v, h, hw, ho, hd => by
    have ev : v = x := (congrArg Prod.snd hd).symm
    rw [ev]
    exact ho
  | w + 1, x, v, h, hw, ho, hd => by
    by_cases h0 : x.signCount = 0
    · omega
    · by_cases h1 : rkM x.top < rk
      · rw [dt_e (Or.inr h1)] at hd
        have ev : v = x := (congrArg Prod.snd hd).symm
        rw [ev]
        exact ho
      · cases h2 : x.dnF.1 with
        | false =>
          rw [dt_f (Nat.succ_pos w) h0 h1 h2] at hd
          cases hd
        | true =>
          obtain ⟨y, ey⟩ : ∃ y, y = x.dnF.2 := ⟨_, rfl⟩
          rw [dt_t (Nat.succ_pos w) h0 h1 h2 ey] at hd
          have h4 := rk_40 h1 hr
          obtain ⟨i1, i2⟩ := dn_in (v := y) h (by omega) h4 (Prod.ext h2 ey.symm)
          have D : x.dk y := by rw [ey]; exact dk_dn x
          refine dt_opn hr (w := w) i1 (by omega) ?_ hd
          obtain ⟨k, k1, k2⟩ := anyB_x ho
          have k2 : x.signs k = 40 := of_decide_eq_true k2
          have k3 : ¬ k = x.signCount - 1 := fun z => h4 (by rw [z] at k2; exact k2)
          refine anyB_t (k := k) (by omega) ?_
          show decide (y.signs k = 40) = true
          rw [dk_f D MS.signs rfl]
          exact decide_eq_true k2
theorem pop4_sI {x : MS} (h : x.sI 1) (h0 : 0 < x.signCount) (h4 : x.top = 40) : x.pop4.sI 1 ∧ 1 ≤ x.opn := by
  obtain ⟨h1, h2, h3, h5, h6⟩ := h
  have c1 := cnt_pred (f := x.isO) h0
  have e1 : x.isO (x.signCount - 1) = true := by
    show isOpS x.top = true
    rw [h4]
    rfl
  rw [e1, h2] at c1
  simp only [if_true] at c1
  refine ⟨⟨?_, ?_, fun k hk => h3 k ?_, fun k hk => h5 k ?_, fun w => ?_⟩, by omega⟩
  · show x.opn - 1 ≤ 8
    omega
  · show cnt (x.signCount - 1) x.isO = x.opn - 1
    omega
  · have hk : k < x.signCount - 1 := hk
    omega
  · have hk : k + 1 < x.signCount - 1 := hk
    omega
  · show x.pile + (x.opn - 1) = x.signCount - 1 + 1
    have := h6 w
    omega
theorem opr_in {x v : MS} (h : x.oI 1) (hw : x.wants = false) (ho : x.opr = (true, v)) : x.aft v ∧ x.qk v ∧ ¬ x.kind = 0 ∧ ((v.wants = true ∧ v.oI 0) ∨ (v.wants = false ∧ v.oI 1)) := by
  unfold MS.opr at ho
  by_cases c1 : rkN x.kind = 1 ∨ rkN x.kind = 2
  · rw [if_pos c1] at ho
    have hc := rkN_c c1
    unfold MS.opr1 at ho
    cases c2 : (x.dt (rkN x.kind)).1 with
    | false => rw [c2] at ho; cases ho
    | true =>
      rw [if_pos c2] at ho
      obtain ⟨y, ey⟩ : ∃ y, y = (x.dt (rkN x.kind)).2 := ⟨_, rfl⟩
      rw [← ey] at ho
      obtain ⟨d1, d2, d3, d4⟩ := dt_oI (v := y) (by omega) h (Prod.ext c2 ey.symm)
      have g : y.psh.nx.1 = true := by rw [ho]
      have ev : v = y.psh.nx.2 := by rw [ho]
      have T := tk_nx y.psh
      have A := nx_aft (x := y.psh) d1.1 g
      rw [← ev] at T A
      obtain ⟨e1, e2, e3, e4, e5, e6, e7, e8⟩ := d1
      have p2 : v.opn = y.opn := tk_f T MS.opn rfl
      have p3 : v.signCount = y.signCount + 1 := tk_f T MS.signCount rfl
      have p4 : v.works = y.works := tk_f T MS.works rfl
      have p1 : v.pile = y.pile := tk_f T MS.pile rfl
      refine ⟨⟨A.1, A.2.1, by rw [← d3.2.2]; exact A.2.2.1, A.2.2.2⟩, qk_tr (qk_dk d2) (qk_tr (y := y.psh) rfl (qk_ck (ck_tk T))), hc.2.2.2, Or.inl ⟨tk_f T MS.wants rfl, ⟨A.1, A.2.1, A.2.2.2, push_sI (sg := i2n y.kind) e4 p3 (tk_f T MS.signs rfl) (Or.inr ⟨by rw [d3.1]; exact hc.1, p2, ?_⟩) (fun w => ?_), fun w => qI_tk T (e5 (by rw [← p4]; exact w)), nmG_tk T e6, by rw [tk_f T MS.tape rfl]; exact e7, fun w => by rw [p1]; exact e8 (by rw [← p4]; exact w)⟩⟩⟩
      · rcases d4 with d4 | d4
        · exact Or.inl d4
        · refine Or.inr (Or.inr ?_)
          rw [d3.1, hc.2.2.1]
          exact d4
      · have := e4.2.2.2.2 (by rw [← p4]; exact w)
        omega
  · rw [if_neg c1] at ho
    by_cases c2 : x.kind = 41 ∧ x.opnB = true
    · rw [if_pos c2] at ho
      unfold MS.opr2 at ho
      cases c3 : (x.dt 1).1 with
      | false => rw [c3] at ho; cases ho
      | true =>
        rw [if_pos c3] at ho
        obtain ⟨y, ey⟩ : ∃ y, y = (x.dt 1).2 := ⟨_, rfl⟩
        rw [← ey] at ho
        have hd : x.dt 1 = (true, y) := Prod.ext c3 ey.symm
        obtain ⟨d1, d2, d3, d4⟩ := dt_oI (v := y) (by omega) h hd
        have oy := dt_opn (by decide) (oI_dI h) rfl c2.2 hd
        obtain ⟨k, k1, -⟩ := anyB_x oy
        have t4 := top_0 d1.2.2.2.1 (by omega) (d4.resolve_left (by omega))
        obtain ⟨s1, s2⟩ := pop4_sI d1.2.2.2.1 (by omega) t4
        unfold MS.od3 at ho
        cases c4 : y.pop4.nx.1 with
        | false => rw [c4] at ho; cases ho
        | true =>
          rw [if_pos c4] at ho
          obtain ⟨u, eu⟩ : ∃ u, u = y.pop4.nx.2 := ⟨_, rfl⟩
          rw [← eu] at ho
          have T := tk_nx y.pop4
          have A := nx_aft (x := y.pop4) d1.1 c4
          rw [← eu] at T A
          obtain ⟨e1, e2, e3, e4, e5, e6, e7, e8⟩ := d1
          have p4 : u.works = y.works := tk_f T MS.works rfl
          have p1 : u.pile = y.pile := tk_f T MS.pile rfl
          have p2 : u.opn = y.pop4.opn := tk_f T MS.opn rfl
          have p3 : u.signCount = y.pop4.signCount := tk_f T MS.signCount rfl
          have ou : u.oI 1 := ⟨A.1, A.2.1, A.2.2.2, sI_of s1 p2 p3 (tk_f T MS.signs rfl) (fun w => by rw [p1, p2, p3]; exact s1.2.2.2.2 (by show y.works = true; rw [← p4]; exact w)), fun w => qI_tk T (e5 (by rw [← p4]; exact w)), nmG_tk T e6, by rw [tk_f T MS.tape rfl]; exact e7, fun w => by rw [p1]; exact e8 (by rw [← p4]; exact w)⟩
          have ax : x.aft u := ⟨A.1, A.2.1, by rw [← d3.2.2]; exact A.2.2.1, A.2.2.2⟩
          have qu : x.qk u := qk_tr (qk_dk d2) (qk_tr (y := y.pop4) rfl (qk_ck (ck_tk T)))
          obtain ⟨r1, r2, r3, r4⟩ := od3_in ou ax qu ho
          refine ⟨r2, r3, by rw [c2.1]; decide, Or.inr ⟨?_, r1⟩⟩
          rw [r4, tk_f T MS.wants rfl]
          show y.wants = false
          rw [dk_f d2 MS.wants rfl]
          exact hw
    · rw [if_neg c2] at ho
      cases ho
/-- what the loop over tokens keeps -/
def MS.lI (x : MS) : Prop := (x.wants = true ∧ x.oI 0) ∨ (x.wants = false ∧ x.oI 1)
def MS.q1 (x : MS) : Bool × MS := if x.wants = true then x.odF else x.opr
theorem q1_in {x v : MS} (h : x.lI) (hq : x.q1 = (true, v)) : v.lI ∧ x.qk v ∧ x.frm < v.frm ∧ v.frm ≤ v.length := by
  unfold MS.q1 at hq
  have key : x.aft v ∧ x.qk v ∧ ¬ x.kind = 0 ∧ ((v.wants = true ∧ v.oI 0) ∨ (v.wants = false ∧ v.oI 1)) := by
    rcases h with ⟨a, b⟩ | ⟨a, b⟩
    · rw [if_pos a] at hq
      exact od_in b a hq
    · rw [if_neg (by rw [a]; decide)] at hq
      exact opr_in b a hq
  obtain ⟨k1, k2, k3, k4⟩ := key
  refine ⟨k4, k2, ?_, ?_⟩
  · have ht : x.kind = 0 ∨ x.frm < x.too := by
      rcases h with ⟨_, b⟩ | ⟨_, b⟩
      · exact b.2.2.1
      · exact b.2.2.1
    have := ht.resolve_left k3
    have := k1.2.2.1
    omega
  · have := k1.1.2.1
    have := k1.1.2.2.1
    omega
/-- the tokens of a question -/
def MS.qL : Nat → MS → Bool × MS
  | 0, x => (false, x)
  | w + 1, x => if x.kind = 0 ∧ x.wants = false then (true, x) else if x.q1.1 = true then MS.qL w x.q1.2 else (false, x.q1.2)
section QL
variable {w : Nat} {x y : MS}
theorem qL_e (hw : 0 < w) (h : x.kind = 0) (h2 : x.wants = false) : MS.qL w x = (true, x) := by
  obtain ⟨d, rfl⟩ : ∃ d, w = d + 1 := ⟨w - 1, by omega⟩
  exact if_pos ⟨h, h2⟩
theorem qL_s (hw : 0 < w) (h : ¬ x.kind = 0 ∨ x.wants = true) (e : y = x.q1.2) : MS.qL w x = (if x.q1.1 = true then MS.qL (w - 1) y else (false, y)) := by
  obtain ⟨d, rfl⟩ : ∃ d, w = d + 1 := ⟨w - 1, by omega⟩
  subst e
  exact if_neg (fun z => h.elim (fun h => h z.1) (fun h => by rw [z.2] at h; cases h))
end QL
theorem qL_in : ∀ {w : Nat} {x v : MS}, x.lI → MS.qL w x = (true, v) → v.oI 1 ∧ x.qk v ∧ v.kind = 0
  | 0, x, v, _, h => by cases h
  | w + 1, x, v, hx, h => by
    by_cases c : x.kind = 0 ∧ x.wants = false
    · rw [qL_e (Nat.succ_pos w) c.1 c.2] at h
      have ev : v = x := (congrArg Prod.snd h).symm
      rw [ev]
      rcases hx with ⟨a, _⟩ | ⟨_, b⟩
      · rw [c.2] at a; cases a
      · exact ⟨b, rfl, c.1⟩
    · have h' : ¬ x.kind = 0 ∨ x.wants = true := by
        by_cases k : x.kind = 0
        · refine Or.inr ?_
          cases w2 : x.wants with
          | true => rfl
          | false => exact absurd ⟨k, w2⟩ c
        · exact Or.inl k
      rw [qL_s (Nat.succ_pos w) h' rfl] at h
      cases g : x.q1.1 with
      | false => rw [g] at h; cases h
      | true =>
        rw [if_pos g] at h
        obtain ⟨a, b, -, -⟩ := q1_in hx (Prod.ext g rfl)
        obtain ⟨r1, r2, r3⟩ := qL_in a h
        exact ⟨r1, qk_tr b r2, r3⟩
def MS.qu0 (x : MS) (how : Bool) : MS := MS.s_wants (MS.s_opn (MS.s_signCount (MS.s_works (MS.s_pile (MS.s_too x 0) 0) how) 0) 0) true
def MS.qu3 (y : MS) : Bool × MS := if y.opnB = true then (false, y.flS 2 y.frm) else y.dt 1
/-- a question read (and worked) -/
def MS.quF (x : MS) (how : Bool) : Bool × MS := if (x.qu0 how).nx.1 = true then (if (MS.qL (x.length + 1) (x.qu0 how).nx.2).1 = true then (MS.qL (x.length + 1) (x.qu0 how).nx.2).2.qu3 else (false, (MS.qL (x.length + 1) (x.qu0 how).nx.2).2)) else (false, (x.qu0 how).nx.2)
theorem pop4_nx {y : MS} (h : y.oI 1) (hs : y.pop4.sI 1) (g : y.pop4.nx.1 = true) : y.pop4.nx.2.dI := by
  have T := tk_nx y.pop4
  have A := nx_aft (x := y.pop4) h.1 g
  generalize y.pop4.nx.2 = u at T A
  have p4 : u.works = y.works := tk_f T MS.works rfl
  have p1 : u.pile = y.pile := tk_f T MS.pile rfl
  have p2 : u.opn = y.pop4.opn := tk_f T MS.opn rfl
  have p3 : u.signCount = y.pop4.signCount := tk_f T MS.signCount rfl
  exact ⟨sI_of hs p2 p3 (tk_f T MS.signs rfl) (fun w => by rw [p1, p2, p3]; exact hs.2.2.2.2 (by show y.works = true; rw [← p4]; exact w)), fun w => qI_tk T (h.2.2.2.2.1 (by rw [← p4]; exact w)), nmG_tk T h.2.2.2.2.2.1, A.1.2.2.2⟩
def MS.quR (w : Nat) (y : MS) : Bool × MS := if (MS.qL w y).1 = true then (MS.qL w y).2.qu3 else (false, (MS.qL w y).2)
theorem quR_s {w : Nat} {y v : MS} (hw : 0 < w) (h : ¬ y.kind = 0 ∨ y.wants = true) (e : v = y.q1.2) : MS.quR w y = (if y.q1.1 = true then MS.quR (w - 1) v else (false, v)) := by
  unfold MS.quR
  rw [qL_s hw h e]
  cases g : y.q1.1 with
  | true => rw [if_pos rfl, if_pos rfl]
  | false => simp only [Bool.false_eq_true, if_false]
theorem quR_e {w : Nat} {y : MS} (hw : 0 < w) (h : y.kind = 0) (h2 : y.wants = false) : MS.quR w y = y.qu3 := by
  unfold MS.quR
  rw [qL_e hw h h2]
  rfl
theorem quF_0 {x y : MS} {how : Bool} (e : y = (x.qu0 how).nx.2) : x.quF how = (if (x.qu0 how).nx.1 = true then MS.quR (x.length + 1) y else (false, y)) := by
  subst e
  rfl
/-- what a question wants -/
def MS.qW (x : MS) (how : Bool) : Prop := x.length ≤ 65536 ∧ x.faultCode = 0 ∧ byteF x.tape ∧ x.nmG ∧ (how = true → x.seriesCount ≤ 256 ∧ (∀ q : Nat, q < x.seriesCount → x.tOK q) ∧ x.points ≤ 12000 ∧ (∀ q : Nat, q < x.points → x.pointSeries q < 256) ∧ x.windows ≤ 64 ∧ 1 ≤ x.width ∧ ∀ q : Nat, x.keySeries q < 256)
theorem qu0_lI {x : MS} {how : Bool} (h : x.qW how) (g : (x.qu0 how).nx.1 = true) : (x.qu0 how).nx.2.lI ∧ (MS.s_works x how).qk (x.qu0 how).nx.2 := by
  obtain ⟨h1, h2, h3, h4, h5⟩ := h
  have T := tk_nx (x.qu0 how)
  obtain ⟨a1, a2, a3⟩ := nx_in0 (x := x.qu0 how) h1 (Nat.zero_le _) h2 g
  have a4 := (nx_isT g).1
  generalize (x.qu0 how).nx.2 = u at T a1 a2 a3 a4
  have p4 : u.works = how := tk_f T MS.works rfl
  have p1 : u.pile = 0 := tk_f T MS.pile rfl
  have p2 : u.opn = 0 := tk_f T MS.opn rfl
  have p3 : u.signCount = 0 := tk_f T MS.signCount rfl
  refine ⟨Or.inl ⟨tk_f T MS.wants rfl, a1, a4, a3, ⟨by omega, by rw [p3, p2]; rfl, fun k hk => by omega, fun k hk => by omega, fun _ => by omega⟩, fun w => qI_tk T ?_, nmG_tk T h4, by rw [tk_f T MS.tape rfl]; exact h3, fun _ => p1⟩, qk_tr (y := x.qu0 how) rfl (qk_ck (ck_tk T))⟩
  obtain ⟨b1, b2, b3, b4, b5, b6, b7⟩ := h5 (p4.symm.trans w)
  exact ⟨b1, b2, b3, b4, b5, b6, b7, fun t ht => absurd ht (Nat.not_lt_zero t)⟩
/-- behind a question that is clean -/
theorem qu_in {x v : MS} {how : Bool} (h : x.qW how) (hq : x.quF how = (true, v)) : v.dI ∧ (MS.s_works x how).qk v ∧ v.signCount = 0 := by
  obtain ⟨u, eu⟩ : ∃ u, u = (x.qu0 how).nx.2 := ⟨_, rfl⟩
  rw [quF_0 eu] at hq
  cases g : (x.qu0 how).nx.1 with
  | false => rw [g] at hq; cases hq
  | true =>
    rw [if_pos g] at hq
    obtain ⟨l1, l2⟩ := qu0_lI h g
    rw [← eu] at l1 l2
    unfold MS.quR at hq
    cases g2 : (MS.qL (x.length + 1) u).1 with
    | false => rw [g2] at hq; cases hq
    | true =>
      rw [if_pos g2] at hq
      obtain ⟨m, em⟩ : ∃ m, m = (MS.qL (x.length + 1) u).2 := ⟨_, rfl⟩
      rw [← em] at hq
      obtain ⟨r1, r2, r3⟩ := qL_in l1 (show MS.qL (x.length + 1) u = (true, m) from Prod.ext g2 em.symm)
      unfold MS.qu3 at hq
      cases g3 : m.opnB with
      | true => rw [if_pos g3] at hq; cases hq
      | false =>
        rw [if_neg (by rw [g3]; decide)] at hq
        obtain ⟨d1, d2, d3, d4⟩ := dt_oI (by decide) r1 hq
        refine ⟨oI_dI d1, qk_tr l2 (qk_tr r2 (qk_dk d2)), ?_⟩
        rcases d4 with d4 | d4
        · exact d4
        · by_cases z : v.signCount = 0
          · exact z
          · have t4 := top_0 d1.2.2.2.1 (by omega) d4
            have hd' : MS.dtF 1 m.signCount m = (true, v) := hq
            have le := dt_le (rk := 1) (w := m.signCount) (x := m)
            rw [hd'] at le
            have le : v.signCount ≤ m.signCount := le
            have : m.opnB = true := anyB_t (k := v.signCount - 1) (by omega) (by
              show decide (m.signs (v.signCount - 1) = 40) = true
              rw [← dk_f d2 MS.signs rfl]
              exact decide_eq_true t4)
            rw [this] at g3
            cases g3
theorem lI_0 {x : MS} (h : x.lI) (w : x.wants = true) : x.oI 0 := by
  rcases h with ⟨_, b⟩ | ⟨a, _⟩
  · exact b
  · rw [w] at a; cases a
theorem lI_1 {x : MS} (h : x.lI) (w : x.wants = false) : x.oI 1 := by
  rcases h with ⟨a, _⟩ | ⟨_, b⟩
  · rw [w] at a; cases a
  · exact b
theorem lI_frm {x : MS} (h : x.lI) : x.frm ≤ x.length := by
  have l : x.lx := by
    rcases h with ⟨_, b⟩ | ⟨_, b⟩
    · exact b.1
    · exact b.1
  exact Nat.le_trans l.2.1 l.2.2.1
end
