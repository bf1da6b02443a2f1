section
/-! What the series' reader says, by its value. -/
theorem rd_inl {x y : VS} {len : Nat} {r9 kf : Int32} {pf : Nat} (hrd : rdC x.tape len 7 0 0 x.rS x.rE x.rV = .inl (kf, pf)) (h : (∃ (kf : Int32) (pf c : Nat) (S E V : Nat → Nat), rdC x.tape len 7 0 0 x.rS x.rE x.rV = .inl (kf, pf) ∧ r9 = 0 ∧ y = (x.lbS c S E V).rfS kf pf) ∨ (∃ (c : Nat) (S E V : Nat → Nat), rdC x.tape len 7 0 0 x.rS x.rE x.rV = .inr (c, S, E, V) ∧ lbOk len c S E V ∧ c ≤ 6 ∧ 0 < c ∧ r9 = 1 ∧ y = x.lbS c S E V)) : ∃ (c : Nat) (S E V : Nat → Nat), r9 = 0 ∧ y = (x.lbS c S E V).rfS kf pf := by
  rw [hrd] at h
  rcases h with ⟨kf1, pf1, c, S, E, V, h1, h2, h3⟩ | ⟨c, S, E, V, h1, _⟩
  · injection h1 with h1
    injection h1 with h4 h5
    subst h4 h5
    exact ⟨c, S, E, V, h2, h3⟩
  · cases h1
theorem rd_inr {x y : VS} {len : Nat} {r9 : Int32} {n : Nat} {fS fE fV : Nat → Nat} (hrd : rdC x.tape len 7 0 0 x.rS x.rE x.rV = .inr (n, fS, fE, fV)) (h : (∃ (kf : Int32) (pf c : Nat) (S E V : Nat → Nat), rdC x.tape len 7 0 0 x.rS x.rE x.rV = .inl (kf, pf) ∧ r9 = 0 ∧ y = (x.lbS c S E V).rfS kf pf) ∨ (∃ (c : Nat) (S E V : Nat → Nat), rdC x.tape len 7 0 0 x.rS x.rE x.rV = .inr (c, S, E, V) ∧ lbOk len c S E V ∧ c ≤ 6 ∧ 0 < c ∧ r9 = 1 ∧ y = x.lbS c S E V)) : lbOk len n fS fE fV ∧ n ≤ 6 ∧ 0 < n ∧ r9 = 1 ∧ y = x.lbS n fS fE fV := by
  rw [hrd] at h
  rcases h with ⟨kf1, pf1, c, S, E, V, h1, _⟩ | ⟨c, S, E, V, h1, h2⟩
  · cases h1
  · injection h1 with h1
    injection h1 with h4 h1
    injection h1 with h5 h1
    injection h1 with h6 h7
    subst h4 h5 h6 h7
    exact h2
def VS.sbS (x : VS) (nl : Nat) (fS fE fV : Nat → Nat) (pl1 : va_W) : VS := VS.s_pl (VS.s_rlab (VS.s_rV (VS.s_rE (VS.s_rS x fS) fE) fV) nl) pl1
def VS.soS (x : VS) (nl : Nat) (fS fE fV : Nat → Nat) (pl1 : va_W) : VS := VS.s_pl (VS.s_rlab (VS.s_rV (VS.s_rE (VS.s_rS (VS.s_faultPlace (VS.s_faultCode (VS.s_tapeLength x 0) 0) 0) fS) fE) fV) nl) pl1
def VS.sfS (x : VS) (nl : Nat) (fS fE fV : Nat → Nat) (kf : Int32) (pf : Nat) : VS := VS.s_rplace (VS.s_rcode (VS.s_rlab (VS.s_rV (VS.s_rE (VS.s_rS (VS.s_faultPlace (VS.s_faultCode (VS.s_tapeLength x 0) kf) (nI pf)) fS) fE) fV) nl) kf) (nI pf)
def VS.ft0 (x : VS) : VS := VS.s_faultPlace (VS.s_faultCode (VS.s_tapeLength x 0) 0) 0
def VS.off1 (x : VS) : VS := VS.s_cutLeft (VS.s_powered x false) (-1)
set_option maxHeartbeats 4000000 in
set_option maxRecDepth 100000 in
theorem v_series_x (l : Launch) (htr : l.stackTraces = false) (D : va_G) (dA : Nat → ClassId) (sz : Nat) (h : Nat) (ad : Nat → Nat) (x : VS) (ho : x.powered = false) : mX l ⟨"SeriesVault", "series", "()I"⟩ [Cond.code ⟨"SeriesVault", "series", "()I"⟩ prog_1_method_23_code 3 (some FieldType.int)] { frames := 7, cells := 1, slots := 6, locals := 101 } (pC D dA [.ref h] (VW dA h ad x) sz) "java/lang/IllegalStateException" (fun st9 t9 => va_F (va_A (VW dA h ad x) sz) st9 t9 ∧ bW D (va_A (VW dA h ad x) sz) (VW dA h ad x) t9) 1 6 (va_A (VW dA h ad x) sz) := by
  refine mkX (y := ⟨"SeriesVault", "series", "()I"⟩) (cc := prog_1_method_23_code) (maxL := 3) (av := [.ref h]) (ws := VW dA h ad x) (sz := sz) (B := fun A => (fun st9 t9 => va_F A st9 t9 ∧ bW D A (VW dA h ad x) t9)) (by decide) (Nat.le_of_ble_eq_true rfl) ?_
  intro A p e s m below meth c ls hsz hno hB
  obtain ⟨hx, hb, hr, hml, hown, hin, hlk, hE, hK, hP, hD, hS, hA, hN, hl⟩ := hB
  have hown : s.vm.findClass "SeriesVault" = some m.cls := hown
  have hl : lv_has ls 3 [(0, .ref h)] := hl
  obtain ⟨H, hH⟩ : ∃ z, z = s.heap := ⟨_, rfl⟩
  have hP : va_P D vwCl (VW dA h ad x) H := by rw [hH]; exact hP
  have hS : va_S A s.heap H [] := by rw [hH]; exact hS
  rw [← hH]
  refine lv_aload_n hx hb d_V_series_0 rfl (lv_at hl 0 rfl) ?_
  refine xfV (w1 := VW dA h ad x) (As := []) (rest := []) hx hb hml hown hE hK (hN _ _ hS) (v_checkPower_x l htr D dA H.size h ad x ho) (q0 := 0) rfl rfl w278 w276 w279 w280 w277 rfl rfl ⟨⟨by decide, by decide⟩, rfl⟩ ⟨(Nat.le_of_ble_eq_true rfl), (Nat.le_of_ble_eq_true rfl)⟩ rfl hl.1 rfl (Nat.le_of_ble_eq_true rfl) d_V_series_1 ⟨(Nat.le_of_ble_eq_true rfl), (Nat.le_of_ble_eq_true rfl)⟩ hP hD hS hA (fun xa1 ce H locs hP hD hS hce hcv hcl => ?_)
  exact xOut hno hlk hce hcv hcl (fun t ht => xEndV hP hD hS t (by rw [ht]; exact Nat.le_refl _) (fun q _ => by rw [ht])) hS.2.2 (Nat.le_of_ble_eq_true rfl) (Nat.le_of_ble_eq_true rfl)
set_option maxHeartbeats 4000000 in
set_option maxRecDepth 100000 in
theorem v_series_f (l : Launch) (D : va_G) (dA : Nat → ClassId) (sz : Nat) (h : Nat) (ad : Nat → Nat) (x : VS) (kf : Int32) (pf : Nat) (ho : x.powered = true) (hby : byteF x.tape) (htl : x.tapeLength ≤ x.tpN) (h3 : x.tpN ≤ 131072) (hrd : rdC x.tape x.tapeLength 7 0 0 x.rS x.rE x.rV = .inl (kf, pf)) : Met l ⟨"SeriesVault", "series", "()I"⟩ [Cond.code ⟨"SeriesVault", "series", "()I"⟩ prog_1_method_23_code 3 (some FieldType.int)] { frames := 5, cells := 0, slots := 0, locals := 98 } (pC D dA [.ref h] (VW dA h ad x) sz) (va_Qi (fun (r9 : Int32) (u9 : VS) => r9 = (-1) ∧ (∃ (nl : Nat) (fS fE fV : Nat → Nat), u9 = x.sfS nl fS fE fV kf pf)) (fun (u9 : VS) t9 => bW D (va_A (VW dA h ad x) sz) (VW dA h ad u9) t9) (va_A (VW dA h ad x) sz)) 0 0 (va_A (VW dA h ad x) sz) := by
  refine mkC (y := ⟨"SeriesVault", "series", "()I"⟩) (cc := prog_1_method_23_code) (maxL := 3) (av := [.ref h]) (ws := VW dA h ad x) (sz := sz) (Qc := fun A => va_Qi (fun (r9 : Int32) (u9 : VS) => r9 = (-1) ∧ (∃ (nl : Nat) (fS fE fV : Nat → Nat), u9 = x.sfS nl fS fE fV kf pf)) (fun (u9 : VS) t9 => bW D A (VW dA h ad u9) t9) A) (by decide) (Nat.le_of_ble_eq_true rfl) ?_
  intro A p e s m below meth c ls hsz hB
  obtain ⟨hx, hb, hr, hml, hown, hin, hlk, hE, hK, hP, hD, hS, hA, hN, hl⟩ := hB
  have hown : s.vm.findClass "SeriesVault" = some m.cls := hown
  have hl : lv_has ls 3 [(0, .ref h)] := hl
  obtain ⟨H, hH⟩ : ∃ z, z = s.heap := ⟨_, rfl⟩
  have hP : va_P D vwCl (VW dA h ad x) H := by rw [hH]; exact hP
  have hS : va_S A s.heap H [] := by rw [hH]; exact hS
  rw [← hH]
  refine lv_aload_n hx hb d_V_series_0 rfl (lv_at hl 0 rfl) ?_
  refine jkV (wr := []) (rnV (As := []) (rest := []) hx hb hml hown hE hK (hN _ _ hS) hP hD (v_checkPower l D dA H.size h ad x ho) (q0 := 0) rfl rfl w278 w276 w279 w280 w277 rfl rfl ⟨⟨by decide, by decide⟩, rfl⟩ ⟨(Nat.le_of_ble_eq_true rfl), (Nat.le_of_ble_eq_true rfl)⟩ rfl hl.1 rfl (Nat.le_of_ble_eq_true rfl) d_V_series_1 ⟨(Nat.le_of_ble_eq_true rfl), (Nat.le_of_ble_eq_true rfl)⟩) hP hD hS hA (fun u2 H locs hp9 hP hD hS => ?_)
  have hP : va_P D vwCl (VW dA h ad x) H := hP
  have hD : va_D A (VW dA h ad x) := hD
  refine lv_aload_n hx hb d_V_series_4 rfl (lv_at hl 0 rfl) ?_
  refine gF (v := .ref (ad 18)) hx hb hown hE hK hP 0 rfl rfl layV 14 (by decide) w608 rfl d_V_series_5 ?_
  refine lv_aload_n hx hb d_V_series_8 rfl (lv_at hl 0 rfl) ?_
  refine gF (v := .ref x.tpA) hx hb hown hE hK hP 0 rfl rfl layV 0 (by decide) w539 rfl d_V_series_9 ?_
  refine lv_aload_n hx hb d_V_series_12 rfl (lv_at hl 0 rfl) ?_
  refine gF (v := .int (nI x.tapeLength)) hx hb hown hE hK hP 0 rfl rfl layV 1 (by decide) w259 rfl d_V_series_13 ?_
  refine jkI (wr := []) (rnV (As := [.ref x.tpA, .int (nI x.tapeLength)]) (rest := []) hx hb hml hown hE hK (hN _ _ hS) hP hD (v_read l D dA H.size h ad x x.tapeLength htl h3) (q0 := 32) rfl rfl w610 w609 w611 w612 w596 rfl rfl ⟨⟨by decide, by decide⟩, rfl⟩ ⟨(Nat.le_of_ble_eq_true rfl), (Nat.le_of_ble_eq_true rfl)⟩ rfl hl.1 rfl (Nat.le_of_ble_eq_true rfl) d_V_series_16 ⟨(Nat.le_of_ble_eq_true rfl), (Nat.le_of_ble_eq_true rfl)⟩) hP hD hS hA (fun r3 u4 H locs hp9 hP hD hS => ?_)
  obtain ⟨y5, h9u⟩ : ∃ z9, z9 = u4 := ⟨_, rfl⟩
  subst h9u
  have hP : va_P D vwCl (VW dA h ad y5) H := hP
  have hD : va_D A (VW dA h ad y5) := hD
  have f_r_6 := hp9
  obtain ⟨nl, fS, fE, fV, e9, ey⟩ := rd_inl hrd f_r_6
  subst e9
  subst ey
  have hP : va_P D vwCl (VW dA h ad (VS.s_rplace (VS.s_rcode (VS.s_rlab (VS.s_rV (VS.s_rE (VS.s_rS x fS) fE) fV) nl) kf) (nI pf))) H := hP
  have hD : va_D A (VW dA h ad (VS.s_rplace (VS.s_rcode (VS.s_rlab (VS.s_rV (VS.s_rE (VS.s_rS x fS) fE) fV) nl) kf) (nI pf))) := hD
  refine lv_if_ne hx hb d_V_series_19 (tgt := 47) rfl (fun h9 => absurd (by decide) h9) (fun _ => ?_)
  refine lv_aload_n hx hb d_V_series_22 rfl (lv_at hl 0 rfl) ?_
  refine lv_iconst (v := 0) hx hb d_V_series_23 (by decide) ?_
  refine pF (v := .int (nI 0)) hx hb hown hE hK hP hD hS 0 rfl rfl layV tyV tokV nmV 1 (by decide) w259 rfl rfl rfl (Nat.le_of_ble_eq_true rfl) d_V_series_24 (fun H locs hP hD hS => ?_)
  have hP : va_P D vwCl (VW dA h ad (VS.s_rplace (VS.s_rcode (VS.s_rlab (VS.s_rV (VS.s_rE (VS.s_rS (VS.s_tapeLength x 0) fS) fE) fV) nl) kf) (nI pf))) H := hP
  have hD : va_D A (VW dA h ad (VS.s_rplace (VS.s_rcode (VS.s_rlab (VS.s_rV (VS.s_rE (VS.s_rS (VS.s_tapeLength x 0) fS) fE) fV) nl) kf) (nI pf))) := hD
  refine lv_aload_n hx hb d_V_series_27 rfl (lv_at hl 0 rfl) ?_
  refine lv_aload_n hx hb d_V_series_28 rfl (lv_at hl 0 rfl) ?_
  refine gF (v := .ref (ad 18)) hx hb hown hE hK hP 0 rfl rfl layV 14 (by decide) w608 rfl d_V_series_29 ?_
  refine gFN (v := .int kf) hx hb hown hE hK hP 32 rfl rfl layR 4 (by decide) w613 rfl d_V_series_32 ?_
  refine lv_aload_n hx hb d_V_series_35 rfl (lv_at hl 0 rfl) ?_
  refine gF (v := .ref (ad 18)) hx hb hown hE hK hP 0 rfl rfl layV 14 (by decide) w608 rfl d_V_series_36 ?_
  refine gFN (v := .int (nI pf)) hx hb hown hE hK hP 32 rfl rfl layR 5 (by decide) w614 rfl d_V_series_39 ?_
  refine jkV (wr := []) (rnV (As := [.int kf, .int (nI pf)]) (rest := []) hx hb hml hown hE hK (hN _ _ hS) hP hD (v_setFault l D dA H.size h ad (VS.s_rplace (VS.s_rcode (VS.s_rlab (VS.s_rV (VS.s_rE (VS.s_rS (VS.s_tapeLength x 0) fS) fE) fV) nl) kf) (nI pf)) kf (nI pf)) (q0 := 0) rfl rfl w616 w615 w617 w618 w277 rfl rfl ⟨⟨by decide, by decide⟩, rfl⟩ ⟨(Nat.le_of_ble_eq_true rfl), (Nat.le_of_ble_eq_true rfl)⟩ rfl hl.1 rfl (Nat.le_of_ble_eq_true rfl) d_V_series_42 ⟨(Nat.le_of_ble_eq_true rfl), (Nat.le_of_ble_eq_true rfl)⟩) hP hD hS hA (fun u8 H locs hp9 hP hD hS => ?_)
  have hP : va_P D vwCl (VW dA h ad (VS.s_rplace (VS.s_rcode (VS.s_rlab (VS.s_rV (VS.s_rE (VS.s_rS (VS.s_faultPlace (VS.s_faultCode (VS.s_tapeLength x 0) kf) (nI pf)) fS) fE) fV) nl) kf) (nI pf))) H := hP
  have hD : va_D A (VW dA h ad (VS.s_rplace (VS.s_rcode (VS.s_rlab (VS.s_rV (VS.s_rE (VS.s_rS (VS.s_faultPlace (VS.s_faultCode (VS.s_tapeLength x 0) kf) (nI pf)) fS) fE) fV) nl) kf) (nI pf))) := hD
  refine lv_iconst (v := (-1)) hx hb d_V_series_45 (by decide) ?_
  exact rfI hx hb hr hlk hS (VS.s_rplace (VS.s_rcode (VS.s_rlab (VS.s_rV (VS.s_rE (VS.s_rS (VS.s_faultPlace (VS.s_faultCode (VS.s_tapeLength x 0) kf) (nI pf)) fS) fE) fV) nl) kf) (nI pf)) ⟨rfl, nl, fS, fE, fV, rfl⟩ hP hD (Nat.le_of_ble_eq_true rfl) (Nat.le_of_ble_eq_true rfl) d_V_series_46
theorem d_V_series_47 : decode prog_1_method_23_code 47 = .ok (.aload_n 0, 1) := by decide +kernel
theorem d_V_series_48 : decode prog_1_method_23_code 48 = .ok (.getfield 49, 3) := by decide +kernel
theorem d_V_series_51 : decode prog_1_method_23_code 51 = .ok (.aload_n 0, 1) := by decide +kernel
theorem d_V_series_52 : decode prog_1_method_23_code 52 = .ok (.getfield 7, 3) := by decide +kernel
theorem d_V_series_55 : decode prog_1_method_23_code 55 = .ok (.invokevirtual 213, 3) := by decide +kernel
theorem d_V_series_58 : decode prog_1_method_23_code 58 = .ok (.astore_n 1, 1) := by decide +kernel
theorem d_V_series_59 : decode prog_1_method_23_code 59 = .ok (.aload_n 0, 1) := by decide +kernel
theorem d_V_series_60 : decode prog_1_method_23_code 60 = .ok (.aload_n 1, 1) := by decide +kernel
theorem d_V_series_61 : decode prog_1_method_23_code 61 = .ok (.invokevirtual 217, 3) := by decide +kernel
theorem d_V_series_64 : decode prog_1_method_23_code 64 = .ok (.istore_n 2, 1) := by decide +kernel
theorem d_V_series_65 : decode prog_1_method_23_code 65 = .ok (.iload_n 2, 1) := by decide +kernel
theorem d_V_series_66 : decode prog_1_method_23_code 66 = .ok (.aload_n 0, 1) := by decide +kernel
theorem d_V_series_67 : decode prog_1_method_23_code 67 = .ok (.getfield 33, 3) := by decide +kernel
theorem d_V_series_70 : decode prog_1_method_23_code 70 = .ok (.getfield 130, 3) := by decide +kernel
theorem d_V_series_73 : decode prog_1_method_23_code 73 = .ok (.if_icmp .ne 8, 3) := by decide +kernel
theorem d_V_series_81 : decode prog_1_method_23_code 81 = .ok (.aload_n 0, 1) := by decide +kernel
theorem d_V_series_82 : decode prog_1_method_23_code 82 = .ok (.iconst 0, 1) := by decide +kernel
theorem d_V_series_83 : decode prog_1_method_23_code 83 = .ok (.putfield 71, 3) := by decide +kernel
theorem d_V_series_86 : decode prog_1_method_23_code 86 = .ok (.aload_n 0, 1) := by decide +kernel
theorem d_V_series_87 : decode prog_1_method_23_code 87 = .ok (.iconst 0, 1) := by decide +kernel
theorem d_V_series_88 : decode prog_1_method_23_code 88 = .ok (.iconst 0, 1) := by decide +kernel
theorem d_V_series_89 : decode prog_1_method_23_code 89 = .ok (.invokevirtual 210, 3) := by decide +kernel
theorem d_V_series_92 : decode prog_1_method_23_code 92 = .ok (.iload_n 2, 1) := by decide +kernel
theorem d_V_series_93 : decode prog_1_method_23_code 93 = .ok (.ireturn, 1) := by decide +kernel
theorem w1734 : Cond.methodLink "SeriesVault" 213 ⟨"SeriesVault$SeriesReader", "made", "([B)LSeriesVault$Series;"⟩ ∈ aW := aw_of (tb_3 (List.mem_of_getElem? (i := 222) rfl)) rfl
theorem w1735 : Cond.code ⟨"SeriesVault$SeriesReader", "made", "([B)LSeriesVault$Series;"⟩ prog_8_method_9_code 7 (some (FieldType.object "SeriesVault$Series")) ∈ aW := aw_of (tb_3 (List.mem_of_getElem? (i := 225) rfl)) rfl
theorem w1736 : Cond.instanceMethod ⟨"SeriesVault$SeriesReader", "made", "([B)LSeriesVault$Series;"⟩ ∈ aW := aw_of (tb_3 (List.mem_of_getElem? (i := 223) rfl)) rfl
theorem w1737 : Cond.selects "SeriesVault$SeriesReader" ⟨"SeriesVault$SeriesReader", "made", "([B)LSeriesVault$Series;"⟩ ⟨"SeriesVault$SeriesReader", "made", "([B)LSeriesVault$Series;"⟩ ∈ aW := aw_of (tb_3 (List.mem_of_getElem? (i := 224) rfl)) rfl
theorem w1738 : Cond.methodLink "SeriesVault" 217 ⟨"SeriesVault", "numberOf", "(LSeriesVault$Series;)I"⟩ ∈ aW := aw_of (tb_5 (List.mem_of_getElem? (i := 18) rfl)) rfl
theorem w1739 : Cond.code ⟨"SeriesVault", "numberOf", "(LSeriesVault$Series;)I"⟩ prog_1_method_24_code 3 (some FieldType.int) ∈ aW := aw_of (tb_5 (List.mem_of_getElem? (i := 21) rfl)) rfl
theorem w1740 : Cond.instanceMethod ⟨"SeriesVault", "numberOf", "(LSeriesVault$Series;)I"⟩ ∈ aW := aw_of (tb_5 (List.mem_of_getElem? (i := 20) rfl)) rfl
theorem w1741 : Cond.selects "SeriesVault" ⟨"SeriesVault", "numberOf", "(LSeriesVault$Series;)I"⟩ ⟨"SeriesVault", "numberOf", "(LSeriesVault$Series;)I"⟩ ∈ aW := aw_pr (List.mem_map.mpr ⟨_, pv_1 (List.mem_of_getElem? (i := 11) rfl), rfl⟩) rfl
set_option maxHeartbeats 4000000 in
set_option maxRecDepth 100000 in
theorem v_series_o (l : Launch) (D : va_G) (dA : Nat → ClassId) (sz : Nat) (h : Nat) (ad : Nat → Nat) (x : VS) (SS : Nat → List LB) (nl : Nat) (fS : Nat → Nat) (fE : Nat → Nat) (fV : Nat → Nat) (ho : x.powered = true) (hby : byteF x.tape) (htl : x.tapeLength ≤ x.tpN) (h3 : x.tpN ≤ 131072) (hkn : knOk dA x.kn x.nser x.pl SS) (hn : x.nser ≤ 256) (hrd : rdC x.tape x.tapeLength 7 0 0 x.rS x.rE x.rV = .inr (nl, fS, fE, fV)) (hnu : nuN SS (srtL x.tape fS fE fV nl) x.nser < x.nser) : Met l ⟨"SeriesVault", "series", "()I"⟩ [Cond.code ⟨"SeriesVault", "series", "()I"⟩ prog_1_method_23_code 3 (some FieldType.int)] { frames := 7, cells := 32, slots := 930, locals := 158 } (pC D dA [.ref h] (VW dA h ad x) sz) (va_Qi (fun (r9 : Int32) (u9 : VS) => r9 = nI (nuN SS (srtL x.tape fS fE fV nl) x.nser) ∧ ∃ pl1 : va_W, (∀ c, c ∈ x.pl → c ∈ pl1) ∧ u9 = x.soS nl fS fE fV pl1) (fun (u9 : VS) t9 => bW D (va_A (VW dA h ad x) sz) (VW dA h ad u9) t9) (va_A (VW dA h ad x) sz)) 32 930 (va_A (VW dA h ad x) sz) := by
  refine mkC (y := ⟨"SeriesVault", "series", "()I"⟩) (cc := prog_1_method_23_code) (maxL := 3) (av := [.ref h]) (ws := VW dA h ad x) (sz := sz) (Qc := fun A => va_Qi (fun (r9 : Int32) (u9 : VS) => r9 = nI (nuN SS (srtL x.tape fS fE fV nl) x.nser) ∧ ∃ pl1 : va_W, (∀ c, c ∈ x.pl → c ∈ pl1) ∧ u9 = x.soS nl fS fE fV pl1) (fun (u9 : VS) t9 => bW D A (VW dA h ad u9) t9) A) (by decide) (Nat.le_of_ble_eq_true rfl) ?_
  intro A p e s m below meth c ls hsz hB
  obtain ⟨hx, hb, hr, hml, hown, hin, hlk, hE, hK, hP, hD, hS, hA, hN, hl⟩ := hB
  have hown : s.vm.findClass "SeriesVault" = some m.cls := hown
  have hl : lv_has ls 3 [(0, .ref h)] := hl
  obtain ⟨H, hH⟩ : ∃ z, z = s.heap := ⟨_, rfl⟩
  have hP : va_P D vwCl (VW dA h ad x) H := by rw [hH]; exact hP
  have hS : va_S A s.heap H [] := by rw [hH]; exact hS
  rw [← hH]
  refine lv_aload_n hx hb d_V_series_0 rfl (lv_at hl 0 rfl) ?_
  refine jkV (wr := []) (rnV (As := []) (rest := []) hx hb hml hown hE hK (hN _ _ hS) hP hD (v_checkPower l D dA H.size h ad x ho) (q0 := 0) rfl rfl w278 w276 w279 w280 w277 rfl rfl ⟨⟨by decide, by decide⟩, rfl⟩ ⟨(Nat.le_of_ble_eq_true rfl), (Nat.le_of_ble_eq_true rfl)⟩ rfl hl.1 rfl (Nat.le_of_ble_eq_true rfl) d_V_series_1 ⟨(show 0 + 0 ≤ 32 by omega), (show 0 + 0 ≤ 930 by omega)⟩) hP hD hS hA (fun u2 H locs hp9 hP hD hS => ?_)
  have hP : va_P D vwCl (VW dA h ad x) H := hP
  have hD : va_D A (VW dA h ad x) := hD
  refine lv_aload_n hx hb d_V_series_4 rfl (lv_at hl 0 rfl) ?_
  refine gF (v := .ref (ad 18)) hx hb hown hE hK hP 0 rfl rfl layV 14 (by decide) w608 rfl d_V_series_5 ?_
  refine lv_aload_n hx hb d_V_series_8 rfl (lv_at hl 0 rfl) ?_
  refine gF (v := .ref x.tpA) hx hb hown hE hK hP 0 rfl rfl layV 0 (by decide) w539 rfl d_V_series_9 ?_
  refine lv_aload_n hx hb d_V_series_12 rfl (lv_at hl 0 rfl) ?_
  refine gF (v := .int (nI x.tapeLength)) hx hb hown hE hK hP 0 rfl rfl layV 1 (by decide) w259 rfl d_V_series_13 ?_
  refine jkI (wr := []) (rnV (As := [.ref x.tpA, .int (nI x.tapeLength)]) (rest := []) hx hb hml hown hE hK (hN _ _ hS) hP hD (v_read l D dA H.size h ad x x.tapeLength htl h3) (q0 := 32) rfl rfl w610 w609 w611 w612 w596 rfl rfl ⟨⟨by decide, by decide⟩, rfl⟩ ⟨(Nat.le_of_ble_eq_true rfl), (Nat.le_of_ble_eq_true rfl)⟩ rfl hl.1 rfl (Nat.le_of_ble_eq_true rfl) d_V_series_16 ⟨(show 0 + 0 + 0 ≤ 32 by omega), (show 0 + 0 + 0 ≤ 930 by omega)⟩) hP hD hS hA (fun r3 u4 H locs hp9 hP hD hS => ?_)
  obtain ⟨y5, h9u⟩ : ∃ z9, z9 = u4 := ⟨_, rfl⟩
  subst h9u
  have hP : va_P D vwCl (VW dA h ad y5) H := hP
  have hD : va_D A (VW dA h ad y5) := hD
  have f_r_6 := hp9
  obtain ⟨hlb, hl6, hl0, e9, ey⟩ := rd_inr hrd f_r_6
  subst e9
  subst ey
  have hP : va_P D vwCl (VW dA h ad (VS.s_rlab (VS.s_rV (VS.s_rE (VS.s_rS x fS) fE) fV) nl)) H := hP
  have hD : va_D A (VW dA h ad (VS.s_rlab (VS.s_rV (VS.s_rE (VS.s_rS x fS) fE) fV) nl)) := hD
  refine lv_if_ne hx hb d_V_series_19 (tgt := 47) rfl (fun _ => ?_) (fun h9 => absurd h9 (by decide))
  refine lv_aload_n hx hb d_V_series_47 rfl (lv_at hl 0 rfl) ?_
  refine gF (v := .ref (ad 18)) hx hb hown hE hK hP 0 rfl rfl layV 14 (by decide) w608 rfl d_V_series_48 ?_
  refine lv_aload_n hx hb d_V_series_51 rfl (lv_at hl 0 rfl) ?_
  refine gF (v := .ref x.tpA) hx hb hown hE hK hP 0 rfl rfl layV 0 (by decide) w539 rfl d_V_series_52 ?_
  refine jkR (wr := []) (rnV (As := [.ref x.tpA]) (rest := []) hx hb hml hown hE hK (hN _ _ hS) hP hD (v_made l D dA H.size h ad (VS.s_rlab (VS.s_rV (VS.s_rE (VS.s_rS x fS) fE) fV) nl) x.tapeLength hby htl h3 hl6 hlb) (q0 := 32) rfl rfl w1735 w1734 w1736 w1737 w596 rfl rfl ⟨⟨by decide, by decide⟩, rfl⟩ ⟨(Nat.le_of_ble_eq_true rfl), (Nat.le_of_ble_eq_true rfl)⟩ rfl hl.1 rfl (Nat.le_of_ble_eq_true rfl) d_V_series_55 ⟨(show 0 + 0 + 0 + 32 ≤ 32 by omega), (show 0 + 0 + 0 + 930 ≤ 930 by omega)⟩) hP hD hS hA (fun u7 mp H locs hp9 hP hD hS => ?_)
  obtain ⟨y8, h9u⟩ : ∃ z9, z9 = u7 := ⟨_, rfl⟩
  subst h9u
  have hP : va_P D vwCl (VW dA h ad y8) H := hP
  have hD : va_D A (VW dA h ad y8) := hD
  obtain ⟨f_k_9, f_w_10⟩ := hp9
  obtain ⟨hy, hsub⟩ := f_k_9
  have hsr := f_w_10
  obtain ⟨pl1, epl⟩ : ∃ z, z = y8.pl := ⟨_, rfl⟩
  rw [← epl] at hy hsub hsr
  subst hy
  have hP : va_P D vwCl (VW dA h ad (VS.s_pl (VS.s_rlab (VS.s_rV (VS.s_rE (VS.s_rS x fS) fE) fV) nl) pl1)) H := hP
  have hD : va_D A (VW dA h ad (VS.s_pl (VS.s_rlab (VS.s_rV (VS.s_rE (VS.s_rS x fS) fE) fV) nl) pl1)) := hD
  have hso : serOk (srtL x.tape fS fE fV nl) := srt_sOk hlb hl6
  have hkn1 := knOk_m hsub hkn
  refine lv_astore_n hx hb d_V_series_58 rfl hl (by decide) rfl (fun ls hl => ?_)
  have hl : lv_has ls 3 [(1, .ref mp), (0, .ref h)] := hl
  refine lv_aload_n hx hb d_V_series_59 rfl (lv_at hl 1 rfl) ?_
  refine lv_aload_n hx hb d_V_series_60 rfl (lv_at hl 0 rfl) ?_
  refine jkI (wr := []) (rnV (As := [.ref mp]) (rest := []) hx hb hml hown hE hK (hN _ _ hS) hP hD (v_numberOf l D dA H.size h ad (VS.s_pl (VS.s_rlab (VS.s_rV (VS.s_rE (VS.s_rS x fS) fE) fV) nl) pl1) SS mp (srtL x.tape fS fE fV nl) hkn1 (show x.nser ≤ 256 from by omega) hsr hso) (q0 := 0) rfl rfl w1739 w1738 w1740 w1741 w277 rfl rfl ⟨⟨by decide, by decide⟩, rfl⟩ ⟨(Nat.le_of_ble_eq_true rfl), (Nat.le_of_ble_eq_true rfl)⟩ rfl hl.1 rfl (Nat.le_of_ble_eq_true rfl) d_V_series_61 ⟨(show 0 + 0 + 0 + 32 + 0 ≤ 32 by omega), (show 0 + 0 + 0 + 930 + 0 ≤ 930 by omega)⟩) hP hD hS hA (fun r11 u12 H locs hp9 hP hD hS => ?_)
  have hP : va_P D vwCl (VW dA h ad (VS.s_pl (VS.s_rlab (VS.s_rV (VS.s_rE (VS.s_rS x fS) fE) fV) nl) pl1)) H := hP
  have hD : va_D A (VW dA h ad (VS.s_pl (VS.s_rlab (VS.s_rV (VS.s_rE (VS.s_rS x fS) fE) fV) nl) pl1)) := hD
  replace hp9 : nI (nuN SS (srtL x.tape fS fE fV nl) x.nser) = r11 := Eq.symm hp9
  subst hp9
  refine lv_istore_n hx hb d_V_series_64 rfl hl (by decide) rfl (fun ls hl => ?_)
  have hl : lv_has ls 3 [(2, .int (nI (nuN SS (srtL x.tape fS fE fV nl) x.nser))), (1, .ref mp), (0, .ref h)] := hl
  refine lv_iload_n hx hb d_V_series_65 rfl (lv_at hl 0 rfl) ?_
  refine lv_aload_n hx hb d_V_series_66 rfl (lv_at hl 2 rfl) ?_
  refine gF (v := .ref (ad 3)) hx hb hown hE hK hP 0 rfl rfl layV 11 (by decide) w297 rfl d_V_series_67 ?_
  refine gFN (v := .int (nI x.nser)) hx hb hown hE hK hP 17 rfl rfl layH 8 (by decide) w298 rfl d_V_series_70 ?_
  refine lv_icmp_ne hx hb d_V_series_73 (tgt := 81) rfl (fun g13 => ?_) (fun g13 => ?_)
  rotate_left
  · have g13 := (nI_eq (a := nuN SS (srtL x.tape fS fE fV nl) x.nser) (b := x.nser) (by omega) (by omega)).mp g13; exfalso; omega
  have g13 := mt (nI_eq (a := nuN SS (srtL x.tape fS fE fV nl) x.nser) (b := x.nser) (by omega) (by omega)).mpr g13
  refine lv_aload_n hx hb d_V_series_81 rfl (lv_at hl 2 rfl) ?_
  refine lv_iconst (v := 0) hx hb d_V_series_82 (by decide) ?_
  refine pF (v := .int (nI 0)) hx hb hown hE hK hP hD hS 0 rfl rfl layV tyV tokV nmV 1 (by decide) w259 rfl rfl rfl (Nat.le_of_ble_eq_true rfl) d_V_series_83 (fun H locs hP hD hS => ?_)
  have hP : va_P D vwCl (VW dA h ad (VS.s_pl (VS.s_rlab (VS.s_rV (VS.s_rE (VS.s_rS (VS.s_tapeLength x 0) fS) fE) fV) nl) pl1)) H := hP
  have hD : va_D A (VW dA h ad (VS.s_pl (VS.s_rlab (VS.s_rV (VS.s_rE (VS.s_rS (VS.s_tapeLength x 0) fS) fE) fV) nl) pl1)) := hD
  refine lv_aload_n hx hb d_V_series_86 rfl (lv_at hl 2 rfl) ?_
  refine lv_iconst (v := 0) hx hb d_V_series_87 (by decide) ?_
  refine lv_iconst (v := 0) hx hb d_V_series_88 (by decide) ?_
  refine jkV (wr := []) (rnV (As := [.int 0, .int 0]) (rest := []) hx hb hml hown hE hK (hN _ _ hS) hP hD (v_setFault l D dA H.size h ad (VS.s_pl (VS.s_rlab (VS.s_rV (VS.s_rE (VS.s_rS (VS.s_tapeLength x 0) fS) fE) fV) nl) pl1) 0 0) (q0 := 0) rfl rfl w616 w615 w617 w618 w277 rfl rfl ⟨⟨by decide, by decide⟩, rfl⟩ ⟨(Nat.le_of_ble_eq_true rfl), (Nat.le_of_ble_eq_true rfl)⟩ rfl hl.1 rfl (Nat.le_of_ble_eq_true rfl) d_V_series_89 ⟨(show 0 + 0 + 0 + 32 + 0 + 0 ≤ 32 by omega), (show 0 + 0 + 0 + 930 + 0 + 0 ≤ 930 by omega)⟩) hP hD hS hA (fun u15 H locs hp9 hP hD hS => ?_)
  have hP : va_P D vwCl (VW dA h ad (VS.s_pl (VS.s_rlab (VS.s_rV (VS.s_rE (VS.s_rS (VS.s_faultPlace (VS.s_faultCode (VS.s_tapeLength x 0) 0) 0) fS) fE) fV) nl) pl1)) H := hP
  have hD : va_D A (VW dA h ad (VS.s_pl (VS.s_rlab (VS.s_rV (VS.s_rE (VS.s_rS (VS.s_faultPlace (VS.s_faultCode (VS.s_tapeLength x 0) 0) 0) fS) fE) fV) nl) pl1)) := hD
  refine lv_iload_n hx hb d_V_series_92 rfl (lv_at hl 0 rfl) ?_
  exact rfI hx hb hr hlk hS (VS.s_pl (VS.s_rlab (VS.s_rV (VS.s_rE (VS.s_rS (VS.s_faultPlace (VS.s_faultCode (VS.s_tapeLength x 0) 0) 0) fS) fE) fV) nl) pl1) ⟨rfl, pl1, hsub, rfl⟩ hP hD (show 0 + 0 + 0 + 32 + 0 + 0 ≤ 32 by omega) (show 0 + 0 + 0 + 930 + 0 + 0 ≤ 930 by omega) d_V_series_93
theorem d_V_series_76 : decode prog_1_method_23_code 76 = .ok (.aload_n 0, 1) := by decide +kernel
theorem d_V_series_77 : decode prog_1_method_23_code 77 = .ok (.aload_n 1, 1) := by decide +kernel
theorem d_V_series_78 : decode prog_1_method_23_code 78 = .ok (.invokevirtual 221, 3) := by decide +kernel
theorem w1742 : Cond.methodLink "SeriesVault" 221 ⟨"SeriesVault", "addNewSeries", "(LSeriesVault$Series;)V"⟩ ∈ aW := aw_of (tb_5 (List.mem_of_getElem? (i := 26) rfl)) rfl
theorem w1743 : Cond.code ⟨"SeriesVault", "addNewSeries", "(LSeriesVault$Series;)V"⟩ prog_1_method_25_code 3 none ∈ aW := aw_of (tb_5 (List.mem_of_getElem? (i := 29) rfl)) rfl
theorem w1744 : Cond.instanceMethod ⟨"SeriesVault", "addNewSeries", "(LSeriesVault$Series;)V"⟩ ∈ aW := aw_of (tb_5 (List.mem_of_getElem? (i := 28) rfl)) rfl
theorem w1745 : Cond.selects "SeriesVault" ⟨"SeriesVault", "addNewSeries", "(LSeriesVault$Series;)V"⟩ ⟨"SeriesVault", "addNewSeries", "(LSeriesVault$Series;)V"⟩ ∈ aW := aw_pr (List.mem_map.mpr ⟨_, pv_1 (List.mem_of_getElem? (i := 12) rfl), rfl⟩) rfl
set_option maxHeartbeats 4000000 in
set_option maxRecDepth 100000 in
theorem v_series_n (l : Launch) (D : va_G) (dA : Nat → ClassId) (sz : Nat) (h : Nat) (ad : Nat → Nat) (x : VS) (SS : Nat → List LB) (nl : Nat) (fS : Nat → Nat) (fE : Nat → Nat) (fV : Nat → Nat) (ho : x.powered = true) (hby : byteF x.tape) (htl : x.tapeLength ≤ x.tpN) (h3 : x.tpN ≤ 131072) (hkn : knOk dA x.kn x.nser x.pl SS) (hn : x.nser ≤ 256) (hrd : rdC x.tape x.tapeLength 7 0 0 x.rS x.rE x.rV = .inr (nl, fS, fE, fV)) (hnu : nuN SS (srtL x.tape fS fE fV nl) x.nser = x.nser) (hbu : x.jblock + 1 < 2 ^ 31) (hlu : x.jlimit < 2 ^ 31) (hfl : x.jfill ≤ 126) (hs1 : x.jsize ≤ x.jN) (hs2 : 0 < x.jN) (hs3 : x.jN ≤ 65536) (hx0 : x.nser < 256) (hro : x.room (1 + ((joinT (srtL x.tape fS fE fV nl)).length + 32 - 1) / 32) = true) (hcr : x.jfill + (1 + ((joinT (srtL x.tape fS fE fV nl)).length + 32 - 1) / 32) ≤ 126 ∨ x.jch = false ∨ ¬ x.cutLeft = 0) : Met l ⟨"SeriesVault", "series", "()I"⟩ [Cond.code ⟨"SeriesVault", "series", "()I"⟩ prog_1_method_23_code 3 (some FieldType.int)] { frames := 7, cells := 32 + 6 * (x.jcap - x.jN), slots := 930 + 12 * (x.jcap - x.jN), locals := 158 } (pC D dA [.ref h] (VW dA h ad x) sz) (va_Qi (fun (r9 : Int32) (u9 : VS) => r9 = nI x.nser ∧ (∃ (pl1 : va_W) (mp : Nat) (ja : Nat → Nat), (∀ c, c ∈ x.pl → c ∈ pl1) ∧ isSer dA pl1 mp (srtL x.tape fS fE fV nl) ∧ u9 = (((x.sbS nl fS fE fV pl1).wrF ja 0 x.nser (1 + ((joinT (srtL x.tape fS fE fV nl)).length + 32 - 1) / 32) 0 0).anS mp).ft0)) (fun (u9 : VS) t9 => bW D (va_A (VW dA h ad x) sz) (VW dA h ad u9) t9) (va_A (VW dA h ad x) sz)) (32 + 6 * (x.jcap - x.jN)) (930 + 12 * (x.jcap - x.jN)) (va_A (VW dA h ad x) sz) := by
  refine mkC (y := ⟨"SeriesVault", "series", "()I"⟩) (cc := prog_1_method_23_code) (maxL := 3) (av := [.ref h]) (ws := VW dA h ad x) (sz := sz) (Qc := fun A => va_Qi (fun (r9 : Int32) (u9 : VS) => r9 = nI x.nser ∧ (∃ (pl1 : va_W) (mp : Nat) (ja : Nat → Nat), (∀ c, c ∈ x.pl → c ∈ pl1) ∧ isSer dA pl1 mp (srtL x.tape fS fE fV nl) ∧ u9 = (((x.sbS nl fS fE fV pl1).wrF ja 0 x.nser (1 + ((joinT (srtL x.tape fS fE fV nl)).length + 32 - 1) / 32) 0 0).anS mp).ft0)) (fun (u9 : VS) t9 => bW D A (VW dA h ad u9) t9) A) (by decide) (Nat.le_of_ble_eq_true rfl) ?_
  intro A p e s m below meth c ls hsz hB
  obtain ⟨hx, hb, hr, hml, hown, hin, hlk, hE, hK, hP, hD, hS, hA, hN, hl⟩ := hB
  have hown : s.vm.findClass "SeriesVault" = some m.cls := hown
  have hl : lv_has ls 3 [(0, .ref h)] := hl
  obtain ⟨H, hH⟩ : ∃ z, z = s.heap := ⟨_, rfl⟩
  have hP : va_P D vwCl (VW dA h ad x) H := by rw [hH]; exact hP
  have hS : va_S A s.heap H [] := by rw [hH]; exact hS
  rw [← hH]
  refine lv_aload_n hx hb d_V_series_0 rfl (lv_at hl 0 rfl) ?_
  refine jkV (wr := []) (rnV (As := []) (rest := []) hx hb hml hown hE hK (hN _ _ hS) hP hD (v_checkPower l D dA H.size h ad x ho) (q0 := 0) rfl rfl w278 w276 w279 w280 w277 rfl rfl ⟨⟨by decide, by decide⟩, rfl⟩ ⟨(Nat.le_of_ble_eq_true rfl), (Nat.le_of_ble_eq_true rfl)⟩ rfl hl.1 rfl (Nat.le_of_ble_eq_true rfl) d_V_series_1 ⟨(show 0 + 0 ≤ 32 + 6 * (x.jcap - x.jN) by omega), (show 0 + 0 ≤ 930 + 12 * (x.jcap - x.jN) by omega)⟩) hP hD hS hA (fun u2 H locs hp9 hP hD hS => ?_)
  have hP : va_P D vwCl (VW dA h ad x) H := hP
  have hD : va_D A (VW dA h ad x) := hD
  refine lv_aload_n hx hb d_V_series_4 rfl (lv_at hl 0 rfl) ?_
  refine gF (v := .ref (ad 18)) hx hb hown hE hK hP 0 rfl rfl layV 14 (by decide) w608 rfl d_V_series_5 ?_
  refine lv_aload_n hx hb d_V_series_8 rfl (lv_at hl 0 rfl) ?_
  refine gF (v := .ref x.tpA) hx hb hown hE hK hP 0 rfl rfl layV 0 (by decide) w539 rfl d_V_series_9 ?_
  refine lv_aload_n hx hb d_V_series_12 rfl (lv_at hl 0 rfl) ?_
  refine gF (v := .int (nI x.tapeLength)) hx hb hown hE hK hP 0 rfl rfl layV 1 (by decide) w259 rfl d_V_series_13 ?_
  refine jkI (wr := []) (rnV (As := [.ref x.tpA, .int (nI x.tapeLength)]) (rest := []) hx hb hml hown hE hK (hN _ _ hS) hP hD (v_read l D dA H.size h ad x x.tapeLength htl h3) (q0 := 32) rfl rfl w610 w609 w611 w612 w596 rfl rfl ⟨⟨by decide, by decide⟩, rfl⟩ ⟨(Nat.le_of_ble_eq_true rfl), (Nat.le_of_ble_eq_true rfl)⟩ rfl hl.1 rfl (Nat.le_of_ble_eq_true rfl) d_V_series_16 ⟨(show 0 + 0 + 0 ≤ 32 + 6 * (x.jcap - x.jN) by omega), (show 0 + 0 + 0 ≤ 930 + 12 * (x.jcap - x.jN) by omega)⟩) hP hD hS hA (fun r3 u4 H locs hp9 hP hD hS => ?_)
  obtain ⟨y5, h9u⟩ : ∃ z9, z9 = u4 := ⟨_, rfl⟩
  subst h9u
  have hP : va_P D vwCl (VW dA h ad y5) H := hP
  have hD : va_D A (VW dA h ad y5) := hD
  have f_r_6 := hp9
  obtain ⟨hlb, hl6, hl0, e9, ey⟩ := rd_inr hrd f_r_6
  subst e9
  subst ey
  have hP : va_P D vwCl (VW dA h ad (VS.s_rlab (VS.s_rV (VS.s_rE (VS.s_rS x fS) fE) fV) nl)) H := hP
  have hD : va_D A (VW dA h ad (VS.s_rlab (VS.s_rV (VS.s_rE (VS.s_rS x fS) fE) fV) nl)) := hD
  refine lv_if_ne hx hb d_V_series_19 (tgt := 47) rfl (fun _ => ?_) (fun h9 => absurd h9 (by decide))
  refine lv_aload_n hx hb d_V_series_47 rfl (lv_at hl 0 rfl) ?_
  refine gF (v := .ref (ad 18)) hx hb hown hE hK hP 0 rfl rfl layV 14 (by decide) w608 rfl d_V_series_48 ?_
  refine lv_aload_n hx hb d_V_series_51 rfl (lv_at hl 0 rfl) ?_
  refine gF (v := .ref x.tpA) hx hb hown hE hK hP 0 rfl rfl layV 0 (by decide) w539 rfl d_V_series_52 ?_
  refine jkR (wr := []) (rnV (As := [.ref x.tpA]) (rest := []) hx hb hml hown hE hK (hN _ _ hS) hP hD (v_made l D dA H.size h ad (VS.s_rlab (VS.s_rV (VS.s_rE (VS.s_rS x fS) fE) fV) nl) x.tapeLength hby htl h3 hl6 hlb) (q0 := 32) rfl rfl w1735 w1734 w1736 w1737 w596 rfl rfl ⟨⟨by decide, by decide⟩, rfl⟩ ⟨(Nat.le_of_ble_eq_true rfl), (Nat.le_of_ble_eq_true rfl)⟩ rfl hl.1 rfl (Nat.le_of_ble_eq_true rfl) d_V_series_55 ⟨(show 0 + 0 + 0 + 32 ≤ 32 + 6 * (x.jcap - x.jN) by omega), (show 0 + 0 + 0 + 930 ≤ 930 + 12 * (x.jcap - x.jN) by omega)⟩) hP hD hS hA (fun u7 mp H locs hp9 hP hD hS => ?_)
  obtain ⟨y8, h9u⟩ : ∃ z9, z9 = u7 := ⟨_, rfl⟩
  subst h9u
  have hP : va_P D vwCl (VW dA h ad y8) H := hP
  have hD : va_D A (VW dA h ad y8) := hD
  obtain ⟨f_k_9, f_w_10⟩ := hp9
  obtain ⟨hy, hsub⟩ := f_k_9
  have hsr := f_w_10
  obtain ⟨pl1, epl⟩ : ∃ z, z = y8.pl := ⟨_, rfl⟩
  rw [← epl] at hy hsub hsr
  subst hy
  have hP : va_P D vwCl (VW dA h ad (VS.s_pl (VS.s_rlab (VS.s_rV (VS.s_rE (VS.s_rS x fS) fE) fV) nl) pl1)) H := hP
  have hD : va_D A (VW dA h ad (VS.s_pl (VS.s_rlab (VS.s_rV (VS.s_rE (VS.s_rS x fS) fE) fV) nl) pl1)) := hD
  have hso : serOk (srtL x.tape fS fE fV nl) := srt_sOk hlb hl6
  have hkn1 := knOk_m hsub hkn
  refine lv_astore_n hx hb d_V_series_58 rfl hl (by decide) rfl (fun ls hl => ?_)
  have hl : lv_has ls 3 [(1, .ref mp), (0, .ref h)] := hl
  refine lv_aload_n hx hb d_V_series_59 rfl (lv_at hl 1 rfl) ?_
  refine lv_aload_n hx hb d_V_series_60 rfl (lv_at hl 0 rfl) ?_
  refine jkI (wr := []) (rnV (As := [.ref mp]) (rest := []) hx hb hml hown hE hK (hN _ _ hS) hP hD (v_numberOf l D dA H.size h ad (VS.s_pl (VS.s_rlab (VS.s_rV (VS.s_rE (VS.s_rS x fS) fE) fV) nl) pl1) SS mp (srtL x.tape fS fE fV nl) hkn1 (show x.nser ≤ 256 from by omega) hsr hso) (q0 := 0) rfl rfl w1739 w1738 w1740 w1741 w277 rfl rfl ⟨⟨by decide, by decide⟩, rfl⟩ ⟨(Nat.le_of_ble_eq_true rfl), (Nat.le_of_ble_eq_true rfl)⟩ rfl hl.1 rfl (Nat.le_of_ble_eq_true rfl) d_V_series_61 ⟨(show 0 + 0 + 0 + 32 + 0 ≤ 32 + 6 * (x.jcap - x.jN) by omega), (show 0 + 0 + 0 + 930 + 0 ≤ 930 + 12 * (x.jcap - x.jN) by omega)⟩) hP hD hS hA (fun r11 u12 H locs hp9 hP hD hS => ?_)
  have hP : va_P D vwCl (VW dA h ad (VS.s_pl (VS.s_rlab (VS.s_rV (VS.s_rE (VS.s_rS x fS) fE) fV) nl) pl1)) H := hP
  have hD : va_D A (VW dA h ad (VS.s_pl (VS.s_rlab (VS.s_rV (VS.s_rE (VS.s_rS x fS) fE) fV) nl) pl1)) := hD
  replace hp9 : nI (nuN SS (srtL x.tape fS fE fV nl) x.nser) = r11 := Eq.symm hp9
  subst hp9
  refine tpi (y := nI x.nser) (by rw [hnu]) ?_
  refine lv_istore_n hx hb d_V_series_64 rfl hl (by decide) rfl (fun ls hl => ?_)
  have hl : lv_has ls 3 [(2, .int (nI x.nser)), (1, .ref mp), (0, .ref h)] := hl
  refine lv_iload_n hx hb d_V_series_65 rfl (lv_at hl 0 rfl) ?_
  refine lv_aload_n hx hb d_V_series_66 rfl (lv_at hl 2 rfl) ?_
  refine gF (v := .ref (ad 3)) hx hb hown hE hK hP 0 rfl rfl layV 11 (by decide) w297 rfl d_V_series_67 ?_
  refine gFN (v := .int (nI x.nser)) hx hb hown hE hK hP 17 rfl rfl layH 8 (by decide) w298 rfl d_V_series_70 ?_
  refine lv_icmp_ne hx hb d_V_series_73 (tgt := 81) rfl (fun g13 => ?_) (fun g13 => ?_)
  · have g13 := mt (nI_eq (a := x.nser) (b := x.nser) (by omega) (by omega)).mpr g13; exfalso; omega
  have g13 := (nI_eq (a := x.nser) (b := x.nser) (by omega) (by omega)).mp g13
  refine lv_aload_n hx hb d_V_series_76 rfl (lv_at hl 2 rfl) ?_
  refine lv_aload_n hx hb d_V_series_77 rfl (lv_at hl 1 rfl) ?_
  refine jkV (wr := []) (rnV (As := [.ref mp]) (rest := []) hx hb hml hown hE hK (hN _ _ hS) hP hD (v_addNewSeries l D dA H.size h ad (VS.s_pl (VS.s_rlab (VS.s_rV (VS.s_rE (VS.s_rS x fS) fE) fV) nl) pl1) mp (srtL x.tape fS fE fV nl) hsr hso (show x.jblock + 1 < 2 ^ 31 from by omega) (show x.jlimit < 2 ^ 31 from by omega) (show x.jfill ≤ 126 from by omega) (show x.jsize ≤ x.jN from by omega) (show 0 < x.jN from by omega) (show x.jN ≤ 65536 from by omega) (show x.nser < 256 from by omega) hro hcr) (q0 := 0) rfl rfl w1743 w1742 w1744 w1745 w277 rfl rfl ⟨⟨by decide, by decide⟩, rfl⟩ ⟨(Nat.le_of_ble_eq_true rfl), (Nat.le_of_ble_eq_true rfl)⟩ rfl hl.1 rfl (Nat.le_of_ble_eq_true rfl) d_V_series_78 ⟨(show 0 + 0 + 0 + 32 + 0 + (6 * (x.jcap - x.jN)) ≤ 32 + 6 * (x.jcap - x.jN) by omega), (show 0 + 0 + 0 + 930 + 0 + (12 * (x.jcap - x.jN)) ≤ 930 + 12 * (x.jcap - x.jN) by omega)⟩) hP hD hS hA (fun u15 H locs hp9 hP hD hS => ?_)
  obtain ⟨y16, h9u⟩ : ∃ z9, z9 = u15 := ⟨_, rfl⟩
  subst h9u
  have hP : va_P D vwCl (VW dA h ad y16) H := hP
  have hD : va_D A (VW dA h ad y16) := hD
  have f_e_17 := hp9
  obtain ⟨ja, eja⟩ := f_e_17
  refine lv_aload_n hx hb d_V_series_81 rfl (lv_at hl 2 rfl) ?_
  refine lv_iconst (v := 0) hx hb d_V_series_82 (by decide) ?_
  refine pF (v := .int (nI 0)) hx hb hown hE hK hP hD hS 0 rfl rfl layV tyV tokV nmV 1 (by decide) w259 rfl rfl rfl (Nat.le_of_ble_eq_true rfl) d_V_series_83 (fun H locs hP hD hS => ?_)
  have hP : va_P D vwCl (VW dA h ad (VS.s_tapeLength y16 0)) H := hP
  have hD : va_D A (VW dA h ad (VS.s_tapeLength y16 0)) := hD
  refine lv_aload_n hx hb d_V_series_86 rfl (lv_at hl 2 rfl) ?_
  refine lv_iconst (v := 0) hx hb d_V_series_87 (by decide) ?_
  refine lv_iconst (v := 0) hx hb d_V_series_88 (by decide) ?_
  refine jkV (wr := []) (rnV (As := [.int 0, .int 0]) (rest := []) hx hb hml hown hE hK (hN _ _ hS) hP hD (v_setFault l D dA H.size h ad (VS.s_tapeLength y16 0) 0 0) (q0 := 0) rfl rfl w616 w615 w617 w618 w277 rfl rfl ⟨⟨by decide, by decide⟩, rfl⟩ ⟨(Nat.le_of_ble_eq_true rfl), (Nat.le_of_ble_eq_true rfl)⟩ rfl hl.1 rfl (Nat.le_of_ble_eq_true rfl) d_V_series_89 ⟨(show 0 + 0 + 0 + 32 + 0 + (6 * (x.jcap - x.jN)) + 0 ≤ 32 + 6 * (x.jcap - x.jN) by omega), (show 0 + 0 + 0 + 930 + 0 + (12 * (x.jcap - x.jN)) + 0 ≤ 930 + 12 * (x.jcap - x.jN) by omega)⟩) hP hD hS hA (fun u19 H locs hp9 hP hD hS => ?_)
  have hP : va_P D vwCl (VW dA h ad (VS.s_faultPlace (VS.s_faultCode (VS.s_tapeLength y16 0) 0) 0)) H := hP
  have hD : va_D A (VW dA h ad (VS.s_faultPlace (VS.s_faultCode (VS.s_tapeLength y16 0) 0) 0)) := hD
  refine lv_iload_n hx hb d_V_series_92 rfl (lv_at hl 0 rfl) ?_
  exact rfI hx hb hr hlk hS (VS.s_faultPlace (VS.s_faultCode (VS.s_tapeLength y16 0) 0) 0) ⟨rfl, pl1, mp, ja, hsub, hsr, by rw [eja]; rfl⟩ hP hD (show 0 + 0 + 0 + 32 + 0 + (6 * (x.jcap - x.jN)) + 0 ≤ 32 + 6 * (x.jcap - x.jN) by omega) (show 0 + 0 + 0 + 930 + 0 + (12 * (x.jcap - x.jN)) + 0 ≤ 930 + 12 * (x.jcap - x.jN) by omega) d_V_series_93
set_option maxHeartbeats 4000000 in
set_option maxRecDepth 100000 in
theorem v_series_u (l : Launch) (htr : l.stackTraces = false) (D : va_G) (dA : Nat → ClassId) (sz : Nat) (h : Nat) (ad : Nat → Nat) (x : VS) (SS : Nat → List LB) (nl : Nat) (fS : Nat → Nat) (fE : Nat → Nat) (fV : Nat → Nat) (ho : x.powered = true) (hby : byteF x.tape) (htl : x.tapeLength ≤ x.tpN) (h3 : x.tpN ≤ 131072) (hkn : knOk dA x.kn x.nser x.pl SS) (hn : x.nser ≤ 256) (hrd : rdC x.tape x.tapeLength 7 0 0 x.rS x.rE x.rV = .inr (nl, fS, fE, fV)) (hnu : nuN SS (srtL x.tape fS fE fV nl) x.nser = x.nser) (hbu : x.jblock + 1 < 2 ^ 31) (hlu : x.jlimit < 2 ^ 31) (hfl : x.jfill ≤ 126) (hro : x.nser < 256 → x.room (1 + ((joinT (srtL x.tape fS fE fV nl)).length + 32 - 1) / 32) = false) : mX l ⟨"SeriesVault", "series", "()I"⟩ [Cond.code ⟨"SeriesVault", "series", "()I"⟩ prog_1_method_23_code 3 (some FieldType.int)] { frames := 7, cells := 33, slots := 936, locals := 158 } (pC D dA [.ref h] (VW dA h ad x) sz) "java/lang/UnsupportedOperationException" (fun st9 t9 => va_F (va_A (VW dA h ad x) sz) st9 t9 ∧ ∃ u9 : VS, ((∃ pl1 : va_W, (∀ c, c ∈ x.pl → c ∈ pl1) ∧ u9 = x.sbS nl fS fE fV pl1)) ∧ bW D (va_A (VW dA h ad x) sz) (VW dA h ad u9) t9) 33 936 (va_A (VW dA h ad x) sz) := by
  refine mkX (y := ⟨"SeriesVault", "series", "()I"⟩) (cc := prog_1_method_23_code) (maxL := 3) (av := [.ref h]) (ws := VW dA h ad x) (sz := sz) (B := fun A => (fun st9 t9 => va_F A st9 t9 ∧ ∃ u9 : VS, ((∃ pl1 : va_W, (∀ c, c ∈ x.pl → c ∈ pl1) ∧ u9 = x.sbS nl fS fE fV pl1)) ∧ bW D A (VW dA h ad u9) t9)) (by decide) (Nat.le_of_ble_eq_true rfl) ?_
  intro A p e s m below meth c ls hsz hno hB
  obtain ⟨hx, hb, hr, hml, hown, hin, hlk, hE, hK, hP, hD, hS, hA, hN, hl⟩ := hB
  have hown : s.vm.findClass "SeriesVault" = some m.cls := hown
  have hl : lv_has ls 3 [(0, .ref h)] := hl
  obtain ⟨H, hH⟩ : ∃ z, z = s.heap := ⟨_, rfl⟩
  have hP : va_P D vwCl (VW dA h ad x) H := by rw [hH]; exact hP
  have hS : va_S A s.heap H [] := by rw [hH]; exact hS
  rw [← hH]
  refine lv_aload_n hx hb d_V_series_0 rfl (lv_at hl 0 rfl) ?_
  refine jkV (wr := []) (rnV (As := []) (rest := []) hx hb hml hown hE hK (hN _ _ hS) hP hD (v_checkPower l D dA H.size h ad x ho) (q0 := 0) rfl rfl w278 w276 w279 w280 w277 rfl rfl ⟨⟨by decide, by decide⟩, rfl⟩ ⟨(Nat.le_of_ble_eq_true rfl), (Nat.le_of_ble_eq_true rfl)⟩ rfl hl.1 rfl (Nat.le_of_ble_eq_true rfl) d_V_series_1 ⟨(show 0 + 0 ≤ 33 by omega), (show 0 + 0 ≤ 936 by omega)⟩) hP hD hS hA (fun u2 H locs hp9 hP hD hS => ?_)
  have hP : va_P D vwCl (VW dA h ad x) H := hP
  have hD : va_D A (VW dA h ad x) := hD
  refine lv_aload_n hx hb d_V_series_4 rfl (lv_at hl 0 rfl) ?_
  refine gF (v := .ref (ad 18)) hx hb hown hE hK hP 0 rfl rfl layV 14 (by decide) w608 rfl d_V_series_5 ?_
  refine lv_aload_n hx hb d_V_series_8 rfl (lv_at hl 0 rfl) ?_
  refine gF (v := .ref x.tpA) hx hb hown hE hK hP 0 rfl rfl layV 0 (by decide) w539 rfl d_V_series_9 ?_
  refine lv_aload_n hx hb d_V_series_12 rfl (lv_at hl 0 rfl) ?_
  refine gF (v := .int (nI x.tapeLength)) hx hb hown hE hK hP 0 rfl rfl layV 1 (by decide) w259 rfl d_V_series_13 ?_
  refine jkI (wr := []) (rnV (As := [.ref x.tpA, .int (nI x.tapeLength)]) (rest := []) hx hb hml hown hE hK (hN _ _ hS) hP hD (v_read l D dA H.size h ad x x.tapeLength htl h3) (q0 := 32) rfl rfl w610 w609 w611 w612 w596 rfl rfl ⟨⟨by decide, by decide⟩, rfl⟩ ⟨(Nat.le_of_ble_eq_true rfl), (Nat.le_of_ble_eq_true rfl)⟩ rfl hl.1 rfl (Nat.le_of_ble_eq_true rfl) d_V_series_16 ⟨(show 0 + 0 + 0 ≤ 33 by omega), (show 0 + 0 + 0 ≤ 936 by omega)⟩) hP hD hS hA (fun r3 u4 H locs hp9 hP hD hS => ?_)
  obtain ⟨y5, h9u⟩ : ∃ z9, z9 = u4 := ⟨_, rfl⟩
  subst h9u
  have hP : va_P D vwCl (VW dA h ad y5) H := hP
  have hD : va_D A (VW dA h ad y5) := hD
  have f_r_6 := hp9
  obtain ⟨hlb, hl6, hl0, e9, ey⟩ := rd_inr hrd f_r_6
  subst e9
  subst ey
  have hP : va_P D vwCl (VW dA h ad (VS.s_rlab (VS.s_rV (VS.s_rE (VS.s_rS x fS) fE) fV) nl)) H := hP
  have hD : va_D A (VW dA h ad (VS.s_rlab (VS.s_rV (VS.s_rE (VS.s_rS x fS) fE) fV) nl)) := hD
  refine lv_if_ne hx hb d_V_series_19 (tgt := 47) rfl (fun _ => ?_) (fun h9 => absurd h9 (by decide))
  refine lv_aload_n hx hb d_V_series_47 rfl (lv_at hl 0 rfl) ?_
  refine gF (v := .ref (ad 18)) hx hb hown hE hK hP 0 rfl rfl layV 14 (by decide) w608 rfl d_V_series_48 ?_
  refine lv_aload_n hx hb d_V_series_51 rfl (lv_at hl 0 rfl) ?_
  refine gF (v := .ref x.tpA) hx hb hown hE hK hP 0 rfl rfl layV 0 (by decide) w539 rfl d_V_series_52 ?_
  refine jkR (wr := []) (rnV (As := [.ref x.tpA]) (rest := []) hx hb hml hown hE hK (hN _ _ hS) hP hD (v_made l D dA H.size h ad (VS.s_rlab (VS.s_rV (VS.s_rE (VS.s_rS x fS) fE) fV) nl) x.tapeLength hby htl h3 hl6 hlb) (q0 := 32) rfl rfl w1735 w1734 w1736 w1737 w596 rfl rfl ⟨⟨by decide, by decide⟩, rfl⟩ ⟨(Nat.le_of_ble_eq_true rfl), (Nat.le_of_ble_eq_true rfl)⟩ rfl hl.1 rfl (Nat.le_of_ble_eq_true rfl) d_V_series_55 ⟨(show 0 + 0 + 0 + 32 ≤ 33 by omega), (show 0 + 0 + 0 + 930 ≤ 936 by omega)⟩) hP hD hS hA (fun u7 mp H locs hp9 hP hD hS => ?_)
  obtain ⟨y8, h9u⟩ : ∃ z9, z9 = u7 := ⟨_, rfl⟩
  subst h9u
  have hP : va_P D vwCl (VW dA h ad y8) H := hP
  have hD : va_D A (VW dA h ad y8) := hD
  obtain ⟨f_k_9, f_w_10⟩ := hp9
  obtain ⟨hy, hsub⟩ := f_k_9
  have hsr := f_w_10
  obtain ⟨pl1, epl⟩ : ∃ z, z = y8.pl := ⟨_, rfl⟩
  rw [← epl] at hy hsub hsr
  subst hy
  have hP : va_P D vwCl (VW dA h ad (VS.s_pl (VS.s_rlab (VS.s_rV (VS.s_rE (VS.s_rS x fS) fE) fV) nl) pl1)) H := hP
  have hD : va_D A (VW dA h ad (VS.s_pl (VS.s_rlab (VS.s_rV (VS.s_rE (VS.s_rS x fS) fE) fV) nl) pl1)) := hD
  have hso : serOk (srtL x.tape fS fE fV nl) := srt_sOk hlb hl6
  have hkn1 := knOk_m hsub hkn
  refine lv_astore_n hx hb d_V_series_58 rfl hl (by decide) rfl (fun ls hl => ?_)
  have hl : lv_has ls 3 [(1, .ref mp), (0, .ref h)] := hl
  refine lv_aload_n hx hb d_V_series_59 rfl (lv_at hl 1 rfl) ?_
  refine lv_aload_n hx hb d_V_series_60 rfl (lv_at hl 0 rfl) ?_
  refine jkI (wr := []) (rnV (As := [.ref mp]) (rest := []) hx hb hml hown hE hK (hN _ _ hS) hP hD (v_numberOf l D dA H.size h ad (VS.s_pl (VS.s_rlab (VS.s_rV (VS.s_rE (VS.s_rS x fS) fE) fV) nl) pl1) SS mp (srtL x.tape fS fE fV nl) hkn1 (show x.nser ≤ 256 from by omega) hsr hso) (q0 := 0) rfl rfl w1739 w1738 w1740 w1741 w277 rfl rfl ⟨⟨by decide, by decide⟩, rfl⟩ ⟨(Nat.le_of_ble_eq_true rfl), (Nat.le_of_ble_eq_true rfl)⟩ rfl hl.1 rfl (Nat.le_of_ble_eq_true rfl) d_V_series_61 ⟨(show 0 + 0 + 0 + 32 + 0 ≤ 33 by omega), (show 0 + 0 + 0 + 930 + 0 ≤ 936 by omega)⟩) hP hD hS hA (fun r11 u12 H locs hp9 hP hD hS => ?_)
  have hP : va_P D vwCl (VW dA h ad (VS.s_pl (VS.s_rlab (VS.s_rV (VS.s_rE (VS.s_rS x fS) fE) fV) nl) pl1)) H := hP
  have hD : va_D A (VW dA h ad (VS.s_pl (VS.s_rlab (VS.s_rV (VS.s_rE (VS.s_rS x fS) fE) fV) nl) pl1)) := hD
  replace hp9 : nI (nuN SS (srtL x.tape fS fE fV nl) x.nser) = r11 := Eq.symm hp9
  subst hp9
  refine tpi (y := nI x.nser) (by rw [hnu]) ?_
  refine lv_istore_n hx hb d_V_series_64 rfl hl (by decide) rfl (fun ls hl => ?_)
  have hl : lv_has ls 3 [(2, .int (nI x.nser)), (1, .ref mp), (0, .ref h)] := hl
  refine lv_iload_n hx hb d_V_series_65 rfl (lv_at hl 0 rfl) ?_
  refine lv_aload_n hx hb d_V_series_66 rfl (lv_at hl 2 rfl) ?_
  refine gF (v := .ref (ad 3)) hx hb hown hE hK hP 0 rfl rfl layV 11 (by decide) w297 rfl d_V_series_67 ?_
  refine gFN (v := .int (nI x.nser)) hx hb hown hE hK hP 17 rfl rfl layH 8 (by decide) w298 rfl d_V_series_70 ?_
  refine lv_icmp_ne hx hb d_V_series_73 (tgt := 81) rfl (fun g13 => ?_) (fun g13 => ?_)
  · have g13 := mt (nI_eq (a := x.nser) (b := x.nser) (by omega) (by omega)).mpr g13; exfalso; omega
  have g13 := (nI_eq (a := x.nser) (b := x.nser) (by omega) (by omega)).mp g13
  refine lv_aload_n hx hb d_V_series_76 rfl (lv_at hl 2 rfl) ?_
  refine lv_aload_n hx hb d_V_series_77 rfl (lv_at hl 1 rfl) ?_
  refine xkV (wr := []) (As := [.ref mp]) (rest := []) hx hb hml hown hE hK (hN _ _ hS) (v_addNewSeries_u l htr D dA H.size h ad (VS.s_pl (VS.s_rlab (VS.s_rV (VS.s_rE (VS.s_rS x fS) fE) fV) nl) pl1) mp (srtL x.tape fS fE fV nl) hsr hso (show x.jblock + 1 < 2 ^ 31 from by omega) (show x.jlimit < 2 ^ 31 from by omega) (show x.jfill ≤ 126 from by omega) (show x.nser ≤ 256 from by omega) hro) (q0 := 0) rfl rfl w1743 w1742 w1744 w1745 w277 rfl rfl ⟨⟨by decide, by decide⟩, rfl⟩ ⟨(Nat.le_of_ble_eq_true rfl), (Nat.le_of_ble_eq_true rfl)⟩ rfl hl.1 rfl (Nat.le_of_ble_eq_true rfl) d_V_series_78 ⟨(show 0 + 0 + 0 + 32 + 0 + 1 ≤ 33 by omega), (show 0 + 0 + 0 + 930 + 0 + 6 ≤ 936 by omega)⟩ hP hD hS hA (fun u15 xa14 ce H locs hp9 hP hD hS hce hcv hcl => ?_)
  have hP : va_P D vwCl (VW dA h ad (VS.s_pl (VS.s_rlab (VS.s_rV (VS.s_rE (VS.s_rS x fS) fE) fV) nl) pl1)) H := hP
  have hD : va_D A (VW dA h ad (VS.s_pl (VS.s_rlab (VS.s_rV (VS.s_rE (VS.s_rS x fS) fE) fV) nl) pl1)) := hD
  exact xOut hno hlk hce hcv hcl (fun t ht => xkE (VS.s_pl (VS.s_rlab (VS.s_rV (VS.s_rE (VS.s_rS x fS) fE) fV) nl) pl1) ⟨pl1, hsub, rfl⟩ hP hD hS t (by rw [ht]; exact Nat.le_refl _) (fun q _ => by rw [ht])) hS.2.2 (show 0 + 0 + 0 + 32 + 0 + 1 ≤ 33 by omega) (show 0 + 0 + 0 + 930 + 0 + 6 ≤ 936 by omega)
set_option maxHeartbeats 4000000 in
set_option maxRecDepth 100000 in
theorem v_series_i (l : Launch) (htr : l.stackTraces = false) (D : va_G) (dA : Nat → ClassId) (sz : Nat) (h : Nat) (ad : Nat → Nat) (x : VS) (SS : Nat → List LB) (nl : Nat) (fS : Nat → Nat) (fE : Nat → Nat) (fV : Nat → Nat) (ho : x.powered = true) (hby : byteF x.tape) (htl : x.tapeLength ≤ x.tpN) (h3 : x.tpN ≤ 131072) (hkn : knOk dA x.kn x.nser x.pl SS) (hn : x.nser ≤ 256) (hrd : rdC x.tape x.tapeLength 7 0 0 x.rS x.rE x.rV = .inr (nl, fS, fE, fV)) (hnu : nuN SS (srtL x.tape fS fE fV nl) x.nser = x.nser) (hbu : x.jblock + 1 < 2 ^ 31) (hlu : x.jlimit < 2 ^ 31) (hfl : x.jfill ≤ 126) (hx0 : x.nser < 256) (hro : x.room (1 + ((joinT (srtL x.tape fS fE fV nl)).length + 32 - 1) / 32) = true) (c1 : 126 < x.jfill + (1 + ((joinT (srtL x.tape fS fE fV nl)).length + 32 - 1) / 32)) (hc2 : x.jch = true) (hc : x.cutLeft = 0) : mX l ⟨"SeriesVault", "series", "()I"⟩ [Cond.code ⟨"SeriesVault", "series", "()I"⟩ prog_1_method_23_code 3 (some FieldType.int)] { frames := 10, cells := 33, slots := 936, locals := 170 } (pC D dA [.ref h] (VW dA h ad x) sz) "java/lang/IllegalStateException" (fun st9 t9 => va_F (va_A (VW dA h ad x) sz) st9 t9 ∧ ∃ u9 : VS, ((∃ pl1 : va_W, (∀ c, c ∈ x.pl → c ∈ pl1) ∧ u9 = (x.sbS nl fS fE fV pl1).off1)) ∧ bW D (va_A (VW dA h ad x) sz) (VW dA h ad u9) t9) 33 936 (va_A (VW dA h ad x) sz) := by
  refine mkX (y := ⟨"SeriesVault", "series", "()I"⟩) (cc := prog_1_method_23_code) (maxL := 3) (av := [.ref h]) (ws := VW dA h ad x) (sz := sz) (B := fun A => (fun st9 t9 => va_F A st9 t9 ∧ ∃ u9 : VS, ((∃ pl1 : va_W, (∀ c, c ∈ x.pl → c ∈ pl1) ∧ u9 = (x.sbS nl fS fE fV pl1).off1)) ∧ bW D A (VW dA h ad u9) t9)) (by decide) (Nat.le_of_ble_eq_true rfl) ?_
  intro A p e s m below meth c ls hsz hno hB
  obtain ⟨hx, hb, hr, hml, hown, hin, hlk, hE, hK, hP, hD, hS, hA, hN, hl⟩ := hB
  have hown : s.vm.findClass "SeriesVault" = some m.cls := hown
  have hl : lv_has ls 3 [(0, .ref h)] := hl
  obtain ⟨H, hH⟩ : ∃ z, z = s.heap := ⟨_, rfl⟩
  have hP : va_P D vwCl (VW dA h ad x) H := by rw [hH]; exact hP
  have hS : va_S A s.heap H [] := by rw [hH]; exact hS
  rw [← hH]
  refine lv_aload_n hx hb d_V_series_0 rfl (lv_at hl 0 rfl) ?_
  refine jkV (wr := []) (rnV (As := []) (rest := []) hx hb hml hown hE hK (hN _ _ hS) hP hD (v_checkPower l D dA H.size h ad x ho) (q0 := 0) rfl rfl w278 w276 w279 w280 w277 rfl rfl ⟨⟨by decide, by decide⟩, rfl⟩ ⟨(Nat.le_of_ble_eq_true rfl), (Nat.le_of_ble_eq_true rfl)⟩ rfl hl.1 rfl (Nat.le_of_ble_eq_true rfl) d_V_series_1 ⟨(show 0 + 0 ≤ 33 by omega), (show 0 + 0 ≤ 936 by omega)⟩) hP hD hS hA (fun u2 H locs hp9 hP hD hS => ?_)
  have hP : va_P D vwCl (VW dA h ad x) H := hP
  have hD : va_D A (VW dA h ad x) := hD
  refine lv_aload_n hx hb d_V_series_4 rfl (lv_at hl 0 rfl) ?_
  refine gF (v := .ref (ad 18)) hx hb hown hE hK hP 0 rfl rfl layV 14 (by decide) w608 rfl d_V_series_5 ?_
  refine lv_aload_n hx hb d_V_series_8 rfl (lv_at hl 0 rfl) ?_
  refine gF (v := .ref x.tpA) hx hb hown hE hK hP 0 rfl rfl layV 0 (by decide) w539 rfl d_V_series_9 ?_
  refine lv_aload_n hx hb d_V_series_12 rfl (lv_at hl 0 rfl) ?_
  refine gF (v := .int (nI x.tapeLength)) hx hb hown hE hK hP 0 rfl rfl layV 1 (by decide) w259 rfl d_V_series_13 ?_
  refine jkI (wr := []) (rnV (As := [.ref x.tpA, .int (nI x.tapeLength)]) (rest := []) hx hb hml hown hE hK (hN _ _ hS) hP hD (v_read l D dA H.size h ad x x.tapeLength htl h3) (q0 := 32) rfl rfl w610 w609 w611 w612 w596 rfl rfl ⟨⟨by decide, by decide⟩, rfl⟩ ⟨(Nat.le_of_ble_eq_true rfl), (Nat.le_of_ble_eq_true rfl)⟩ rfl hl.1 rfl (Nat.le_of_ble_eq_true rfl) d_V_series_16 ⟨(show 0 + 0 + 0 ≤ 33 by omega), (show 0 + 0 + 0 ≤ 936 by omega)⟩) hP hD hS hA (fun r3 u4 H locs hp9 hP hD hS => ?_)
  obtain ⟨y5, h9u⟩ : ∃ z9, z9 = u4 := ⟨_, rfl⟩
  subst h9u
  have hP : va_P D vwCl (VW dA h ad y5) H := hP
  have hD : va_D A (VW dA h ad y5) := hD
  have f_r_6 := hp9
  obtain ⟨hlb, hl6, hl0, e9, ey⟩ := rd_inr hrd f_r_6
  subst e9
  subst ey
  have hP : va_P D vwCl (VW dA h ad (VS.s_rlab (VS.s_rV (VS.s_rE (VS.s_rS x fS) fE) fV) nl)) H := hP
  have hD : va_D A (VW dA h ad (VS.s_rlab (VS.s_rV (VS.s_rE (VS.s_rS x fS) fE) fV) nl)) := hD
  refine lv_if_ne hx hb d_V_series_19 (tgt := 47) rfl (fun _ => ?_) (fun h9 => absurd h9 (by decide))
  refine lv_aload_n hx hb d_V_series_47 rfl (lv_at hl 0 rfl) ?_
  refine gF (v := .ref (ad 18)) hx hb hown hE hK hP 0 rfl rfl layV 14 (by decide) w608 rfl d_V_series_48 ?_
  refine lv_aload_n hx hb d_V_series_51 rfl (lv_at hl 0 rfl) ?_
  refine gF (v := .ref x.tpA) hx hb hown hE hK hP 0 rfl rfl layV 0 (by decide) w539 rfl d_V_series_52 ?_
  refine jkR (wr := []) (rnV (As := [.ref x.tpA]) (rest := []) hx hb hml hown hE hK (hN _ _ hS) hP hD (v_made l D dA H.size h ad (VS.s_rlab (VS.s_rV (VS.s_rE (VS.s_rS x fS) fE) fV) nl) x.tapeLength hby htl h3 hl6 hlb) (q0 := 32) rfl rfl w1735 w1734 w1736 w1737 w596 rfl rfl ⟨⟨by decide, by decide⟩, rfl⟩ ⟨(Nat.le_of_ble_eq_true rfl), (Nat.le_of_ble_eq_true rfl)⟩ rfl hl.1 rfl (Nat.le_of_ble_eq_true rfl) d_V_series_55 ⟨(show 0 + 0 + 0 + 32 ≤ 33 by omega), (show 0 + 0 + 0 + 930 ≤ 936 by omega)⟩) hP hD hS hA (fun u7 mp H locs hp9 hP hD hS => ?_)
  obtain ⟨y8, h9u⟩ : ∃ z9, z9 = u7 := ⟨_, rfl⟩
  subst h9u
  have hP : va_P D vwCl (VW dA h ad y8) H := hP
  have hD : va_D A (VW dA h ad y8) := hD
  obtain ⟨f_k_9, f_w_10⟩ := hp9
  obtain ⟨hy, hsub⟩ := f_k_9
  have hsr := f_w_10
  obtain ⟨pl1, epl⟩ : ∃ z, z = y8.pl := ⟨_, rfl⟩
  rw [← epl] at hy hsub hsr
  subst hy
  have hP : va_P D vwCl (VW dA h ad (VS.s_pl (VS.s_rlab (VS.s_rV (VS.s_rE (VS.s_rS x fS) fE) fV) nl) pl1)) H := hP
  have hD : va_D A (VW dA h ad (VS.s_pl (VS.s_rlab (VS.s_rV (VS.s_rE (VS.s_rS x fS) fE) fV) nl) pl1)) := hD
  have hso : serOk (srtL x.tape fS fE fV nl) := srt_sOk hlb hl6
  have hkn1 := knOk_m hsub hkn
  refine lv_astore_n hx hb d_V_series_58 rfl hl (by decide) rfl (fun ls hl => ?_)
  have hl : lv_has ls 3 [(1, .ref mp), (0, .ref h)] := hl
  refine lv_aload_n hx hb d_V_series_59 rfl (lv_at hl 1 rfl) ?_
  refine lv_aload_n hx hb d_V_series_60 rfl (lv_at hl 0 rfl) ?_
  refine jkI (wr := []) (rnV (As := [.ref mp]) (rest := []) hx hb hml hown hE hK (hN _ _ hS) hP hD (v_numberOf l D dA H.size h ad (VS.s_pl (VS.s_rlab (VS.s_rV (VS.s_rE (VS.s_rS x fS) fE) fV) nl) pl1) SS mp (srtL x.tape fS fE fV nl) hkn1 (show x.nser ≤ 256 from by omega) hsr hso) (q0 := 0) rfl rfl w1739 w1738 w1740 w1741 w277 rfl rfl ⟨⟨by decide, by decide⟩, rfl⟩ ⟨(Nat.le_of_ble_eq_true rfl), (Nat.le_of_ble_eq_true rfl)⟩ rfl hl.1 rfl (Nat.le_of_ble_eq_true rfl) d_V_series_61 ⟨(show 0 + 0 + 0 + 32 + 0 ≤ 33 by omega), (show 0 + 0 + 0 + 930 + 0 ≤ 936 by omega)⟩) hP hD hS hA (fun r11 u12 H locs hp9 hP hD hS => ?_)
  have hP : va_P D vwCl (VW dA h ad (VS.s_pl (VS.s_rlab (VS.s_rV (VS.s_rE (VS.s_rS x fS) fE) fV) nl) pl1)) H := hP
  have hD : va_D A (VW dA h ad (VS.s_pl (VS.s_rlab (VS.s_rV (VS.s_rE (VS.s_rS x fS) fE) fV) nl) pl1)) := hD
  replace hp9 : nI (nuN SS (srtL x.tape fS fE fV nl) x.nser) = r11 := Eq.symm hp9
  subst hp9
  refine tpi (y := nI x.nser) (by rw [hnu]) ?_
  refine lv_istore_n hx hb d_V_series_64 rfl hl (by decide) rfl (fun ls hl => ?_)
  have hl : lv_has ls 3 [(2, .int (nI x.nser)), (1, .ref mp), (0, .ref h)] := hl
  refine lv_iload_n hx hb d_V_series_65 rfl (lv_at hl 0 rfl) ?_
  refine lv_aload_n hx hb d_V_series_66 rfl (lv_at hl 2 rfl) ?_
  refine gF (v := .ref (ad 3)) hx hb hown hE hK hP 0 rfl rfl layV 11 (by decide) w297 rfl d_V_series_67 ?_
  refine gFN (v := .int (nI x.nser)) hx hb hown hE hK hP 17 rfl rfl layH 8 (by decide) w298 rfl d_V_series_70 ?_
  refine lv_icmp_ne hx hb d_V_series_73 (tgt := 81) rfl (fun g13 => ?_) (fun g13 => ?_)
  · have g13 := mt (nI_eq (a := x.nser) (b := x.nser) (by omega) (by omega)).mpr g13; exfalso; omega
  have g13 := (nI_eq (a := x.nser) (b := x.nser) (by omega) (by omega)).mp g13
  refine lv_aload_n hx hb d_V_series_76 rfl (lv_at hl 2 rfl) ?_
  refine lv_aload_n hx hb d_V_series_77 rfl (lv_at hl 1 rfl) ?_
  refine xkV (wr := []) (As := [.ref mp]) (rest := []) hx hb hml hown hE hK (hN _ _ hS) (v_addNewSeries_i l htr D dA H.size h ad (VS.s_pl (VS.s_rlab (VS.s_rV (VS.s_rE (VS.s_rS x fS) fE) fV) nl) pl1) mp (srtL x.tape fS fE fV nl) hsr hso (show x.jblock + 1 < 2 ^ 31 from by omega) (show x.jlimit < 2 ^ 31 from by omega) (show x.jfill ≤ 126 from by omega) (show x.nser < 256 from by omega) hro c1 hc2 hc) (q0 := 0) rfl rfl w1743 w1742 w1744 w1745 w277 rfl rfl ⟨⟨by decide, by decide⟩, rfl⟩ ⟨(Nat.le_of_ble_eq_true rfl), (Nat.le_of_ble_eq_true rfl)⟩ rfl hl.1 rfl (Nat.le_of_ble_eq_true rfl) d_V_series_78 ⟨(show 0 + 0 + 0 + 32 + 0 + 1 ≤ 33 by omega), (show 0 + 0 + 0 + 930 + 0 + 6 ≤ 936 by omega)⟩ hP hD hS hA (fun u15 xa14 ce H locs hp9 hP hD hS hce hcv hcl => ?_)
  have hP : va_P D vwCl (VW dA h ad (VS.s_pl (VS.s_rlab (VS.s_rV (VS.s_rE (VS.s_rS (VS.s_cutLeft (VS.s_powered x false) (-1)) fS) fE) fV) nl) pl1)) H := hP
  have hD : va_D A (VW dA h ad (VS.s_pl (VS.s_rlab (VS.s_rV (VS.s_rE (VS.s_rS (VS.s_cutLeft (VS.s_powered x false) (-1)) fS) fE) fV) nl) pl1)) := hD
  exact xOut hno hlk hce hcv hcl (fun t ht => xkE (VS.s_pl (VS.s_rlab (VS.s_rV (VS.s_rE (VS.s_rS (VS.s_cutLeft (VS.s_powered x false) (-1)) fS) fE) fV) nl) pl1) ⟨pl1, hsub, rfl⟩ hP hD hS t (by rw [ht]; exact Nat.le_refl _) (fun q _ => by rw [ht])) hS.2.2 (show 0 + 0 + 0 + 32 + 0 + 1 ≤ 33 by omega) (show 0 + 0 + 0 + 930 + 0 + 6 ≤ 936 by omega)
end
section
/-! Points in bulk. -/
def tmB (x : VS) (i : Nat) : Int64 := numB x.tape (i * 16) 8
def vlB (x : VS) (i : Nat) : Int64 := numB x.tape (i * 16 + 8) 8
/-- i points of the tape have come -/
def bkR (x : VS) (w : Nat) : Nat → VS → Prop
  | 0, z => z = VS.s_tapeLength x 0
  | i + 1, z => ∃ (y : VS) (ja pa : Nat → Nat), bkR x w i y ∧ y.may w (tmB x i) = true ∧ z = y.apF ja pa w (tmB x i) (vlB x i)
/-- what does not change, and the sizes -/
def bkI (x : VS) (i : Nat) (z : VS) : Prop := z.tape = x.tape ∧ z.tpN = x.tpN ∧ z.jlimit = x.jlimit ∧ z.jfill ≤ 126 ∧ z.jblock ≤ x.jblock + i ∧ z.jsize = x.jsize + i ∧ z.jN = capR x.jN x.jsize i ∧ z.jsize ≤ z.jN ∧ 0 < z.jN ∧ z.hsize = x.hsize + i ∧ z.hN = capR x.hN x.hsize i ∧ z.hsize ≤ z.hN ∧ 0 < z.hN
theorem jadF_b (x : VS) (ja : Nat → Nat) (kd w n : Nat) (a b : Int64) : (x.jadF ja kd w n a b).tape = x.tape ∧ (x.jadF ja kd w n a b).tpN = x.tpN ∧ (x.jadF ja kd w n a b).jlimit = x.jlimit ∧ (x.jadF ja kd w n a b).jfill = x.jfill + n ∧ (x.jadF ja kd w n a b).jblock = x.jblock ∧ (x.jadF ja kd w n a b).jsize = x.jsize + 1 ∧ (x.jadF ja kd w n a b).jN = x.jcap ∧ (x.jadF ja kd w n a b).hsize = x.hsize ∧ (x.jadF ja kd w n a b).hN = x.hN ∧ (x.jadF ja kd w n a b).nhor = x.nhor := by
  unfold VS.jadF VS.jcap
  split
  · exact ⟨rfl, rfl, rfl, rfl, rfl, rfl, rfl, rfl, rfl, rfl⟩
  · exact ⟨rfl, rfl, rfl, rfl, rfl, rfl, rfl, rfl, rfl, rfl⟩
theorem wrB_b (x : VS) (n : Nat) : (x.wrB n).tape = x.tape ∧ (x.wrB n).tpN = x.tpN ∧ (x.wrB n).jlimit = x.jlimit ∧ (x.wrB n).hsize = x.hsize ∧ (x.wrB n).hN = x.hN ∧ (x.wrB n).nhor = x.nhor ∧ ((x.wrB n).jfill = x.jfill ∧ x.jfill + n ≤ 126 ∧ (x.wrB n).jblock = x.jblock ∨ (x.wrB n).jfill = 0 ∧ (x.wrB n).jblock = x.jblock + 1) := by
  unfold VS.wrB VS.wjS
  split
  · next h => exact ⟨rfl, rfl, rfl, rfl, rfl, rfl, Or.inl ⟨rfl, h, rfl⟩⟩
  · split
    · exact ⟨rfl, rfl, rfl, rfl, rfl, rfl, Or.inr ⟨rfl, rfl⟩⟩
    · exact ⟨rfl, rfl, rfl, rfl, rfl, rfl, Or.inr ⟨rfl, rfl⟩⟩
theorem haF_b (x : VS) (pa : Nat → Nat) (w : Nat) (a b : Int64) : (x.haF pa w a b).tape = x.tape ∧ (x.haF pa w a b).tpN = x.tpN ∧ (x.haF pa w a b).jlimit = x.jlimit ∧ (x.haF pa w a b).jfill = x.jfill ∧ (x.haF pa w a b).jblock = x.jblock ∧ (x.haF pa w a b).jsize = x.jsize ∧ (x.haF pa w a b).jN = x.jN ∧ (x.haF pa w a b).hsize = x.hsize + 1 ∧ (x.haF pa w a b).hN = x.hcap := by
  unfold VS.haF VS.hcap
  split
  · exact ⟨rfl, rfl, rfl, rfl, rfl, rfl, rfl, rfl, rfl⟩
  · exact ⟨rfl, rfl, rfl, rfl, rfl, rfl, rfl, rfl, rfl⟩
theorem may_h {x : VS} {w : Nat} {a : Int64} (h : x.may w a = true) : ¬ a < x.nhor := by
  intro h2
  unfold VS.may at h
  rw [decide_eq_true h2] at h
  simp at h
/-- one more point -/
theorem apF_b (x : VS) (ja pa : Nat → Nat) (w : Nat) (a b : Int64) (hm : x.may w a = true) : (x.apF ja pa w a b).tape = x.tape ∧ (x.apF ja pa w a b).tpN = x.tpN ∧ (x.apF ja pa w a b).jlimit = x.jlimit ∧ (x.apF ja pa w a b).jfill ≤ 126 ∧ (x.apF ja pa w a b).jblock ≤ x.jblock + 1 ∧ (x.apF ja pa w a b).jsize = x.jsize + 1 ∧ (x.apF ja pa w a b).jN = x.jcap ∧ (x.apF ja pa w a b).hsize = x.hsize + 1 ∧ (x.apF ja pa w a b).hN = x.hcap := by
  obtain ⟨b1, b2, b3, b4, b5, b6, b7⟩ := wrB_b x 1
  obtain ⟨r1, r2, r3⟩ := wr_j x 1
  obtain ⟨a1, a2, a3, a4, a5, a6, a7, a8, a9, a10⟩ := jadF_b (x.wrB 1) ja 1 w 1 a b
  obtain ⟨y, ey⟩ : ∃ y, y = x.wrF ja 1 w 1 a b := ⟨_, rfl⟩
  have ey' : y = (x.wrB 1).jadF ja 1 w 1 a b := ey
  have e : x.apF ja pa w a b = (VS.s_nlast y (va_up y.nlast w a)).haF pa w a b := by
    unfold VS.apF VS.cmF
    rw [← ey, if_neg (show ¬ a < y.nhor by rw [ey', a10, b6]; exact may_h hm)]
  obtain ⟨c1, c2, c3, c4, c5, c6, c7, c8, c9⟩ := haF_b (VS.s_nlast y (va_up y.nlast w a)) pa w a b
  have hc : (VS.s_nlast y (va_up y.nlast w a)).hcap = x.hcap := by
    show (if y.hsize = y.hN then 2 * y.hsize else y.hN) = if x.hsize = x.hN then 2 * x.hsize else x.hN
    rw [ey', a8, a9, b4, b5]
  rw [e]
  refine ⟨c1.trans ?_, c2.trans ?_, c3.trans ?_, ?_, ?_, c6.trans ?_, c7.trans ?_, c8.trans ?_, c9.trans hc⟩
  · show y.tape = _; rw [ey', a1, b1]
  · show y.tpN = _; rw [ey', a2, b2]
  · show y.jlimit = _; rw [ey', a3, b3]
  · rw [c4]; show y.jfill ≤ 126; rw [ey', a4]; omega
  · rw [c5]; show y.jblock ≤ _; rw [ey', a5]; omega
  · show y.jsize = _; rw [ey', a6, r1]
  · show y.jN = _; rw [ey', a7, r3]
  · show y.hsize + 1 = _; rw [ey', a8, b4]
theorem cap_c (N s i k n : Nat) (h1 : k = s + i) (h2 : n = capR N s i) : (if k = n then 2 * k else n) = capR N s (i + 1) := by subst h1 h2; rfl
theorem bkI_s {x z : VS} {i : Nat} (h : bkI x i z) {ja pa : Nat → Nat} {w : Nat} {a b : Int64} (hm : z.may w a = true) : bkI x (i + 1) (z.apF ja pa w a b) ∧ z.jcap = capR x.jN x.jsize (i + 1) ∧ z.cmcap a = capR x.hN x.hsize (i + 1) := by
  obtain ⟨h1, h2, h3, h4, h5, h6, h7, h8, h9, h10, h11, h12, h13⟩ := h
  obtain ⟨a1, a2, a3, a4, a5, a6, a7, a8, a9⟩ := apF_b z ja pa w a b hm
  have e1 : z.jcap = capR x.jN x.jsize (i + 1) := cap_c _ _ _ _ _ h6 h7
  have e2 : z.hcap = capR x.hN x.hsize (i + 1) := cap_c _ _ _ _ _ h10 h11
  have e3 : z.cmcap a = z.hcap := if_neg (may_h hm)
  have l1 : z.jsize + 1 ≤ z.jcap ∧ 0 < z.jcap := by unfold VS.jcap; split <;> omega
  have l2 : z.hsize + 1 ≤ z.hcap ∧ 0 < z.hcap := by unfold VS.hcap; split <;> omega
  exact ⟨⟨a1.trans h1, a2.trans h2, a3.trans h3, a4, by omega, by omega, a7.trans e1, by omega, by omega, by omega, a9.trans e2, by omega, by omega⟩, e1, e3.trans e2⟩
theorem bk_i {x : VS} {w : Nat} (c1 : x.jfill ≤ 126) (c2 : x.jsize ≤ x.jN) (c3 : 0 < x.jN) (c4 : x.hsize ≤ x.hN) (c5 : 0 < x.hN) : ∀ {i : Nat} {z : VS}, bkR x w i z → bkI x i z
  | 0, z, h => by
    rw [show z = VS.s_tapeLength x 0 from h]
    exact ⟨rfl, rfl, rfl, c1, Nat.le_refl _, rfl, rfl, c2, c3, rfl, rfl, c4, c5⟩
  | i + 1, z, h => by
    obtain ⟨y, ja, pa, h1, h2, h3⟩ := h
    rw [h3]
    exact (bkI_s (bk_i c1 c2 c3 c4 c5 h1) h2).1
theorem d_V_bulk_9 : decode prog_1_method_33_code 9 = .ok (.aload_n 0, 1) := by decide +kernel
theorem d_V_bulk_10 : decode prog_1_method_33_code 10 = .ok (.getfield 71, 3) := by decide +kernel
theorem d_V_bulk_13 : decode prog_1_method_33_code 13 = .ok (.bipush 16, 2) := by decide +kernel
theorem d_V_bulk_15 : decode prog_1_method_33_code 15 = .ok (.idiv, 1) := by decide +kernel
theorem d_V_bulk_16 : decode prog_1_method_33_code 16 = .ok (.istore_n 2, 1) := by decide +kernel
theorem d_V_bulk_17 : decode prog_1_method_33_code 17 = .ok (.aload_n 0, 1) := by decide +kernel
theorem d_V_bulk_18 : decode prog_1_method_33_code 18 = .ok (.iconst 0, 1) := by decide +kernel
theorem d_V_bulk_19 : decode prog_1_method_33_code 19 = .ok (.putfield 71, 3) := by decide +kernel
theorem d_V_bulk_22 : decode prog_1_method_33_code 22 = .ok (.iconst 0, 1) := by decide +kernel
theorem d_V_bulk_23 : decode prog_1_method_33_code 23 = .ok (.istore_n 3, 1) := by decide +kernel
theorem d_V_bulk_24 : decode prog_1_method_33_code 24 = .ok (.iload_n 3, 1) := by decide +kernel
theorem d_V_bulk_25 : decode prog_1_method_33_code 25 = .ok (.iload_n 2, 1) := by decide +kernel
theorem d_V_bulk_26 : decode prog_1_method_33_code 26 = .ok (.if_icmp .ge 60, 3) := by decide +kernel
theorem d_V_bulk_86 : decode prog_1_method_33_code 86 = .ok (.iload_n 2, 1) := by decide +kernel
theorem d_V_bulk_87 : decode prog_1_method_33_code 87 = .ok (.ireturn, 1) := by decide +kernel
theorem d_V_bulk_29 : decode prog_1_method_33_code 29 = .ok (.aload_n 0, 1) := by decide +kernel
theorem d_V_bulk_30 : decode prog_1_method_33_code 30 = .ok (.iload_n 3, 1) := by decide +kernel
theorem d_V_bulk_31 : decode prog_1_method_33_code 31 = .ok (.bipush 16, 2) := by decide +kernel
theorem d_V_bulk_33 : decode prog_1_method_33_code 33 = .ok (.imul, 1) := by decide +kernel
theorem d_V_bulk_34 : decode prog_1_method_33_code 34 = .ok (.invokevirtual 274, 3) := by decide +kernel
theorem d_V_bulk_37 : decode prog_1_method_33_code 37 = .ok (.lstore 4, 2) := by decide +kernel
theorem d_V_bulk_39 : decode prog_1_method_33_code 39 = .ok (.aload_n 0, 1) := by decide +kernel
theorem d_V_bulk_40 : decode prog_1_method_33_code 40 = .ok (.iload_n 1, 1) := by decide +kernel
theorem d_V_bulk_41 : decode prog_1_method_33_code 41 = .ok (.lload 4, 2) := by decide +kernel
theorem d_V_bulk_43 : decode prog_1_method_33_code 43 = .ok (.invokevirtual 254, 3) := by decide +kernel
theorem d_V_bulk_46 : decode prog_1_method_33_code 46 = .ok (.ifCond .eq 14, 3) := by decide +kernel
theorem d_V_bulk_60 : decode prog_1_method_33_code 60 = .ok (.iload_n 3, 1) := by decide +kernel
theorem d_V_bulk_61 : decode prog_1_method_33_code 61 = .ok (.ireturn, 1) := by decide +kernel
theorem d_V_bulk_49 : decode prog_1_method_33_code 49 = .ok (.aload_n 0, 1) := by decide +kernel
theorem d_V_bulk_50 : decode prog_1_method_33_code 50 = .ok (.getfield 16, 3) := by decide +kernel
theorem d_V_bulk_53 : decode prog_1_method_33_code 53 = .ok (.iconst 1, 1) := by decide +kernel
theorem d_V_bulk_54 : decode prog_1_method_33_code 54 = .ok (.invokevirtual 238, 3) := by decide +kernel
theorem d_V_bulk_57 : decode prog_1_method_33_code 57 = .ok (.ifCond .ne 5, 3) := by decide +kernel
theorem d_V_bulk_62 : decode prog_1_method_33_code 62 = .ok (.aload_n 0, 1) := by decide +kernel
theorem d_V_bulk_63 : decode prog_1_method_33_code 63 = .ok (.iload_n 1, 1) := by decide +kernel
theorem d_V_bulk_64 : decode prog_1_method_33_code 64 = .ok (.lload 4, 2) := by decide +kernel
theorem d_V_bulk_66 : decode prog_1_method_33_code 66 = .ok (.aload_n 0, 1) := by decide +kernel
theorem d_V_bulk_67 : decode prog_1_method_33_code 67 = .ok (.iload_n 3, 1) := by decide +kernel
theorem d_V_bulk_68 : decode prog_1_method_33_code 68 = .ok (.bipush 16, 2) := by decide +kernel
theorem d_V_bulk_70 : decode prog_1_method_33_code 70 = .ok (.imul, 1) := by decide +kernel
theorem d_V_bulk_71 : decode prog_1_method_33_code 71 = .ok (.bipush 8, 2) := by decide +kernel
theorem d_V_bulk_73 : decode prog_1_method_33_code 73 = .ok (.iadd, 1) := by decide +kernel
theorem d_V_bulk_74 : decode prog_1_method_33_code 74 = .ok (.invokevirtual 274, 3) := by decide +kernel
theorem d_V_bulk_77 : decode prog_1_method_33_code 77 = .ok (.invokevirtual 258, 3) := by decide +kernel
theorem d_V_bulk_80 : decode prog_1_method_33_code 80 = .ok (.iinc 3 1, 3) := by decide +kernel
theorem d_V_bulk_83 : decode prog_1_method_33_code 83 = .ok (.goto (-59), 3) := by decide +kernel
theorem w1746 : Cond.methodLink "SeriesVault" 274 ⟨"SeriesVault", "longOnTape", "(I)J"⟩ ∈ aW := aw_of (tb_5 (List.mem_of_getElem? (i := 170) rfl)) rfl
theorem w1747 : Cond.code ⟨"SeriesVault", "longOnTape", "(I)J"⟩ prog_1_method_5_code 5 (some FieldType.long) ∈ aW := aw_of (tb_5 (List.mem_of_getElem? (i := 173) rfl)) rfl
theorem w1748 : Cond.instanceMethod ⟨"SeriesVault", "longOnTape", "(I)J"⟩ ∈ aW := aw_of (tb_5 (List.mem_of_getElem? (i := 172) rfl)) rfl
theorem w1749 : Cond.selects "SeriesVault" ⟨"SeriesVault", "longOnTape", "(I)J"⟩ ⟨"SeriesVault", "longOnTape", "(I)J"⟩ ∈ aW := aw_pr (List.mem_map.mpr ⟨_, pv_2 (List.mem_of_getElem? (i := 6) rfl), rfl⟩) rfl
set_option maxHeartbeats 4000000 in
set_option maxRecDepth 100000 in
theorem v_bulk (l : Launch) (D : va_G) (dA : Nat → ClassId) (sz : Nat) (h : Nat) (ad : Nat → Nat) (x : VS) (w : Nat) (k : Nat) (ho : x.powered = true) (hw1 : w < x.nser) (hw2 : x.nser ≤ 256) (htl : x.tapeLength ≤ x.tpN) (htp : x.tpN ≤ 131072) (hfl : x.jfill ≤ 126) (hbu : x.jblock + k + 1 < 2 ^ 31) (hlu : x.jlimit < 2 ^ 31) (hj1 : x.jsize ≤ x.jN) (hj2 : 0 < x.jN) (hj3 : capR x.jN x.jsize k ≤ 65536) (hh1 : x.hsize ≤ x.hN) (hh2 : 0 < x.hN) (hh3 : capR x.hN x.hsize k ≤ 32768) (hkn : k ≤ x.tapeLength / 16) (hgo : ∀ (i : Nat) (z : VS), i < k → bkR x w i z → z.may w (tmB x i) = true ∧ z.room 1 = true ∧ (z.jfill + 1 ≤ 126 ∨ z.jch = false ∨ ¬ z.cutLeft = 0)) (hst : k < x.tapeLength / 16 → ∀ z : VS, bkR x w k z → z.may w (tmB x k) = true → z.room 1 = false) : Met l ⟨"SeriesVault", "bulk", "(I)I"⟩ [Cond.code ⟨"SeriesVault", "bulk", "(I)I"⟩ prog_1_method_33_code 6 (some FieldType.int)] { frames := 6, cells := 6 * (capR x.jN x.jsize k - x.jN) + 3 * (capR x.hN x.hsize k - x.hN), slots := 12 * (capR x.jN x.jsize k - x.jN) + 6 * (capR x.hN x.hsize k - x.hN), locals := 161 } (pC D dA [.ref h, .int (nI w)] (VW dA h ad x) sz) (va_Qi (fun (r9 : Int32) (u9 : VS) => r9 = nI k ∧ bkR x w k u9) (fun (u9 : VS) t9 => bW D (va_A (VW dA h ad x) sz) (VW dA h ad u9) t9) (va_A (VW dA h ad x) sz)) (6 * (capR x.jN x.jsize k - x.jN) + 3 * (capR x.hN x.hsize k - x.hN)) (12 * (capR x.jN x.jsize k - x.jN) + 6 * (capR x.hN x.hsize k - x.hN)) (va_A (VW dA h ad x) sz) := by
  refine mkC (y := ⟨"SeriesVault", "bulk", "(I)I"⟩) (cc := prog_1_method_33_code) (maxL := 6) (av := [.ref h, .int (nI w)]) (ws := VW dA h ad x) (sz := sz) (Qc := fun A => va_Qi (fun (r9 : Int32) (u9 : VS) => r9 = nI k ∧ bkR x w k u9) (fun (u9 : VS) t9 => bW D A (VW dA h ad u9) t9) A) (by decide) (Nat.le_of_ble_eq_true rfl) ?_
  intro A p e s m below meth c ls hsz hB
  obtain ⟨hx, hb, hr, hml, hown, hin, hlk, hE, hK, hP, hD, hS, hA, hN, hl⟩ := hB
  have hown : s.vm.findClass "SeriesVault" = some m.cls := hown
  have hl : lv_has ls 6 [(0, .ref h), (1, .int (nI w))] := hl
  obtain ⟨H, hH⟩ : ∃ z, z = s.heap := ⟨_, rfl⟩
  have hP : va_P D vwCl (VW dA h ad x) H := by rw [hH]; exact hP
  have hS : va_S A s.heap H [] := by rw [hH]; exact hS
  rw [← hH]
  refine lv_aload_n hx hb d_V_bulk_0 rfl (lv_at hl 0 rfl) ?_
  refine jkV (wr := []) (rnV (As := []) (rest := []) hx hb hml hown hE hK (hN _ _ hS) hP hD (v_checkPower l D dA H.size h ad x ho) (q0 := 0) rfl rfl w278 w276 w279 w280 w277 rfl rfl ⟨⟨by decide, by decide⟩, rfl⟩ ⟨(Nat.le_of_ble_eq_true rfl), (Nat.le_of_ble_eq_true rfl)⟩ rfl hl.1 rfl (Nat.le_of_ble_eq_true rfl) d_V_bulk_1 ⟨(show 0 + 0 ≤ 6 * (capR x.jN x.jsize k - x.jN) + 3 * (capR x.hN x.hsize k - x.hN) by omega), (show 0 + 0 ≤ 12 * (capR x.jN x.jsize k - x.jN) + 6 * (capR x.hN x.hsize k - x.hN) by omega)⟩) hP hD hS hA (fun u2 H locs hp9 hP hD hS => ?_)
  have hP : va_P D vwCl (VW dA h ad x) H := hP
  have hD : va_D A (VW dA h ad x) := hD
  refine lv_aload_n hx hb d_V_bulk_4 rfl (lv_at hl 0 rfl) ?_
  refine lv_iload_n hx hb d_V_bulk_5 rfl (lv_at hl 1 rfl) ?_
  refine jkV (wr := []) (rnV (As := [.int (nI w)]) (rest := []) hx hb hml hown hE hK (hN _ _ hS) hP hD (v_checkSeries l D dA H.size h ad x w (show w < x.nser from by omega) (show x.nser ≤ 256 from by omega)) (q0 := 0) rfl rfl w300 w299 w301 w302 w277 rfl rfl ⟨⟨by decide, by decide⟩, rfl⟩ ⟨(Nat.le_of_ble_eq_true rfl), (Nat.le_of_ble_eq_true rfl)⟩ rfl hl.1 rfl (Nat.le_of_ble_eq_true rfl) d_V_bulk_6 ⟨(show 0 + 0 + 0 ≤ 6 * (capR x.jN x.jsize k - x.jN) + 3 * (capR x.hN x.hsize k - x.hN) by omega), (show 0 + 0 + 0 ≤ 12 * (capR x.jN x.jsize k - x.jN) + 6 * (capR x.hN x.hsize k - x.hN) by omega)⟩) hP hD hS hA (fun u4 H locs hp9 hP hD hS => ?_)
  have hP : va_P D vwCl (VW dA h ad x) H := hP
  have hD : va_D A (VW dA h ad x) := hD
  refine lv_aload_n hx hb d_V_bulk_9 rfl (lv_at hl 0 rfl) ?_
  refine gF (v := .int (nI x.tapeLength)) hx hb hown hE hK hP 0 rfl rfl layV 1 (by decide) w259 rfl d_V_bulk_10 ?_
  refine lv_bipush (v := 16) hx hb d_V_bulk_13 (by decide) ?_
  refine lv_idiv hx hb d_V_bulk_15 (by decide) (tpi (y := nI (x.tapeLength / 16)) (pk_div (a := x.tapeLength) (d := 16) (by omega) (by omega) (by omega)) ?_)
  refine lv_istore_n hx hb d_V_bulk_16 rfl hl (by decide) rfl (fun ls hl => ?_)
  have hl : lv_has ls 6 [(2, .int (nI (x.tapeLength / 16))), (0, .ref h), (1, .int (nI w))] := hl
  refine lv_aload_n hx hb d_V_bulk_17 rfl (lv_at hl 1 rfl) ?_
  refine lv_iconst (v := 0) hx hb d_V_bulk_18 (by decide) ?_
  refine pF (v := .int (nI 0)) hx hb hown hE hK hP hD hS 0 rfl rfl layV tyV tokV nmV 1 (by decide) w259 rfl rfl rfl (Nat.le_of_ble_eq_true rfl) d_V_bulk_19 (fun H locs hP hD hS => ?_)
  have hP : va_P D vwCl (VW dA h ad (VS.s_tapeLength x 0)) H := hP
  have hD : va_D A (VW dA h ad (VS.s_tapeLength x 0)) := hD
  refine lv_iconst (v := 0) hx hb d_V_bulk_22 (by decide) ?_
  refine lv_istore_n hx hb d_V_bulk_23 rfl hl (by decide) rfl (fun ls hl => ?_)
  have hl : lv_has ls 6 [(3, .int 0), (2, .int (nI (x.tapeLength / 16))), (0, .ref h), (1, .int (nI w))] := hl
  have L24 : ∀ (k9 : Nat) (i : Nat) (z : VS) (i1 : i ≤ k) (hR0 : bkR x w i z) (hk9 : x.tapeLength / 16 - i = k9), ∀ (H : Heap) (locs : List Loc) (ls : Array Slot) (hP : va_P D vwCl (VW dA h ad z) H) (hD : va_D A (VW dA h ad z)) (hS : va_S A s.heap H locs) (hl : lv_has ls 6 [(3, .int (nI i)), (2, .int (nI (x.tapeLength / 16))), (1, .int (nI w)), (0, .ref h)]), W p l e ({ frames := 6, cells := 6 * (capR x.jN x.jsize k - x.jN) + 3 * (capR x.hN x.hsize k - x.hN), slots := 12 * (capR x.jN x.jsize k - x.jN) + 6 * (capR x.hN x.hsize k - x.hN), locals := 161 } : Room) s m ([.ref h, .int (nI w)] : List Value).toArray below meth c H locs (6 * (z.jN - x.jN) + 3 * (z.hN - x.hN)) (12 * (z.jN - x.jN) + 6 * (z.hN - x.hN)) (MQ below (va_Qi (fun (r9 : Int32) (u9 : VS) => r9 = nI k ∧ bkR x w k u9) (fun (u9 : VS) t9 => bW D A (VW dA h ad u9) t9) A) ([.ref h, .int (nI w)] : List Value).toArray s (6 * (capR x.jN x.jsize k - x.jN) + 3 * (capR x.hN x.hsize k - x.hN)) (12 * (capR x.jN x.jsize k - x.jN) + 6 * (capR x.hN x.hsize k - x.hN)) A) (F0 m 24 ls []) := by
    intro k9
    induction k9 using Nat.strongRecOn with
    | ind k9 ih24 =>
      intro i z i1 hR0 hk9 H locs ls hP hD hS hl
      have hI := bk_i hfl hj1 hj2 hh1 hh2 hR0
      have hIc := hI
      obtain ⟨q1, q2, q3, q4, q5, q6, q7, q8, q9, q10, q11, q12, q13⟩ := hIc
      have cm0 : capR x.jN x.jsize 0 = x.jN := rfl
      have cm00 : capR x.hN x.hsize 0 = x.hN := rfl
      have cm1 := capR_m x.jN x.jsize i1
      have cm2 := capR_m x.hN x.hsize i1
      have cm5 := capR_m x.jN x.jsize (Nat.zero_le i)
      have cm6 := capR_m x.hN x.hsize (Nat.zero_le i)
      refine lv_iload_n hx hb d_V_bulk_24 rfl (lv_at hl 0 rfl) ?_
      refine lv_iload_n hx hb d_V_bulk_25 rfl (lv_at hl 1 rfl) ?_
      refine lv_icmp_ge hx hb d_V_bulk_26 (tgt := 86) rfl (fun g5 => ?_) (fun g5 => ?_)
      · have g5 := (nI_leI (a := x.tapeLength / 16) (b := i) (by omega) (by omega)).mp g5
        refine lv_iload_n hx hb d_V_bulk_86 rfl (lv_at hl 1 rfl) ?_
        exact rfI hx hb hr hlk hS z (by have e9 : i = k := (by rcases Nat.lt_or_ge i k with h9 | h9; (exfalso; omega); omega); exact ⟨by rw [show x.tapeLength / 16 = k by omega], by rw [← e9]; exact hR0⟩) hP hD (show 6 * (z.jN - x.jN) + 3 * (z.hN - x.hN) ≤ 6 * (capR x.jN x.jsize k - x.jN) + 3 * (capR x.hN x.hsize k - x.hN) by omega) (show 12 * (z.jN - x.jN) + 6 * (z.hN - x.hN) ≤ 12 * (capR x.jN x.jsize k - x.jN) + 6 * (capR x.hN x.hsize k - x.hN) by omega) d_V_bulk_87
      · have g5 := mt (nI_leI (a := x.tapeLength / 16) (b := i) (by omega) (by omega)).mpr g5
        refine lv_aload_n hx hb d_V_bulk_29 rfl (lv_at hl 3 rfl) ?_
        refine lv_iload_n hx hb d_V_bulk_30 rfl (lv_at hl 0 rfl) ?_
        refine lv_bipush (v := 16) hx hb d_V_bulk_31 (by decide) ?_
        refine lv_imul hx hb d_V_bulk_33 (tpi (y := nI (i * 16)) (pk_mul (i) (16)) ?_)
        refine jkL (wr := []) (rnV (As := [.int (nI (i * 16))]) (rest := []) hx hb hml hown hE hK (hN _ _ hS) hP hD (v_longOnTape l D dA H.size h ad z (i * 16) (show (i * 16) + 8 ≤ z.tpN from by omega) (show z.tpN ≤ 131072 from by omega)) (q0 := 0) rfl rfl w1747 w1746 w1748 w1749 w277 rfl rfl ⟨⟨by decide, by decide⟩, rfl⟩ ⟨(Nat.le_of_ble_eq_true rfl), (Nat.le_of_ble_eq_true rfl)⟩ rfl hl.1 rfl (Nat.le_of_ble_eq_true rfl) d_V_bulk_34 ⟨(show 6 * (z.jN - x.jN) + 3 * (z.hN - x.hN) + 0 ≤ 6 * (capR x.jN x.jsize k - x.jN) + 3 * (capR x.hN x.hsize k - x.hN) by omega), (show 12 * (z.jN - x.jN) + 6 * (z.hN - x.hN) + 0 ≤ 12 * (capR x.jN x.jsize k - x.jN) + 6 * (capR x.hN x.hsize k - x.hN) by omega)⟩) hP hD hS hA (fun r6 u7 H locs hp9 hP hD hS => ?_)
        have hP : va_P D vwCl (VW dA h ad z) H := hP
        have hD : va_D A (VW dA h ad z) := hD
        replace hp9 : numB z.tape (i * 16) 8 = r6 := Eq.symm hp9
        subst hp9
        refine tpl (y := tmB x i) (by unfold tmB; rw [q1]) ?_
        refine lv_lstore hx hb d_V_bulk_37 hl (by decide) rfl (fun ls hl => ?_)
        have hl : lv_has ls 6 [(4, .long (tmB x i)), (3, .int (nI i)), (2, .int (nI (x.tapeLength / 16))), (1, .int (nI w)), (0, .ref h)] := hl
        refine lv_aload_n hx hb d_V_bulk_39 rfl (lv_at hl 4 rfl) ?_
        refine lv_iload_n hx hb d_V_bulk_40 rfl (lv_at hl 3 rfl) ?_
        refine lv_lload hx hb d_V_bulk_41 (lv_at hl 0 rfl) ?_
        refine jkI (wr := []) (rnV (As := [.int (nI w), .long (tmB x i)]) (rest := []) hx hb hml hown hE hK (hN _ _ hS) hP hD (v_mayCome l D dA H.size h ad z w (tmB x i) (show w < 256 from by omega)) (q0 := 0) rfl rfl w1159 w1158 w1160 w1161 w277 rfl rfl ⟨⟨by decide, by decide⟩, rfl⟩ ⟨(Nat.le_of_ble_eq_true rfl), (Nat.le_of_ble_eq_true rfl)⟩ rfl hl.1 rfl (Nat.le_of_ble_eq_true rfl) d_V_bulk_43 ⟨(show 6 * (z.jN - x.jN) + 3 * (z.hN - x.hN) + 0 + 0 ≤ 6 * (capR x.jN x.jsize k - x.jN) + 3 * (capR x.hN x.hsize k - x.hN) by omega), (show 12 * (z.jN - x.jN) + 6 * (z.hN - x.hN) + 0 + 0 ≤ 12 * (capR x.jN x.jsize k - x.jN) + 6 * (capR x.hN x.hsize k - x.hN) by omega)⟩) hP hD hS hA (fun r8 u9 H locs hp9 hP hD hS => ?_)
        have hP : va_P D vwCl (VW dA h ad z) H := hP
        have hD : va_D A (VW dA h ad z) := hD
        replace hp9 : bI (z.may w (tmB x i)) = r8 := Eq.symm hp9
        subst hp9
        refine lv_if_eq hx hb d_V_bulk_46 (tgt := 60) rfl (fun g10 => ?_) (fun g10 => ?_)
        · have g10 := bI_0 g10
          refine lv_iload_n hx hb d_V_bulk_60 rfl (lv_at hl 1 rfl) ?_
          exact rfI hx hb hr hlk hS z (by have e9 : i = k := (by rcases Nat.lt_or_ge i k with h9 | h9; (exfalso; have h8 := (hgo i z h9 hR0).1; rw [g10] at h8; cases h8); omega); exact ⟨by rw [← e9], by rw [← e9]; exact hR0⟩) hP hD (show 6 * (z.jN - x.jN) + 3 * (z.hN - x.hN) + 0 + 0 ≤ 6 * (capR x.jN x.jsize k - x.jN) + 3 * (capR x.hN x.hsize k - x.hN) by omega) (show 12 * (z.jN - x.jN) + 6 * (z.hN - x.hN) + 0 + 0 ≤ 12 * (capR x.jN x.jsize k - x.jN) + 6 * (capR x.hN x.hsize k - x.hN) by omega) d_V_bulk_61
        · have g10 := bI_n0 g10
          refine lv_aload_n hx hb d_V_bulk_49 rfl (lv_at hl 4 rfl) ?_
          refine gF (v := .ref (ad 0)) hx hb hown hE hK hP 0 rfl rfl layV 8 (by decide) w312 rfl d_V_bulk_50 ?_
          refine lv_iconst (v := 1) hx hb d_V_bulk_53 (by decide) ?_
          refine jkI (wr := []) (rnV (As := [.int 1]) (rest := []) hx hb hml hown hE hK (hN _ _ hS) hP hD (v_jhasRoom l D dA H.size h ad z 1 (show z.jfill + 1 < 2 ^ 31 from by omega) (show z.jblock + 1 < 2 ^ 31 from by omega) (show z.jlimit < 2 ^ 31 from by omega)) (q0 := 2) rfl rfl w1163 w1162 w1164 w1165 w556 rfl rfl ⟨⟨by decide, by decide⟩, rfl⟩ ⟨(Nat.le_of_ble_eq_true rfl), (Nat.le_of_ble_eq_true rfl)⟩ rfl hl.1 rfl (Nat.le_of_ble_eq_true rfl) d_V_bulk_54 ⟨(show 6 * (z.jN - x.jN) + 3 * (z.hN - x.hN) + 0 + 0 + 0 ≤ 6 * (capR x.jN x.jsize k - x.jN) + 3 * (capR x.hN x.hsize k - x.hN) by omega), (show 12 * (z.jN - x.jN) + 6 * (z.hN - x.hN) + 0 + 0 + 0 ≤ 12 * (capR x.jN x.jsize k - x.jN) + 6 * (capR x.hN x.hsize k - x.hN) by omega)⟩) hP hD hS hA (fun r11 u12 H locs hp9 hP hD hS => ?_)
          have hP : va_P D vwCl (VW dA h ad z) H := hP
          have hD : va_D A (VW dA h ad z) := hD
          replace hp9 : bI (z.room 1) = r11 := Eq.symm hp9
          subst hp9
          refine lv_if_ne hx hb d_V_bulk_57 (tgt := 62) rfl (fun g13 => ?_) (fun g13 => ?_)
          · have g13 := bI_n0 g13
            have hmy : z.may w (tmB x i) = true := g10
            have hrm : z.room 1 = true := g13
            have hik : i < k := by rcases Nat.lt_or_ge i k with h9 | h9; exact h9; (exfalso; have e9 : k = i := (by omega); have h8 := hst (by omega) z (by rw [e9]; exact hR0) (by rw [e9]; exact hmy); rw [hrm] at h8; cases h8)
            have hc9 := (hgo i z hik hR0).2.2
            have cm1 := capR_m x.jN x.jsize (show i ≤ k by omega)
            have cm2 := capR_m x.hN x.hsize (show i ≤ k by omega)
            have cm3 := capR_m x.jN x.jsize (show i + 1 ≤ k by omega)
            have cm4 := capR_m x.hN x.hsize (show i + 1 ≤ k by omega)
            have hI2 := bkI_s (ja := fun _ => 0) (pa := fun _ => 0) (w := w) (a := tmB x i) (b := vlB x i) hI hmy
            have ej := hI2.2.1
            have eh := hI2.2.2
            have cs1 := capR_s x.jN x.jsize i
            have cs2 := capR_s x.hN x.hsize i
            refine lv_aload_n hx hb d_V_bulk_62 rfl (lv_at hl 4 rfl) ?_
            refine lv_iload_n hx hb d_V_bulk_63 rfl (lv_at hl 3 rfl) ?_
            refine lv_lload hx hb d_V_bulk_64 (lv_at hl 0 rfl) ?_
            refine lv_aload_n hx hb d_V_bulk_66 rfl (lv_at hl 4 rfl) ?_
            refine lv_iload_n hx hb d_V_bulk_67 rfl (lv_at hl 1 rfl) ?_
            refine lv_bipush (v := 16) hx hb d_V_bulk_68 (by decide) ?_
            refine lv_imul hx hb d_V_bulk_70 (tpi (y := nI (i * 16)) (pk_mul (i) (16)) ?_)
            refine lv_bipush (v := 8) hx hb d_V_bulk_71 (by decide) ?_
            refine lv_iadd hx hb d_V_bulk_73 (tpi (y := nI ((i * 16) + 8)) (nI_add (i * 16) (8)) ?_)
            refine jkL (wr := []) (rnV (As := [.int (nI ((i * 16) + 8))]) (rest := [.long (tmB x i), .int (nI w), .ref h]) hx hb hml hown hE hK (hN _ _ hS) hP hD (v_longOnTape l D dA H.size h ad z ((i * 16) + 8) (show ((i * 16) + 8) + 8 ≤ z.tpN from by omega) (show z.tpN ≤ 131072 from by omega)) (q0 := 0) rfl rfl w1747 w1746 w1748 w1749 w277 rfl rfl ⟨⟨by decide, by decide⟩, rfl⟩ ⟨(Nat.le_of_ble_eq_true rfl), (Nat.le_of_ble_eq_true rfl)⟩ rfl hl.1 rfl (Nat.le_of_ble_eq_true rfl) d_V_bulk_74 ⟨(show 6 * (z.jN - x.jN) + 3 * (z.hN - x.hN) + 0 + 0 + 0 + 0 ≤ 6 * (capR x.jN x.jsize k - x.jN) + 3 * (capR x.hN x.hsize k - x.hN) by omega), (show 12 * (z.jN - x.jN) + 6 * (z.hN - x.hN) + 0 + 0 + 0 + 0 ≤ 12 * (capR x.jN x.jsize k - x.jN) + 6 * (capR x.hN x.hsize k - x.hN) by omega)⟩) hP hD hS hA (fun r14 u15 H locs hp9 hP hD hS => ?_)
            have hP : va_P D vwCl (VW dA h ad z) H := hP
            have hD : va_D A (VW dA h ad z) := hD
            replace hp9 : numB z.tape ((i * 16) + 8) 8 = r14 := Eq.symm hp9
            subst hp9
            refine tpl (y := vlB x i) (by unfold vlB; rw [q1]) ?_
            refine jkV (wr := []) (rnV (As := [.int (nI w), .long (tmB x i), .long (vlB x i)]) (rest := []) hx hb hml hown hE hK (hN _ _ hS) hP hD (v_addPoint l D dA H.size h ad z w (tmB x i) (vlB x i) q8 q9 (show z.jN ≤ 65536 from by omega) (show z.jfill + 1 < 2 ^ 31 from by omega) hc9 (show w < 256 from by omega) q12 q13 (show z.hN ≤ 32768 from by omega)) (q0 := 0) rfl rfl w1166 w1167 w1168 w1169 w277 rfl rfl ⟨⟨by decide, by decide⟩, rfl⟩ ⟨(Nat.le_of_ble_eq_true rfl), (Nat.le_of_ble_eq_true rfl)⟩ rfl hl.1 rfl (Nat.le_of_ble_eq_true rfl) d_V_bulk_77 ⟨(show 6 * (z.jN - x.jN) + 3 * (z.hN - x.hN) + 0 + 0 + 0 + 0 + (6 * (z.jcap - z.jN) + 3 * (z.cmcap (tmB x i) - z.hN)) ≤ 6 * (capR x.jN x.jsize k - x.jN) + 3 * (capR x.hN x.hsize k - x.hN) by omega), (show 12 * (z.jN - x.jN) + 6 * (z.hN - x.hN) + 0 + 0 + 0 + 0 + (12 * (z.jcap - z.jN) + 6 * (z.cmcap (tmB x i) - z.hN)) ≤ 12 * (capR x.jN x.jsize k - x.jN) + 6 * (capR x.hN x.hsize k - x.hN) by omega)⟩) hP hD hS hA (fun u17 H locs hp9 hP hD hS => ?_)
            obtain ⟨y18, h9u⟩ : ∃ z9, z9 = u17 := ⟨_, rfl⟩
            subst h9u
            have hP : va_P D vwCl (VW dA h ad y18) H := hP
            have hD : va_D A (VW dA h ad y18) := hD
            have f_e_19 := hp9
            obtain ⟨ja, pa, e9⟩ := f_e_19
            have hR1 : bkR x w (i + 1) y18 := ⟨z, ja, pa, hR0, hmy, e9⟩
            have hI1 := bk_i hfl hj1 hj2 hh1 hh2 hR1
            obtain ⟨u1, u2, u3, u4, u5, u6, u7, u8, u9, u10, u11, u12, u13⟩ := hI1
            refine lv_iinc (k := 1) (v := nI (i + 1)) hx hb d_V_bulk_80 hl rfl (iincN (i) 1 1 (by decide)) (by decide) rfl (fun ls hl => ?_)
            have hl : lv_has ls 6 [(3, .int (nI (i + 1))), (4, .long (tmB x i)), (2, .int (nI (x.tapeLength / 16))), (1, .int (nI w)), (0, .ref h)] := hl
            refine lv_goto hx hb d_V_bulk_83 (tgt := 24) rfl ?_
            refine W.widen (k := 6 * (y18.jN - x.jN) + 3 * (y18.hN - x.hN)) (n := 12 * (y18.jN - x.jN) + 6 * (y18.hN - x.hN)) (show 6 * (z.jN - x.jN) + 3 * (z.hN - x.hN) + 0 + 0 + 0 + 0 + (6 * (z.jcap - z.jN) + 3 * (z.cmcap (tmB x i) - z.hN)) ≤ 6 * (y18.jN - x.jN) + 3 * (y18.hN - x.hN) from by omega) (show 12 * (z.jN - x.jN) + 6 * (z.hN - x.hN) + 0 + 0 + 0 + 0 + (12 * (z.jcap - z.jN) + 6 * (z.cmcap (tmB x i) - z.hN)) ≤ 12 * (y18.jN - x.jN) + 6 * (y18.hN - x.hN) from by omega) ?_
            exact ih24 _ (by omega) (i + 1) y18 (by omega) hR1 rfl H _ ls hP hD hS (lv_sub hl [0, 2, 3, 4] rfl)
          · have g13 := bI_0 g13
            refine lv_iload_n hx hb d_V_bulk_60 rfl (lv_at hl 1 rfl) ?_
            exact rfI hx hb hr hlk hS z (by have e9 : i = k := (by rcases Nat.lt_or_ge i k with h9 | h9; (exfalso; have h8 := (hgo i z h9 hR0).2.1; rw [g13] at h8; cases h8); omega); exact ⟨by rw [← e9], by rw [← e9]; exact hR0⟩) hP hD (show 6 * (z.jN - x.jN) + 3 * (z.hN - x.hN) + 0 + 0 + 0 ≤ 6 * (capR x.jN x.jsize k - x.jN) + 3 * (capR x.hN x.hsize k - x.hN) by omega) (show 12 * (z.jN - x.jN) + 6 * (z.hN - x.hN) + 0 + 0 + 0 ≤ 12 * (capR x.jN x.jsize k - x.jN) + 6 * (capR x.hN x.hsize k - x.hN) by omega) d_V_bulk_61
  refine W.widen (k := 6 * ((VS.s_tapeLength x 0).jN - x.jN) + 3 * ((VS.s_tapeLength x 0).hN - x.hN)) (n := 12 * ((VS.s_tapeLength x 0).jN - x.jN) + 6 * ((VS.s_tapeLength x 0).hN - x.hN)) (show 0 + 0 + 0 ≤ 6 * ((VS.s_tapeLength x 0).jN - x.jN) + 3 * ((VS.s_tapeLength x 0).hN - x.hN) from by omega) (show 0 + 0 + 0 ≤ 12 * ((VS.s_tapeLength x 0).jN - x.jN) + 6 * ((VS.s_tapeLength x 0).hN - x.hN) from by omega) ?_
  exact L24 _ 0 (VS.s_tapeLength x 0) (Nat.zero_le _) rfl rfl H _ ls hP hD hS (lv_sub hl [0, 1, 3, 2] rfl)
set_option maxHeartbeats 4000000 in
set_option maxRecDepth 100000 in
theorem v_bulk_1 (l : Launch) (htr : l.stackTraces = false) (D : va_G) (dA : Nat → ClassId) (sz : Nat) (h : Nat) (ad : Nat → Nat) (x : VS) (n : Int32) (ho : x.powered = false) : mX l ⟨"SeriesVault", "bulk", "(I)I"⟩ [Cond.code ⟨"SeriesVault", "bulk", "(I)I"⟩ prog_1_method_33_code 6 (some FieldType.int)] { frames := 7, cells := 1, slots := 6, locals := 101 } (pC D dA [.ref h, .int n] (VW dA h ad x) sz) "java/lang/IllegalStateException" (fun st9 t9 => va_F (va_A (VW dA h ad x) sz) st9 t9 ∧ bW D (va_A (VW dA h ad x) sz) (VW dA h ad x) t9) 1 6 (va_A (VW dA h ad x) sz) := by
  refine mkX (y := ⟨"SeriesVault", "bulk", "(I)I"⟩) (cc := prog_1_method_33_code) (maxL := 6) (av := [.ref h, .int n]) (ws := VW dA h ad x) (sz := sz) (B := fun A => (fun st9 t9 => va_F A st9 t9 ∧ bW D A (VW dA h ad x) t9)) (by decide) (Nat.le_of_ble_eq_true rfl) ?_
  intro A p e s m below meth c ls hsz hno hB
  obtain ⟨hx, hb, hr, hml, hown, hin, hlk, hE, hK, hP, hD, hS, hA, hN, hl⟩ := hB
  have hown : s.vm.findClass "SeriesVault" = some m.cls := hown
  have hl : lv_has ls 6 [(0, .ref h), (1, .int n)] := hl
  obtain ⟨H, hH⟩ : ∃ z, z = s.heap := ⟨_, rfl⟩
  have hP : va_P D vwCl (VW dA h ad x) H := by rw [hH]; exact hP
  have hS : va_S A s.heap H [] := by rw [hH]; exact hS
  rw [← hH]
  refine lv_aload_n hx hb d_V_bulk_0 rfl (lv_at hl 0 rfl) ?_
  refine xfV (w1 := VW dA h ad x) (As := []) (rest := []) hx hb hml hown hE hK (hN _ _ hS) (v_checkPower_x l htr D dA H.size h ad x ho) (q0 := 0) rfl rfl w278 w276 w279 w280 w277 rfl rfl ⟨⟨by decide, by decide⟩, rfl⟩ ⟨(Nat.le_of_ble_eq_true rfl), (Nat.le_of_ble_eq_true rfl)⟩ rfl hl.1 rfl (Nat.le_of_ble_eq_true rfl) d_V_bulk_1 ⟨(Nat.le_of_ble_eq_true rfl), (Nat.le_of_ble_eq_true rfl)⟩ hP hD hS hA (fun xa1 ce H locs hP hD hS hce hcv hcl => ?_)
  exact xOut hno hlk hce hcv hcl (fun t ht => xEndV hP hD hS t (by rw [ht]; exact Nat.le_refl _) (fun q _ => by rw [ht])) hS.2.2 (Nat.le_of_ble_eq_true rfl) (Nat.le_of_ble_eq_true rfl)
set_option maxHeartbeats 4000000 in
set_option maxRecDepth 100000 in
theorem v_bulk_2 (l : Launch) (htr : l.stackTraces = false) (D : va_G) (dA : Nat → ClassId) (sz : Nat) (h : Nat) (ad : Nat → Nat) (x : VS) (n : Int32) (ho : x.powered = true) (h0 : n < 0 ∨ nI x.nser ≤ n) : mX l ⟨"SeriesVault", "bulk", "(I)I"⟩ [Cond.code ⟨"SeriesVault", "bulk", "(I)I"⟩ prog_1_method_33_code 6 (some FieldType.int)] { frames := 7, cells := 1, slots := 6, locals := 102 } (pC D dA [.ref h, .int n] (VW dA h ad x) sz) "java/lang/IndexOutOfBoundsException" (fun st9 t9 => va_F (va_A (VW dA h ad x) sz) st9 t9 ∧ bW D (va_A (VW dA h ad x) sz) (VW dA h ad x) t9) 1 6 (va_A (VW dA h ad x) sz) := by
  refine mkX (y := ⟨"SeriesVault", "bulk", "(I)I"⟩) (cc := prog_1_method_33_code) (maxL := 6) (av := [.ref h, .int n]) (ws := VW dA h ad x) (sz := sz) (B := fun A => (fun st9 t9 => va_F A st9 t9 ∧ bW D A (VW dA h ad x) t9)) (by decide) (Nat.le_of_ble_eq_true rfl) ?_
  intro A p e s m below meth c ls hsz hno hB
  obtain ⟨hx, hb, hr, hml, hown, hin, hlk, hE, hK, hP, hD, hS, hA, hN, hl⟩ := hB
  have hown : s.vm.findClass "SeriesVault" = some m.cls := hown
  have hl : lv_has ls 6 [(0, .ref h), (1, .int n)] := hl
  obtain ⟨H, hH⟩ : ∃ z, z = s.heap := ⟨_, rfl⟩
  have hP : va_P D vwCl (VW dA h ad x) H := by rw [hH]; exact hP
  have hS : va_S A s.heap H [] := by rw [hH]; exact hS
  rw [← hH]
  refine lv_aload_n hx hb d_V_bulk_0 rfl (lv_at hl 0 rfl) ?_
  refine jfV (rnV (As := []) (rest := []) hx hb hml hown hE hK (hN _ _ hS) hP hD (v_checkPower l D dA H.size h ad x ho) (q0 := 0) rfl rfl w278 w276 w279 w280 w277 rfl rfl ⟨⟨by decide, by decide⟩, rfl⟩ ⟨(Nat.le_of_ble_eq_true rfl), (Nat.le_of_ble_eq_true rfl)⟩ rfl hl.1 rfl (Nat.le_of_ble_eq_true rfl) d_V_bulk_1 ⟨(Nat.le_of_ble_eq_true rfl), (Nat.le_of_ble_eq_true rfl)⟩) hP hD hS hA (fun u2 H locs hp9 hP hD hS => ?_)
  have hP : va_P D vwCl (VW dA h ad x) H := hP
  have hD : va_D A (VW dA h ad x) := hD
  refine lv_aload_n hx hb d_V_bulk_4 rfl (lv_at hl 0 rfl) ?_
  refine lv_iload_n hx hb d_V_bulk_5 rfl (lv_at hl 1 rfl) ?_
  refine xfV (w1 := VW dA h ad x) (As := [.int n]) (rest := []) hx hb hml hown hE hK (hN _ _ hS) (v_checkSeries_x l htr D dA H.size h ad x n h0) (q0 := 0) rfl rfl w300 w299 w301 w302 w277 rfl rfl ⟨⟨by decide, by decide⟩, rfl⟩ ⟨(Nat.le_of_ble_eq_true rfl), (Nat.le_of_ble_eq_true rfl)⟩ rfl hl.1 rfl (Nat.le_of_ble_eq_true rfl) d_V_bulk_6 ⟨(Nat.le_of_ble_eq_true rfl), (Nat.le_of_ble_eq_true rfl)⟩ hP hD hS hA (fun xa3 ce H locs hP hD hS hce hcv hcl => ?_)
  exact xOut hno hlk hce hcv hcl (fun t ht => xEndV hP hD hS t (by rw [ht]; exact Nat.le_refl _) (fun q _ => by rw [ht])) hS.2.2 (Nat.le_of_ble_eq_true rfl) (Nat.le_of_ble_eq_true rfl)
set_option maxHeartbeats 4000000 in
set_option maxRecDepth 100000 in
theorem v_bulk_i (l : Launch) (htr : l.stackTraces = false) (D : va_G) (dA : Nat → ClassId) (sz : Nat) (h : Nat) (ad : Nat → Nat) (x : VS) (w : Nat) (k : Nat) (ho : x.powered = true) (hw1 : w < x.nser) (hw2 : x.nser ≤ 256) (htl : x.tapeLength ≤ x.tpN) (htp : x.tpN ≤ 131072) (hfl : x.jfill ≤ 126) (hbu : x.jblock + k + 1 < 2 ^ 31) (hlu : x.jlimit < 2 ^ 31) (hj1 : x.jsize ≤ x.jN) (hj2 : 0 < x.jN) (hj3 : capR x.jN x.jsize k ≤ 65536) (hh1 : x.hsize ≤ x.hN) (hh2 : 0 < x.hN) (hh3 : capR x.hN x.hsize k ≤ 32768) (hkn : k ≤ x.tapeLength / 16) (hgo : ∀ (i : Nat) (z : VS), i < k → bkR x w i z → z.may w (tmB x i) = true ∧ z.room 1 = true ∧ (z.jfill + 1 ≤ 126 ∨ z.jch = false ∨ ¬ z.cutLeft = 0)) (hkn2 : k < x.tapeLength / 16) (hst : ∀ z : VS, bkR x w k z → z.may w (tmB x k) = true ∧ z.room 1 = true ∧ 126 < z.jfill + 1 ∧ z.jch = true ∧ z.cutLeft = 0) : mX l ⟨"SeriesVault", "bulk", "(I)I"⟩ [Cond.code ⟨"SeriesVault", "bulk", "(I)I"⟩ prog_1_method_33_code 6 (some FieldType.int)] { frames := 10, cells := 6 * (capR x.jN x.jsize k - x.jN) + 3 * (capR x.hN x.hsize k - x.hN) + 1, slots := 12 * (capR x.jN x.jsize k - x.jN) + 6 * (capR x.hN x.hsize k - x.hN) + 6, locals := 173 } (pC D dA [.ref h, .int (nI w)] (VW dA h ad x) sz) "java/lang/IllegalStateException" (fun st9 t9 => va_F (va_A (VW dA h ad x) sz) st9 t9 ∧ ∃ u9 : VS, ((∃ z : VS, bkR x w k z ∧ u9 = z.off1)) ∧ bW D (va_A (VW dA h ad x) sz) (VW dA h ad u9) t9) (6 * (capR x.jN x.jsize k - x.jN) + 3 * (capR x.hN x.hsize k - x.hN) + 1) (12 * (capR x.jN x.jsize k - x.jN) + 6 * (capR x.hN x.hsize k - x.hN) + 6) (va_A (VW dA h ad x) sz) := by
  refine mkX (y := ⟨"SeriesVault", "bulk", "(I)I"⟩) (cc := prog_1_method_33_code) (maxL := 6) (av := [.ref h, .int (nI w)]) (ws := VW dA h ad x) (sz := sz) (B := fun A => (fun st9 t9 => va_F A st9 t9 ∧ ∃ u9 : VS, ((∃ z : VS, bkR x w k z ∧ u9 = z.off1)) ∧ bW D A (VW dA h ad u9) t9)) (by decide) (Nat.le_of_ble_eq_true rfl) ?_
  intro A p e s m below meth c ls hsz hno hB
  obtain ⟨hx, hb, hr, hml, hown, hin, hlk, hE, hK, hP, hD, hS, hA, hN, hl⟩ := hB
  have hown : s.vm.findClass "SeriesVault" = some m.cls := hown
  have hl : lv_has ls 6 [(0, .ref h), (1, .int (nI w))] := hl
  obtain ⟨H, hH⟩ : ∃ z, z = s.heap := ⟨_, rfl⟩
  have hP : va_P D vwCl (VW dA h ad x) H := by rw [hH]; exact hP
  have hS : va_S A s.heap H [] := by rw [hH]; exact hS
  rw [← hH]
  refine lv_aload_n hx hb d_V_bulk_0 rfl (lv_at hl 0 rfl) ?_
  refine jkV (wr := []) (rnV (As := []) (rest := []) hx hb hml hown hE hK (hN _ _ hS) hP hD (v_checkPower l D dA H.size h ad x ho) (q0 := 0) rfl rfl w278 w276 w279 w280 w277 rfl rfl ⟨⟨by decide, by decide⟩, rfl⟩ ⟨(Nat.le_of_ble_eq_true rfl), (Nat.le_of_ble_eq_true rfl)⟩ rfl hl.1 rfl (Nat.le_of_ble_eq_true rfl) d_V_bulk_1 ⟨(show 0 + 0 ≤ 6 * (capR x.jN x.jsize k - x.jN) + 3 * (capR x.hN x.hsize k - x.hN) + 1 by omega), (show 0 + 0 ≤ 12 * (capR x.jN x.jsize k - x.jN) + 6 * (capR x.hN x.hsize k - x.hN) + 6 by omega)⟩) hP hD hS hA (fun u2 H locs hp9 hP hD hS => ?_)
  have hP : va_P D vwCl (VW dA h ad x) H := hP
  have hD : va_D A (VW dA h ad x) := hD
  refine lv_aload_n hx hb d_V_bulk_4 rfl (lv_at hl 0 rfl) ?_
  refine lv_iload_n hx hb d_V_bulk_5 rfl (lv_at hl 1 rfl) ?_
  refine jkV (wr := []) (rnV (As := [.int (nI w)]) (rest := []) hx hb hml hown hE hK (hN _ _ hS) hP hD (v_checkSeries l D dA H.size h ad x w (show w < x.nser from by omega) (show x.nser ≤ 256 from by omega)) (q0 := 0) rfl rfl w300 w299 w301 w302 w277 rfl rfl ⟨⟨by decide, by decide⟩, rfl⟩ ⟨(Nat.le_of_ble_eq_true rfl), (Nat.le_of_ble_eq_true rfl)⟩ rfl hl.1 rfl (Nat.le_of_ble_eq_true rfl) d_V_bulk_6 ⟨(show 0 + 0 + 0 ≤ 6 * (capR x.jN x.jsize k - x.jN) + 3 * (capR x.hN x.hsize k - x.hN) + 1 by omega), (show 0 + 0 + 0 ≤ 12 * (capR x.jN x.jsize k - x.jN) + 6 * (capR x.hN x.hsize k - x.hN) + 6 by omega)⟩) hP hD hS hA (fun u4 H locs hp9 hP hD hS => ?_)
  have hP : va_P D vwCl (VW dA h ad x) H := hP
  have hD : va_D A (VW dA h ad x) := hD
  refine lv_aload_n hx hb d_V_bulk_9 rfl (lv_at hl 0 rfl) ?_
  refine gF (v := .int (nI x.tapeLength)) hx hb hown hE hK hP 0 rfl rfl layV 1 (by decide) w259 rfl d_V_bulk_10 ?_
  refine lv_bipush (v := 16) hx hb d_V_bulk_13 (by decide) ?_
  refine lv_idiv hx hb d_V_bulk_15 (by decide) (tpi (y := nI (x.tapeLength / 16)) (pk_div (a := x.tapeLength) (d := 16) (by omega) (by omega) (by omega)) ?_)
  refine lv_istore_n hx hb d_V_bulk_16 rfl hl (by decide) rfl (fun ls hl => ?_)
  have hl : lv_has ls 6 [(2, .int (nI (x.tapeLength / 16))), (0, .ref h), (1, .int (nI w))] := hl
  refine lv_aload_n hx hb d_V_bulk_17 rfl (lv_at hl 1 rfl) ?_
  refine lv_iconst (v := 0) hx hb d_V_bulk_18 (by decide) ?_
  refine pF (v := .int (nI 0)) hx hb hown hE hK hP hD hS 0 rfl rfl layV tyV tokV nmV 1 (by decide) w259 rfl rfl rfl (Nat.le_of_ble_eq_true rfl) d_V_bulk_19 (fun H locs hP hD hS => ?_)
  have hP : va_P D vwCl (VW dA h ad (VS.s_tapeLength x 0)) H := hP
  have hD : va_D A (VW dA h ad (VS.s_tapeLength x 0)) := hD
  refine lv_iconst (v := 0) hx hb d_V_bulk_22 (by decide) ?_
  refine lv_istore_n hx hb d_V_bulk_23 rfl hl (by decide) rfl (fun ls hl => ?_)
  have hl : lv_has ls 6 [(3, .int 0), (2, .int (nI (x.tapeLength / 16))), (0, .ref h), (1, .int (nI w))] := hl
  have L24 : ∀ (k9 : Nat) (i : Nat) (z : VS) (i1 : i ≤ k) (hR0 : bkR x w i z) (hk9 : x.tapeLength / 16 - i = k9), ∀ (H : Heap) (locs : List Loc) (ls : Array Slot) (hP : va_P D vwCl (VW dA h ad z) H) (hD : va_D A (VW dA h ad z)) (hS : va_S A s.heap H locs) (hl : lv_has ls 6 [(3, .int (nI i)), (2, .int (nI (x.tapeLength / 16))), (1, .int (nI w)), (0, .ref h)]), W p l e ({ frames := 10, cells := 6 * (capR x.jN x.jsize k - x.jN) + 3 * (capR x.hN x.hsize k - x.hN) + 1, slots := 12 * (capR x.jN x.jsize k - x.jN) + 6 * (capR x.hN x.hsize k - x.hN) + 6, locals := 173 } : Room) s m ([.ref h, .int (nI w)] : List Value).toArray below meth c H locs (6 * (z.jN - x.jN) + 3 * (z.hN - x.hN)) (12 * (z.jN - x.jN) + 6 * (z.hN - x.hN)) (xQ below "java/lang/IllegalStateException" (fun st9 t9 => va_F A st9 t9 ∧ ∃ u9 : VS, ((∃ z : VS, bkR x w k z ∧ u9 = z.off1)) ∧ bW D A (VW dA h ad u9) t9) s (6 * (capR x.jN x.jsize k - x.jN) + 3 * (capR x.hN x.hsize k - x.hN) + 1) (12 * (capR x.jN x.jsize k - x.jN) + 6 * (capR x.hN x.hsize k - x.hN) + 6) A) (F0 m 24 ls []) := by
    intro k9
    induction k9 using Nat.strongRecOn with
    | ind k9 ih24 =>
      intro i z i1 hR0 hk9 H locs ls hP hD hS hl
      have hI := bk_i hfl hj1 hj2 hh1 hh2 hR0
      have hIc := hI
      obtain ⟨q1, q2, q3, q4, q5, q6, q7, q8, q9, q10, q11, q12, q13⟩ := hIc
      have cm0 : capR x.jN x.jsize 0 = x.jN := rfl
      have cm00 : capR x.hN x.hsize 0 = x.hN := rfl
      have cm1 := capR_m x.jN x.jsize i1
      have cm2 := capR_m x.hN x.hsize i1
      have cm5 := capR_m x.jN x.jsize (Nat.zero_le i)
      have cm6 := capR_m x.hN x.hsize (Nat.zero_le i)
      have hall : z.may w (tmB x i) = true ∧ z.room 1 = true := by rcases Nat.lt_or_ge i k with h9 | h9; exact ⟨(hgo i z h9 hR0).1, (hgo i z h9 hR0).2.1⟩; (have e9 : k = i := (by omega); rw [e9] at hst; exact ⟨(hst z hR0).1, (hst z hR0).2.1⟩)
      obtain ⟨hmy, hrm⟩ := hall
      have hI2 := bkI_s (ja := fun _ => 0) (pa := fun _ => 0) (w := w) (a := tmB x i) (b := vlB x i) hI hmy
      have ej := hI2.2.1
      have eh := hI2.2.2
      have cs1 := capR_s x.jN x.jsize i
      have cs2 := capR_s x.hN x.hsize i
      refine lv_iload_n hx hb d_V_bulk_24 rfl (lv_at hl 0 rfl) ?_
      refine lv_iload_n hx hb d_V_bulk_25 rfl (lv_at hl 1 rfl) ?_
      refine lv_icmp_ge hx hb d_V_bulk_26 (tgt := 86) rfl (fun g5 => ?_) (fun g5 => ?_)
      · have g5 := (nI_leI (a := x.tapeLength / 16) (b := i) (by omega) (by omega)).mp g5; exfalso; omega
      have g5 := mt (nI_leI (a := x.tapeLength / 16) (b := i) (by omega) (by omega)).mpr g5
      refine lv_aload_n hx hb d_V_bulk_29 rfl (lv_at hl 3 rfl) ?_
      refine lv_iload_n hx hb d_V_bulk_30 rfl (lv_at hl 0 rfl) ?_
      refine lv_bipush (v := 16) hx hb d_V_bulk_31 (by decide) ?_
      refine lv_imul hx hb d_V_bulk_33 (tpi (y := nI (i * 16)) (pk_mul (i) (16)) ?_)
      refine jkL (wr := []) (rnV (As := [.int (nI (i * 16))]) (rest := []) hx hb hml hown hE hK (hN _ _ hS) hP hD (v_longOnTape l D dA H.size h ad z (i * 16) (show (i * 16) + 8 ≤ z.tpN from by omega) (show z.tpN ≤ 131072 from by omega)) (q0 := 0) rfl rfl w1747 w1746 w1748 w1749 w277 rfl rfl ⟨⟨by decide, by decide⟩, rfl⟩ ⟨(Nat.le_of_ble_eq_true rfl), (Nat.le_of_ble_eq_true rfl)⟩ rfl hl.1 rfl (Nat.le_of_ble_eq_true rfl) d_V_bulk_34 ⟨(show 6 * (z.jN - x.jN) + 3 * (z.hN - x.hN) + 0 ≤ 6 * (capR x.jN x.jsize k - x.jN) + 3 * (capR x.hN x.hsize k - x.hN) + 1 by omega), (show 12 * (z.jN - x.jN) + 6 * (z.hN - x.hN) + 0 ≤ 12 * (capR x.jN x.jsize k - x.jN) + 6 * (capR x.hN x.hsize k - x.hN) + 6 by omega)⟩) hP hD hS hA (fun r6 u7 H locs hp9 hP hD hS => ?_)
      have hP : va_P D vwCl (VW dA h ad z) H := hP
      have hD : va_D A (VW dA h ad z) := hD
      replace hp9 : numB z.tape (i * 16) 8 = r6 := Eq.symm hp9
      subst hp9
      refine tpl (y := tmB x i) (by unfold tmB; rw [q1]) ?_
      refine lv_lstore hx hb d_V_bulk_37 hl (by decide) rfl (fun ls hl => ?_)
      have hl : lv_has ls 6 [(4, .long (tmB x i)), (3, .int (nI i)), (2, .int (nI (x.tapeLength / 16))), (1, .int (nI w)), (0, .ref h)] := hl
      refine lv_aload_n hx hb d_V_bulk_39 rfl (lv_at hl 4 rfl) ?_
      refine lv_iload_n hx hb d_V_bulk_40 rfl (lv_at hl 3 rfl) ?_
      refine lv_lload hx hb d_V_bulk_41 (lv_at hl 0 rfl) ?_
      refine jkI (wr := []) (rnV (As := [.int (nI w), .long (tmB x i)]) (rest := []) hx hb hml hown hE hK (hN _ _ hS) hP hD (v_mayCome l D dA H.size h ad z w (tmB x i) (show w < 256 from by omega)) (q0 := 0) rfl rfl w1159 w1158 w1160 w1161 w277 rfl rfl ⟨⟨by decide, by decide⟩, rfl⟩ ⟨(Nat.le_of_ble_eq_true rfl), (Nat.le_of_ble_eq_true rfl)⟩ rfl hl.1 rfl (Nat.le_of_ble_eq_true rfl) d_V_bulk_43 ⟨(show 6 * (z.jN - x.jN) + 3 * (z.hN - x.hN) + 0 + 0 ≤ 6 * (capR x.jN x.jsize k - x.jN) + 3 * (capR x.hN x.hsize k - x.hN) + 1 by omega), (show 12 * (z.jN - x.jN) + 6 * (z.hN - x.hN) + 0 + 0 ≤ 12 * (capR x.jN x.jsize k - x.jN) + 6 * (capR x.hN x.hsize k - x.hN) + 6 by omega)⟩) hP hD hS hA (fun r8 u9 H locs hp9 hP hD hS => ?_)
      have hP : va_P D vwCl (VW dA h ad z) H := hP
      have hD : va_D A (VW dA h ad z) := hD
      replace hp9 : bI (z.may w (tmB x i)) = r8 := Eq.symm hp9
      subst hp9
      refine lv_if_eq hx hb d_V_bulk_46 (tgt := 60) rfl (fun h9 => absurd h9 (by rw [hmy]; decide)) (fun _ => ?_)
      refine lv_aload_n hx hb d_V_bulk_49 rfl (lv_at hl 4 rfl) ?_
      refine gF (v := .ref (ad 0)) hx hb hown hE hK hP 0 rfl rfl layV 8 (by decide) w312 rfl d_V_bulk_50 ?_
      refine lv_iconst (v := 1) hx hb d_V_bulk_53 (by decide) ?_
      refine jkI (wr := []) (rnV (As := [.int 1]) (rest := []) hx hb hml hown hE hK (hN _ _ hS) hP hD (v_jhasRoom l D dA H.size h ad z 1 (show z.jfill + 1 < 2 ^ 31 from by omega) (show z.jblock + 1 < 2 ^ 31 from by omega) (show z.jlimit < 2 ^ 31 from by omega)) (q0 := 2) rfl rfl w1163 w1162 w1164 w1165 w556 rfl rfl ⟨⟨by decide, by decide⟩, rfl⟩ ⟨(Nat.le_of_ble_eq_true rfl), (Nat.le_of_ble_eq_true rfl)⟩ rfl hl.1 rfl (Nat.le_of_ble_eq_true rfl) d_V_bulk_54 ⟨(show 6 * (z.jN - x.jN) + 3 * (z.hN - x.hN) + 0 + 0 + 0 ≤ 6 * (capR x.jN x.jsize k - x.jN) + 3 * (capR x.hN x.hsize k - x.hN) + 1 by omega), (show 12 * (z.jN - x.jN) + 6 * (z.hN - x.hN) + 0 + 0 + 0 ≤ 12 * (capR x.jN x.jsize k - x.jN) + 6 * (capR x.hN x.hsize k - x.hN) + 6 by omega)⟩) hP hD hS hA (fun r10 u11 H locs hp9 hP hD hS => ?_)
      have hP : va_P D vwCl (VW dA h ad z) H := hP
      have hD : va_D A (VW dA h ad z) := hD
      replace hp9 : bI (z.room 1) = r10 := Eq.symm hp9
      subst hp9
      refine lv_if_ne hx hb d_V_bulk_57 (tgt := 62) rfl (fun _ => ?_) (fun h9 => absurd h9 (by rw [hrm]; decide))
      rcases (show i < k ∨ k = i by omega) with hik | heq
      · refine lv_aload_n hx hb d_V_bulk_62 rfl (lv_at hl 4 rfl) ?_
        have cm3 := capR_m x.jN x.jsize (show i + 1 ≤ k by omega)
        have cm4 := capR_m x.hN x.hsize (show i + 1 ≤ k by omega)
        refine lv_iload_n hx hb d_V_bulk_63 rfl (lv_at hl 3 rfl) ?_
        refine lv_lload hx hb d_V_bulk_64 (lv_at hl 0 rfl) ?_
        refine lv_aload_n hx hb d_V_bulk_66 rfl (lv_at hl 4 rfl) ?_
        refine lv_iload_n hx hb d_V_bulk_67 rfl (lv_at hl 1 rfl) ?_
        refine lv_bipush (v := 16) hx hb d_V_bulk_68 (by decide) ?_
        refine lv_imul hx hb d_V_bulk_70 (tpi (y := nI (i * 16)) (pk_mul (i) (16)) ?_)
        refine lv_bipush (v := 8) hx hb d_V_bulk_71 (by decide) ?_
        refine lv_iadd hx hb d_V_bulk_73 (tpi (y := nI ((i * 16) + 8)) (nI_add (i * 16) (8)) ?_)
        refine jkL (wr := []) (rnV (As := [.int (nI ((i * 16) + 8))]) (rest := [.long (tmB x i), .int (nI w), .ref h]) hx hb hml hown hE hK (hN _ _ hS) hP hD (v_longOnTape l D dA H.size h ad z ((i * 16) + 8) (show ((i * 16) + 8) + 8 ≤ z.tpN from by omega) (show z.tpN ≤ 131072 from by omega)) (q0 := 0) rfl rfl w1747 w1746 w1748 w1749 w277 rfl rfl ⟨⟨by decide, by decide⟩, rfl⟩ ⟨(Nat.le_of_ble_eq_true rfl), (Nat.le_of_ble_eq_true rfl)⟩ rfl hl.1 rfl (Nat.le_of_ble_eq_true rfl) d_V_bulk_74 ⟨(show 6 * (z.jN - x.jN) + 3 * (z.hN - x.hN) + 0 + 0 + 0 + 0 ≤ 6 * (capR x.jN x.jsize k - x.jN) + 3 * (capR x.hN x.hsize k - x.hN) + 1 by omega), (show 12 * (z.jN - x.jN) + 6 * (z.hN - x.hN) + 0 + 0 + 0 + 0 ≤ 12 * (capR x.jN x.jsize k - x.jN) + 6 * (capR x.hN x.hsize k - x.hN) + 6 by omega)⟩) hP hD hS hA (fun r12 u13 H locs hp9 hP hD hS => ?_)
        have hP : va_P D vwCl (VW dA h ad z) H := hP
        have hD : va_D A (VW dA h ad z) := hD
        replace hp9 : numB z.tape ((i * 16) + 8) 8 = r12 := Eq.symm hp9
        subst hp9
        refine tpl (y := vlB x i) (by unfold vlB; rw [q1]) ?_
        refine jkV (wr := []) (rnV (As := [.int (nI w), .long (tmB x i), .long (vlB x i)]) (rest := []) hx hb hml hown hE hK (hN _ _ hS) hP hD (v_addPoint l D dA H.size h ad z w (tmB x i) (vlB x i) q8 q9 (show z.jN ≤ 65536 from by omega) (show z.jfill + 1 < 2 ^ 31 from by omega) ((hgo i z hik hR0).2.2) (show w < 256 from by omega) q12 q13 (show z.hN ≤ 32768 from by omega)) (q0 := 0) rfl rfl w1166 w1167 w1168 w1169 w277 rfl rfl ⟨⟨by decide, by decide⟩, rfl⟩ ⟨(Nat.le_of_ble_eq_true rfl), (Nat.le_of_ble_eq_true rfl)⟩ rfl hl.1 rfl (Nat.le_of_ble_eq_true rfl) d_V_bulk_77 ⟨(show 6 * (z.jN - x.jN) + 3 * (z.hN - x.hN) + 0 + 0 + 0 + 0 + (6 * (z.jcap - z.jN) + 3 * (z.cmcap (tmB x i) - z.hN)) ≤ 6 * (capR x.jN x.jsize k - x.jN) + 3 * (capR x.hN x.hsize k - x.hN) + 1 by omega), (show 12 * (z.jN - x.jN) + 6 * (z.hN - x.hN) + 0 + 0 + 0 + 0 + (12 * (z.jcap - z.jN) + 6 * (z.cmcap (tmB x i) - z.hN)) ≤ 12 * (capR x.jN x.jsize k - x.jN) + 6 * (capR x.hN x.hsize k - x.hN) + 6 by omega)⟩) hP hD hS hA (fun u15 H locs hp9 hP hD hS => ?_)
        obtain ⟨y16, h9u⟩ : ∃ z9, z9 = u15 := ⟨_, rfl⟩
        subst h9u
        have hP : va_P D vwCl (VW dA h ad y16) H := hP
        have hD : va_D A (VW dA h ad y16) := hD
        have f_e_17 := hp9
        obtain ⟨ja, pa, e9⟩ := f_e_17
        have hR1 : bkR x w (i + 1) y16 := ⟨z, ja, pa, hR0, hmy, e9⟩
        have hI1 := bk_i hfl hj1 hj2 hh1 hh2 hR1
        obtain ⟨u1, u2, u3, u4, u5, u6, u7, u8, u9, u10, u11, u12, u13⟩ := hI1
        refine lv_iinc (k := 1) (v := nI (i + 1)) hx hb d_V_bulk_80 hl rfl (iincN (i) 1 1 (by decide)) (by decide) rfl (fun ls hl => ?_)
        have hl : lv_has ls 6 [(3, .int (nI (i + 1))), (4, .long (tmB x i)), (2, .int (nI (x.tapeLength / 16))), (1, .int (nI w)), (0, .ref h)] := hl
        refine lv_goto hx hb d_V_bulk_83 (tgt := 24) rfl ?_
        refine W.widen (k := 6 * (y16.jN - x.jN) + 3 * (y16.hN - x.hN)) (n := 12 * (y16.jN - x.jN) + 6 * (y16.hN - x.hN)) (show 6 * (z.jN - x.jN) + 3 * (z.hN - x.hN) + 0 + 0 + 0 + 0 + (6 * (z.jcap - z.jN) + 3 * (z.cmcap (tmB x i) - z.hN)) ≤ 6 * (y16.jN - x.jN) + 3 * (y16.hN - x.hN) from by omega) (show 12 * (z.jN - x.jN) + 6 * (z.hN - x.hN) + 0 + 0 + 0 + 0 + (12 * (z.jcap - z.jN) + 6 * (z.cmcap (tmB x i) - z.hN)) ≤ 12 * (y16.jN - x.jN) + 6 * (y16.hN - x.hN) from by omega) ?_
        exact ih24 _ (by omega) (i + 1) y16 (by omega) hR1 rfl H _ ls hP hD hS (lv_sub hl [0, 2, 3, 4] rfl)
      · refine lv_aload_n hx hb d_V_bulk_62 rfl (lv_at hl 4 rfl) ?_
        have hs9 := hst z (by rw [heq]; exact hR0)
        refine lv_iload_n hx hb d_V_bulk_63 rfl (lv_at hl 3 rfl) ?_
        refine lv_lload hx hb d_V_bulk_64 (lv_at hl 0 rfl) ?_
        refine lv_aload_n hx hb d_V_bulk_66 rfl (lv_at hl 4 rfl) ?_
        refine lv_iload_n hx hb d_V_bulk_67 rfl (lv_at hl 1 rfl) ?_
        refine lv_bipush (v := 16) hx hb d_V_bulk_68 (by decide) ?_
        refine lv_imul hx hb d_V_bulk_70 (tpi (y := nI (i * 16)) (pk_mul (i) (16)) ?_)
        refine lv_bipush (v := 8) hx hb d_V_bulk_71 (by decide) ?_
        refine lv_iadd hx hb d_V_bulk_73 (tpi (y := nI ((i * 16) + 8)) (nI_add (i * 16) (8)) ?_)
        refine jkL (wr := []) (rnV (As := [.int (nI ((i * 16) + 8))]) (rest := [.long (tmB x i), .int (nI w), .ref h]) hx hb hml hown hE hK (hN _ _ hS) hP hD (v_longOnTape l D dA H.size h ad z ((i * 16) + 8) (show ((i * 16) + 8) + 8 ≤ z.tpN from by omega) (show z.tpN ≤ 131072 from by omega)) (q0 := 0) rfl rfl w1747 w1746 w1748 w1749 w277 rfl rfl ⟨⟨by decide, by decide⟩, rfl⟩ ⟨(Nat.le_of_ble_eq_true rfl), (Nat.le_of_ble_eq_true rfl)⟩ rfl hl.1 rfl (Nat.le_of_ble_eq_true rfl) d_V_bulk_74 ⟨(show 6 * (z.jN - x.jN) + 3 * (z.hN - x.hN) + 0 + 0 + 0 + 0 ≤ 6 * (capR x.jN x.jsize k - x.jN) + 3 * (capR x.hN x.hsize k - x.hN) + 1 by omega), (show 12 * (z.jN - x.jN) + 6 * (z.hN - x.hN) + 0 + 0 + 0 + 0 ≤ 12 * (capR x.jN x.jsize k - x.jN) + 6 * (capR x.hN x.hsize k - x.hN) + 6 by omega)⟩) hP hD hS hA (fun r18 u19 H locs hp9 hP hD hS => ?_)
        have hP : va_P D vwCl (VW dA h ad z) H := hP
        have hD : va_D A (VW dA h ad z) := hD
        replace hp9 : numB z.tape ((i * 16) + 8) 8 = r18 := Eq.symm hp9
        subst hp9
        refine tpl (y := vlB x i) (by unfold vlB; rw [q1]) ?_
        refine xfV (w1 := VW dA h ad (VS.s_cutLeft (VS.s_powered z false) (-1))) (As := [.int (nI w), .long (tmB x i), .long (vlB x i)]) (rest := []) hx hb hml hown hE hK (hN _ _ hS) (v_addPoint_x l htr D dA H.size h ad z w (tmB x i) (vlB x i) (show z.jfill + 1 < 2 ^ 31 from by omega) hs9.2.2.1 hs9.2.2.2.1 hs9.2.2.2.2) (q0 := 0) rfl rfl w1166 w1167 w1168 w1169 w277 rfl rfl ⟨⟨by decide, by decide⟩, rfl⟩ ⟨(Nat.le_of_ble_eq_true rfl), (Nat.le_of_ble_eq_true rfl)⟩ rfl hl.1 rfl (Nat.le_of_ble_eq_true rfl) d_V_bulk_77 ⟨(show 6 * (z.jN - x.jN) + 3 * (z.hN - x.hN) + 0 + 0 + 0 + 0 + 1 ≤ 6 * (capR x.jN x.jsize k - x.jN) + 3 * (capR x.hN x.hsize k - x.hN) + 1 by omega), (show 12 * (z.jN - x.jN) + 6 * (z.hN - x.hN) + 0 + 0 + 0 + 0 + 6 ≤ 12 * (capR x.jN x.jsize k - x.jN) + 6 * (capR x.hN x.hsize k - x.hN) + 6 by omega)⟩ hP hD hS hA (fun xa20 ce H locs hP hD hS hce hcv hcl => ?_)
        have hP : va_P D vwCl (VW dA h ad (VS.s_cutLeft (VS.s_powered z false) (-1))) H := hP
        have hD : va_D A (VW dA h ad (VS.s_cutLeft (VS.s_powered z false) (-1))) := hD
        exact xOut hno hlk hce hcv hcl (fun t ht => xkE (VS.s_cutLeft (VS.s_powered z false) (-1)) ⟨z, by rw [heq]; exact hR0, rfl⟩ hP hD hS t (by rw [ht]; exact Nat.le_refl _) (fun q _ => by rw [ht])) hS.2.2 (show 6 * (z.jN - x.jN) + 3 * (z.hN - x.hN) + 0 + 0 + 0 + 0 + 1 ≤ 6 * (capR x.jN x.jsize k - x.jN) + 3 * (capR x.hN x.hsize k - x.hN) + 1 by omega) (show 12 * (z.jN - x.jN) + 6 * (z.hN - x.hN) + 0 + 0 + 0 + 0 + 6 ≤ 12 * (capR x.jN x.jsize k - x.jN) + 6 * (capR x.hN x.hsize k - x.hN) + 6 by omega)
  refine W.widen (k := 6 * ((VS.s_tapeLength x 0).jN - x.jN) + 3 * ((VS.s_tapeLength x 0).hN - x.hN)) (n := 12 * ((VS.s_tapeLength x 0).jN - x.jN) + 6 * ((VS.s_tapeLength x 0).hN - x.hN)) (show 0 + 0 + 0 ≤ 6 * ((VS.s_tapeLength x 0).jN - x.jN) + 3 * ((VS.s_tapeLength x 0).hN - x.hN) from by omega) (show 0 + 0 + 0 ≤ 12 * ((VS.s_tapeLength x 0).jN - x.jN) + 6 * ((VS.s_tapeLength x 0).hN - x.hN) from by omega) ?_
  exact L24 _ 0 (VS.s_tapeLength x 0) (Nat.zero_le _) rfl rfl H _ ls hP hD hS (lv_sub hl [0, 1, 3, 2] rfl)
end
section
/-! Two parcels put together. -/
theorem gaR_u {x y : VS} {P : PT} (h : gaR x P P.n y) : ∃ (gA : Nat → Nat) (gN : Nat) (gO : Nat → Nat) (gT gV : Nat → Int64) (gs : Nat), y = VS.s_gsize (VS.s_gV (VS.s_gT (VS.s_gO (VS.s_gN (VS.s_gA x gA) gN) gO) gT) gV) gs ∧ gs = x.gsize + cnt P.n (x.sePc P) ∧ gs ≤ gN ∧ gN = capR x.gN x.gsize (cnt P.n (x.sePc P)) ∧ (∀ q, q < x.gsize → gO q = x.gO q ∧ gT q = x.gT q ∧ gV q = x.gV q) ∧ (∀ j, j < P.n → x.sePc P j = true → gO (x.gsize + cnt j (x.sePc P)) = P.o j ∧ gT (x.gsize + cnt j (x.sePc P)) = P.t j ∧ gV (x.gsize + cnt j (x.sePc P)) = P.v j) := by
  obtain ⟨h1, h2, h3, h4, h5, h6⟩ := h
  exact ⟨y.gA, y.gN, y.gO, y.gT, y.gV, y.gsize, h1, h2, h3, h4, h5, h6⟩
/-- the points of two parcels that are seen, one behind the other -/
def gat2 (f g : Nat → Bool) (P Q : PT) (O : Nat → Nat) (T V : Nat → Int64) : Prop := (∀ j, j < P.n → f j = true → O (cnt j f) = P.o j ∧ T (cnt j f) = P.t j ∧ V (cnt j f) = P.v j) ∧ ∀ j, j < Q.n → g j = true → O (cnt P.n f + cnt j g) = Q.o j ∧ T (cnt P.n f + cnt j g) = Q.t j ∧ V (cnt P.n f + cnt j g) = Q.v j
theorem gat2_m {f g : Nat → Bool} {P Q : PT} {O O2 : Nat → Nat} {T V T2 V2 : Nat → Int64} (h1 : ∀ j, j < P.n → f j = true → O (0 + cnt j f) = P.o j ∧ T (0 + cnt j f) = P.t j ∧ V (0 + cnt j f) = P.v j) (h2 : ∀ q, q < cnt P.n f → O2 q = O q ∧ T2 q = T q ∧ V2 q = V q) (h3 : ∀ j, j < Q.n → g j = true → O2 (cnt P.n f + cnt j g) = Q.o j ∧ T2 (cnt P.n f + cnt j g) = Q.t j ∧ V2 (cnt P.n f + cnt j g) = Q.v j) : gat2 f g P Q O2 T2 V2 := by
  refine ⟨fun j hj hf => ?_, h3⟩
  have a := h1 j hj hf
  rw [Nat.zero_add] at a
  obtain ⟨b1, b2, b3⟩ := h2 _ (cnt_lt hj hf)
  exact ⟨b1.trans a.1, b2.trans a.2.1, b3.trans a.2.2⟩
theorem cnt_at {f : Nat → Bool} : ∀ {n i : Nat}, i < cnt n f → ∃ j, j < n ∧ f j = true ∧ cnt j f = i
  | 0, i, h => absurd h (Nat.not_lt_zero i)
  | n + 1, i, h => by
    cases hf : f n with
    | false =>
      rw [cnt_f hf] at h
      obtain ⟨j, h1, h2, h3⟩ := cnt_at h
      exact ⟨j, by omega, h2, h3⟩
    | true =>
      rw [cnt_t hf] at h
      by_cases e : i = cnt n f
      · exact ⟨n, by omega, hf, e.symm⟩
      · obtain ⟨j, h1, h2, h3⟩ := cnt_at (f := f) (n := n) (i := i) (by omega)
        exact ⟨j, by omega, h2, h3⟩
theorem gat_o {f g : Nat → Bool} {P Q : PT} {O : Nat → Nat} {T V : Nat → Int64} {m : Nat} (h : gat2 f g P Q O T V) (hp : ∀ i, i < P.n → P.o i < m) (hq : ∀ i, i < Q.n → Q.o i < m) : ∀ i, i < cnt P.n f + cnt Q.n g → O i < m := by
  intro i hi
  by_cases e : i < cnt P.n f
  · obtain ⟨j, h1, h2, h3⟩ := cnt_at e
    have a := (h.1 j h1 h2).1
    rw [h3] at a
    rw [a]
    exact hp j h1
  · obtain ⟨j, h1, h2, h3⟩ := cnt_at (f := g) (n := Q.n) (i := i - cnt P.n f) (by omega)
    have a := (h.2 j h1 h2).1
    rw [h3, show cnt P.n f + (i - cnt P.n f) = i by omega] at a
    rw [a]
    exact hq j h1
theorem ps_sf0 {dA : Nat → ClassId} {nP : Nat → Option Nat} {n k : Nat} {pl : va_W} {PS : Nat → PT} (hk : k + 2 ≤ n) (h : psOk dA nP n pl PS) : psOk dA (sfT nP k 2 (n - (k + 2))) (n - 2) pl (sfT PS k 2 (n - (k + 2))) := by
  intro j hj
  unfold sfT
  by_cases e : k ≤ j ∧ j < k + (n - (k + 2))
  · rw [if_pos e, if_pos e]
    exact h (j + 2) (by omega)
  · rw [if_neg e, if_neg e]
    exact h j (by omega)
theorem ps_sf1 {dA : Nat → ClassId} {nP : Nat → Option Nat} {n k mp : Nat} {pl : va_W} {PS : Nat → PT} {P : PT} (hk : k + 2 ≤ n) (h : psOk dA nP n pl PS) (hp : isPc dA pl mp P) (ho : pcOk P) : psOk dA (sfT (va_up nP k (some mp)) (k + 1) 1 (n - (k + 2))) (n - 1) pl (sfT (va_up PS k P) (k + 1) 1 (n - (k + 2))) := by
  intro j hj
  unfold sfT
  by_cases e : k + 1 ≤ j ∧ j < k + 1 + (n - (k + 2))
  · rw [if_pos e, if_pos e, va_up_ne _ _ (by omega), va_up_ne _ _ (by omega)]
    exact h (j + 1) (by omega)
  · rw [if_neg e, if_neg e]
    by_cases e2 : j = k
    · subst e2
      rw [va_up_self, va_up_self]
      exact ⟨mp, rfl, hp, ho⟩
    · rw [va_up_ne _ _ e2, va_up_ne _ _ e2]
      exact h j (by omega)
/-- the journal's block written, field by field -/
def VS.wjC (x : VS) : Int32 := if x.jch = true then cutF x.cutLeft else x.cutLeft
def VS.wjW (x : VS) : Nat := if x.jch = true then x.writes + 1 else x.writes
def VS.wjK (x : VS) : Nat := if x.jch = true then x.jsize else x.jkept
theorem wjW_le (x : VS) : x.writes ≤ x.wjW ∧ x.wjW ≤ x.writes + 1 := by unfold VS.wjW; split <;> omega
theorem blX {P : PT} {nb : Nat} (h : P.bl = nb) : nI P.bl = nI nb := by rw [h]
theorem wjS_r (x : VS) : x.wjS = VS.s_jch (VS.s_jkept (VS.s_writes (VS.s_cutLeft x x.wjC) x.wjW) x.wjK) false := by
  unfold VS.wjS VS.wjC VS.wjW VS.wjK
  by_cases h : x.jch = true
  · rw [if_pos h, if_pos h, if_pos h, if_pos h]
    rfl
  · have h2 : x.jch = false := by simpa using h
    rw [if_neg h, if_neg h, if_neg h, if_neg h]
    exact (show x = VS.s_jch (VS.s_jkept (VS.s_writes (VS.s_cutLeft x x.cutLeft) x.writes) x.jkept) x.jch from rfl).trans (by rw [h2])
set_option maxHeartbeats 4000000 in
set_option maxRecDepth 100000 in
theorem v_compact_x (l : Launch) (htr : l.stackTraces = false) (D : va_G) (dA : Nat → ClassId) (sz : Nat) (h : Nat) (ad : Nat → Nat) (x : VS) (n : Int32) (ho : x.powered = false) : mX l ⟨"SeriesVault", "compact", "(I)I"⟩ [Cond.code ⟨"SeriesVault", "compact", "(I)I"⟩ prog_1_method_40_code 4 (some FieldType.int)] { frames := 7, cells := 1, slots := 6, locals := 101 } (pC D dA [.ref h, .int n] (VW dA h ad x) sz) "java/lang/IllegalStateException" (fun st9 t9 => va_F (va_A (VW dA h ad x) sz) st9 t9 ∧ bW D (va_A (VW dA h ad x) sz) (VW dA h ad x) t9) 1 6 (va_A (VW dA h ad x) sz) := by
  refine mkX (y := ⟨"SeriesVault", "compact", "(I)I"⟩) (cc := prog_1_method_40_code) (maxL := 4) (av := [.ref h, .int n]) (ws := VW dA h ad x) (sz := sz) (B := fun A => (fun st9 t9 => va_F A st9 t9 ∧ bW D A (VW dA h ad x) t9)) (by decide) (Nat.le_of_ble_eq_true rfl) ?_
  intro A p e s m below meth c ls hsz hno hB
  obtain ⟨hx, hb, hr, hml, hown, hin, hlk, hE, hK, hP, hD, hS, hA, hN, hl⟩ := hB
  have hown : s.vm.findClass "SeriesVault" = some m.cls := hown
  have hl : lv_has ls 4 [(0, .ref h), (1, .int n)] := hl
  obtain ⟨H, hH⟩ : ∃ z, z = s.heap := ⟨_, rfl⟩
  have hP : va_P D vwCl (VW dA h ad x) H := by rw [hH]; exact hP
  have hS : va_S A s.heap H [] := by rw [hH]; exact hS
  rw [← hH]
  refine lv_aload_n hx hb d_V_compact_0 rfl (lv_at hl 0 rfl) ?_
  refine xfV (w1 := VW dA h ad x) (As := []) (rest := []) hx hb hml hown hE hK (hN _ _ hS) (v_checkPower_x l htr D dA H.size h ad x ho) (q0 := 0) rfl rfl w278 w276 w279 w280 w277 rfl rfl ⟨⟨by decide, by decide⟩, rfl⟩ ⟨(Nat.le_of_ble_eq_true rfl), (Nat.le_of_ble_eq_true rfl)⟩ rfl hl.1 rfl (Nat.le_of_ble_eq_true rfl) d_V_compact_1 ⟨(Nat.le_of_ble_eq_true rfl), (Nat.le_of_ble_eq_true rfl)⟩ hP hD hS hA (fun xa1 ce H locs hP hD hS hce hcv hcl => ?_)
  exact xOut hno hlk hce hcv hcl (fun t ht => xEndV hP hD hS t (by rw [ht]; exact Nat.le_refl _) (fun q _ => by rw [ht])) hS.2.2 (Nat.le_of_ble_eq_true rfl) (Nat.le_of_ble_eq_true rfl)
def VS.cpB (x : VS) (PS : Nat → PT) (k : Nat) (ga2 go2 : Nat → Nat) (gt2 gv2 : Nat → Int64) : VS := VS.s_gsize (VS.s_gV (VS.s_gT (VS.s_gO (VS.s_gN (VS.s_gA x ga2) (capR (capR x.gN 0 (cnt (PS k).n (x.sePc (PS k)))) (cnt (PS k).n (x.sePc (PS k))) (cnt (PS (k + 1)).n (x.sePc (PS (k + 1)))))) go2) gt2) gv2) (cnt (PS k).n (x.sePc (PS k)) + cnt (PS (k + 1)).n (x.sePc (PS (k + 1))))
def VS.cp0 (x : VS) (PS : Nat → PT) (k : Nat) (ga2 go2 : Nat → Nat) (gt2 gv2 : Nat → Int64) : VS := VS.s_npc (VS.s_nP (VS.s_gsize (VS.s_gV (VS.s_gT (VS.s_gO (VS.s_gN (VS.s_gA (VS.s_jch (VS.s_jkept (VS.s_writes (VS.s_cutLeft x (cutN x.wjC (0 + 1))) (x.wjW + (0 + 1))) x.wjK) false) ga2) (capR (capR x.gN 0 (cnt (PS k).n (x.sePc (PS k)))) (cnt (PS k).n (x.sePc (PS k))) (cnt (PS (k + 1)).n (x.sePc (PS (k + 1)))))) go2) gt2) gv2) (cnt (PS k).n (x.sePc (PS k)) + cnt (PS (k + 1)).n (x.sePc (PS (k + 1))))) (sfT x.nP k 2 (x.npc - (k + 2)))) (x.npc - 2)
theorem d_V_compact_29 : decode prog_1_method_40_code 29 = .ok (.aload_n 0, 1) := by decide +kernel
theorem d_V_compact_30 : decode prog_1_method_40_code 30 = .ok (.getfield 27, 3) := by decide +kernel
theorem d_V_compact_33 : decode prog_1_method_40_code 33 = .ok (.invokevirtual 120, 3) := by decide +kernel
theorem d_V_compact_36 : decode prog_1_method_40_code 36 = .ok (.aload_n 0, 1) := by decide +kernel
theorem d_V_compact_37 : decode prog_1_method_40_code 37 = .ok (.getfield 33, 3) := by decide +kernel
theorem d_V_compact_40 : decode prog_1_method_40_code 40 = .ok (.aload_n 0, 1) := by decide +kernel
theorem d_V_compact_41 : decode prog_1_method_40_code 41 = .ok (.getfield 33, 3) := by decide +kernel
theorem d_V_compact_44 : decode prog_1_method_40_code 44 = .ok (.getfield 329, 3) := by decide +kernel
theorem d_V_compact_47 : decode prog_1_method_40_code 47 = .ok (.iload_n 1, 1) := by decide +kernel
theorem d_V_compact_48 : decode prog_1_method_40_code 48 = .ok (.aaload, 1) := by decide +kernel
theorem d_V_compact_49 : decode prog_1_method_40_code 49 = .ok (.aload_n 0, 1) := by decide +kernel
theorem d_V_compact_50 : decode prog_1_method_40_code 50 = .ok (.getfield 27, 3) := by decide +kernel
theorem d_V_compact_53 : decode prog_1_method_40_code 53 = .ok (.invokevirtual 333, 3) := by decide +kernel
theorem d_V_compact_56 : decode prog_1_method_40_code 56 = .ok (.aload_n 0, 1) := by decide +kernel
theorem d_V_compact_57 : decode prog_1_method_40_code 57 = .ok (.getfield 33, 3) := by decide +kernel
theorem d_V_compact_60 : decode prog_1_method_40_code 60 = .ok (.aload_n 0, 1) := by decide +kernel
theorem d_V_compact_61 : decode prog_1_method_40_code 61 = .ok (.getfield 33, 3) := by decide +kernel
theorem d_V_compact_64 : decode prog_1_method_40_code 64 = .ok (.getfield 329, 3) := by decide +kernel
theorem d_V_compact_67 : decode prog_1_method_40_code 67 = .ok (.iload_n 1, 1) := by decide +kernel
theorem d_V_compact_68 : decode prog_1_method_40_code 68 = .ok (.iconst 1, 1) := by decide +kernel
theorem d_V_compact_69 : decode prog_1_method_40_code 69 = .ok (.iadd, 1) := by decide +kernel
theorem d_V_compact_70 : decode prog_1_method_40_code 70 = .ok (.aaload, 1) := by decide +kernel
theorem d_V_compact_71 : decode prog_1_method_40_code 71 = .ok (.aload_n 0, 1) := by decide +kernel
theorem d_V_compact_72 : decode prog_1_method_40_code 72 = .ok (.getfield 27, 3) := by decide +kernel
theorem d_V_compact_75 : decode prog_1_method_40_code 75 = .ok (.invokevirtual 333, 3) := by decide +kernel
theorem d_V_compact_78 : decode prog_1_method_40_code 78 = .ok (.aload_n 0, 1) := by decide +kernel
theorem d_V_compact_79 : decode prog_1_method_40_code 79 = .ok (.aload_n 0, 1) := by decide +kernel
theorem d_V_compact_80 : decode prog_1_method_40_code 80 = .ok (.getfield 27, 3) := by decide +kernel
theorem d_V_compact_83 : decode prog_1_method_40_code 83 = .ok (.invokevirtual 294, 3) := by decide +kernel
theorem d_V_compact_86 : decode prog_1_method_40_code 86 = .ok (.astore_n 2, 1) := by decide +kernel
theorem d_V_compact_87 : decode prog_1_method_40_code 87 = .ok (.aload_n 2, 1) := by decide +kernel
theorem d_V_compact_88 : decode prog_1_method_40_code 88 = .ok (.invokestatic 301, 3) := by decide +kernel
theorem d_V_compact_91 : decode prog_1_method_40_code 91 = .ok (.aload_n 0, 1) := by decide +kernel
theorem d_V_compact_92 : decode prog_1_method_40_code 92 = .ok (.invokevirtual 308, 3) := by decide +kernel
theorem d_V_compact_95 : decode prog_1_method_40_code 95 = .ok (.if_icmp .le 11, 3) := by decide +kernel
theorem d_V_compact_106 : decode prog_1_method_40_code 106 = .ok (.aload_n 0, 1) := by decide +kernel
theorem d_V_compact_107 : decode prog_1_method_40_code 107 = .ok (.getfield 111, 3) := by decide +kernel
theorem d_V_compact_110 : decode prog_1_method_40_code 110 = .ok (.istore_n 3, 1) := by decide +kernel
theorem d_V_compact_111 : decode prog_1_method_40_code 111 = .ok (.aload_n 0, 1) := by decide +kernel
theorem d_V_compact_112 : decode prog_1_method_40_code 112 = .ok (.invokevirtual 187, 3) := by decide +kernel
theorem d_V_compact_115 : decode prog_1_method_40_code 115 = .ok (.pop, 1) := by decide +kernel
theorem d_V_compact_116 : decode prog_1_method_40_code 116 = .ok (.aload_n 0, 1) := by decide +kernel
theorem d_V_compact_117 : decode prog_1_method_40_code 117 = .ok (.aload_n 2, 1) := by decide +kernel
theorem d_V_compact_118 : decode prog_1_method_40_code 118 = .ok (.invokestatic 301, 3) := by decide +kernel
theorem d_V_compact_121 : decode prog_1_method_40_code 121 = .ok (.iconst 1, 1) := by decide +kernel
theorem d_V_compact_122 : decode prog_1_method_40_code 122 = .ok (.iadd, 1) := by decide +kernel
theorem d_V_compact_123 : decode prog_1_method_40_code 123 = .ok (.invokevirtual 311, 3) := by decide +kernel
theorem d_V_compact_126 : decode prog_1_method_40_code 126 = .ok (.aload_n 0, 1) := by decide +kernel
theorem d_V_compact_127 : decode prog_1_method_40_code 127 = .ok (.getfield 33, 3) := by decide +kernel
theorem d_V_compact_130 : decode prog_1_method_40_code 130 = .ok (.iload_n 1, 1) := by decide +kernel
theorem d_V_compact_131 : decode prog_1_method_40_code 131 = .ok (.aload_n 2, 1) := by decide +kernel
theorem d_V_compact_132 : decode prog_1_method_40_code 132 = .ok (.invokevirtual 337, 3) := by decide +kernel
theorem d_V_compact_135 : decode prog_1_method_40_code 135 = .ok (.aload_n 0, 1) := by decide +kernel
theorem d_V_compact_136 : decode prog_1_method_40_code 136 = .ok (.invokevirtual 341, 3) := by decide +kernel
theorem d_V_compact_139 : decode prog_1_method_40_code 139 = .ok (.aload_n 0, 1) := by decide +kernel
theorem d_V_compact_140 : decode prog_1_method_40_code 140 = .ok (.getfield 111, 3) := by decide +kernel
theorem d_V_compact_143 : decode prog_1_method_40_code 143 = .ok (.iload_n 3, 1) := by decide +kernel
theorem d_V_compact_144 : decode prog_1_method_40_code 144 = .ok (.isub, 1) := by decide +kernel
theorem d_V_compact_145 : decode prog_1_method_40_code 145 = .ok (.ireturn, 1) := by decide +kernel
theorem w1750 : Cond.methodLink "SeriesVault" 333 ⟨"SeriesVault$Shelf", "gatherSeen", "(LSeriesVault$Parcel;LSeriesVault$Points;)V"⟩ ∈ aW := aw_of (tb_6 (List.mem_of_getElem? (i := 123) rfl)) rfl
theorem w1751 : Cond.code ⟨"SeriesVault$Shelf", "gatherSeen", "(LSeriesVault$Parcel;LSeriesVault$Points;)V"⟩ prog_9_method_21_code 4 none ∈ aW := aw_of (tb_6 (List.mem_of_getElem? (i := 126) rfl)) rfl
theorem w1752 : Cond.instanceMethod ⟨"SeriesVault$Shelf", "gatherSeen", "(LSeriesVault$Parcel;LSeriesVault$Points;)V"⟩ ∈ aW := aw_of (tb_6 (List.mem_of_getElem? (i := 124) rfl)) rfl
theorem w1753 : Cond.selects "SeriesVault$Shelf" ⟨"SeriesVault$Shelf", "gatherSeen", "(LSeriesVault$Parcel;LSeriesVault$Points;)V"⟩ ⟨"SeriesVault$Shelf", "gatherSeen", "(LSeriesVault$Parcel;LSeriesVault$Points;)V"⟩ ∈ aW := aw_of (tb_6 (List.mem_of_getElem? (i := 125) rfl)) rfl
theorem w1754 : Cond.methodLink "SeriesVault" 337 ⟨"SeriesVault$Shelf", "putTogether", "(ILSeriesVault$Parcel;)V"⟩ ∈ aW := aw_of (tb_6 (List.mem_of_getElem? (i := 128) rfl)) rfl
theorem w1755 : Cond.code ⟨"SeriesVault$Shelf", "putTogether", "(ILSeriesVault$Parcel;)V"⟩ prog_9_method_8_code 5 none ∈ aW := aw_of (tb_6 (List.mem_of_getElem? (i := 131) rfl)) rfl
theorem w1756 : Cond.instanceMethod ⟨"SeriesVault$Shelf", "putTogether", "(ILSeriesVault$Parcel;)V"⟩ ∈ aW := aw_of (tb_6 (List.mem_of_getElem? (i := 129) rfl)) rfl
theorem w1757 : Cond.selects "SeriesVault$Shelf" ⟨"SeriesVault$Shelf", "putTogether", "(ILSeriesVault$Parcel;)V"⟩ ⟨"SeriesVault$Shelf", "putTogether", "(ILSeriesVault$Parcel;)V"⟩ ∈ aW := aw_of (tb_6 (List.mem_of_getElem? (i := 130) rfl)) rfl
set_option maxHeartbeats 4000000 in
set_option maxRecDepth 100000 in
theorem v_compact_0 (l : Launch) (D : va_G) (dA : Nat → ClassId) (sz : Nat) (h : Nat) (ad : Nat → Nat) (x : VS) (PS : Nat → PT) (k : Nat) (ho : x.powered = true) (hk : k + 2 ≤ x.npc) (hps : psOk dA x.nP x.npc x.pl PS) (hpn : x.npc ≤ 32) (h1 : x.nsc ≤ 64) (h7 : ∀ q : Nat, q < x.nsc → x.nsO q < 2 ^ 31) (hfr : x.jlimit + 2 + (x.ncat + sumN x.npc (blN PS)) ≤ x.diskBlocks) (hn : x.nser ≤ 256) (hdk : x.diskBlocks ≤ 256) (hg0 : 0 < x.gN) (hg1 : capR (capR x.gN 0 (cnt (PS k).n (x.sePc (PS k)))) (cnt (PS k).n (x.sePc (PS k))) (cnt (PS (k + 1)).n (x.sePc (PS (k + 1)))) ≤ 32768) (hwb : x.writes + 1000 < 2 ^ 31) (hz : (cnt (PS k).n (x.sePc (PS k)) + cnt (PS (k + 1)).n (x.sePc (PS (k + 1)))) = 0) (hw : x.jch = false ∨ ¬ x.cutLeft = 0) (hcz : ∀ j : Nat, j < 0 + 1 → ¬ cutN x.wjC j = 0) : Met l ⟨"SeriesVault", "compact", "(I)I"⟩ [Cond.code ⟨"SeriesVault", "compact", "(I)I"⟩ prog_1_method_40_code 4 (some FieldType.int)] { frames := 5, cells := 3 * (capR (capR x.gN 0 (cnt (PS k).n (x.sePc (PS k)))) (cnt (PS k).n (x.sePc (PS k))) (cnt (PS (k + 1)).n (x.sePc (PS (k + 1)))) - x.gN), slots := 6 * (capR (capR x.gN 0 (cnt (PS k).n (x.sePc (PS k)))) (cnt (PS k).n (x.sePc (PS k))) (cnt (PS (k + 1)).n (x.sePc (PS (k + 1)))) - x.gN), locals := 110 } (pC D dA [.ref h, .int (nI k)] (VW dA h ad x) sz) (va_Qi (fun (r9 : Int32) (u9 : VS) => r9 = nI (x.wjW + (0 + 1) - x.writes) ∧ (∃ (ga2 go2 : Nat → Nat) (gt2 gv2 : Nat → Int64), u9 = (x.cp0 PS k ga2 go2 gt2 gv2).kmS (sfT PS k 2 (x.npc - (k + 2))))) (fun (u9 : VS) t9 => bW D (va_A (VW dA h ad x) sz) (VW dA h ad u9) t9) (va_A (VW dA h ad x) sz)) (3 * (capR (capR x.gN 0 (cnt (PS k).n (x.sePc (PS k)))) (cnt (PS k).n (x.sePc (PS k))) (cnt (PS (k + 1)).n (x.sePc (PS (k + 1)))) - x.gN)) (6 * (capR (capR x.gN 0 (cnt (PS k).n (x.sePc (PS k)))) (cnt (PS k).n (x.sePc (PS k))) (cnt (PS (k + 1)).n (x.sePc (PS (k + 1)))) - x.gN)) (va_A (VW dA h ad x) sz) := by
  refine mkC (y := ⟨"SeriesVault", "compact", "(I)I"⟩) (cc := prog_1_method_40_code) (maxL := 4) (av := [.ref h, .int (nI k)]) (ws := VW dA h ad x) (sz := sz) (Qc := fun A => va_Qi (fun (r9 : Int32) (u9 : VS) => r9 = nI (x.wjW + (0 + 1) - x.writes) ∧ (∃ (ga2 go2 : Nat → Nat) (gt2 gv2 : Nat → Int64), u9 = (x.cp0 PS k ga2 go2 gt2 gv2).kmS (sfT PS k 2 (x.npc - (k + 2))))) (fun (u9 : VS) t9 => bW D A (VW dA h ad u9) t9) A) (by decide) (Nat.le_of_ble_eq_true rfl) ?_
  intro A p e s m below meth c ls hsz hB
  obtain ⟨hx, hb, hr, hml, hown, hin, hlk, hE, hK, hP, hD, hS, hA, hN, hl⟩ := hB
  have hown : s.vm.findClass "SeriesVault" = some m.cls := hown
  have hl : lv_has ls 4 [(0, .ref h), (1, .int (nI k))] := hl
  obtain ⟨H, hH⟩ : ∃ z, z = s.heap := ⟨_, rfl⟩
  have hP : va_P D vwCl (VW dA h ad x) H := by rw [hH]; exact hP
  have hS : va_S A s.heap H [] := by rw [hH]; exact hS
  rw [← hH]
  refine lv_aload_n hx hb d_V_compact_0 rfl (lv_at hl 0 rfl) ?_
  refine jkV (wr := []) (rnV (As := []) (rest := []) hx hb hml hown hE hK (hN _ _ hS) hP hD (v_checkPower l D dA H.size h ad x ho) (q0 := 0) rfl rfl w278 w276 w279 w280 w277 rfl rfl ⟨⟨by decide, by decide⟩, rfl⟩ ⟨(Nat.le_of_ble_eq_true rfl), (Nat.le_of_ble_eq_true rfl)⟩ rfl hl.1 rfl (Nat.le_of_ble_eq_true rfl) d_V_compact_1 ⟨(show 0 + 0 ≤ 3 * (capR (capR x.gN 0 (cnt (PS k).n (x.sePc (PS k)))) (cnt (PS k).n (x.sePc (PS k))) (cnt (PS (k + 1)).n (x.sePc (PS (k + 1)))) - x.gN) by omega), (show 0 + 0 ≤ 6 * (capR (capR x.gN 0 (cnt (PS k).n (x.sePc (PS k)))) (cnt (PS k).n (x.sePc (PS k))) (cnt (PS (k + 1)).n (x.sePc (PS (k + 1)))) - x.gN) by omega)⟩) hP hD hS hA (fun u2 H locs hp9 hP hD hS => ?_)
  have hP : va_P D vwCl (VW dA h ad x) H := hP
  have hD : va_D A (VW dA h ad x) := hD
  refine lv_iload_n hx hb d_V_compact_4 rfl (lv_at hl 1 rfl) ?_
  refine lv_if_lt hx hb d_V_compact_5 (tgt := 21) rfl (fun h9 => absurd h9 (nI_pos (n := k) (by omega))) (fun _ => ?_)
  refine lv_iload_n hx hb d_V_compact_8 rfl (lv_at hl 1 rfl) ?_
  refine lv_aload_n hx hb d_V_compact_9 rfl (lv_at hl 0 rfl) ?_
  refine gF (v := .ref (ad 3)) hx hb hown hE hK hP 0 rfl rfl layV 11 (by decide) w297 rfl d_V_compact_10 ?_
  refine gFN (v := .int (nI x.npc)) hx hb hown hE hK hP 17 rfl rfl layH 1 (by decide) w303 rfl d_V_compact_13 ?_
  refine lv_iconst (v := 1) hx hb d_V_compact_16 (by decide) ?_
  refine lv_isub hx hb d_V_compact_17 (tpi (y := nI (x.npc - 1)) (pk_sub (a := x.npc) (b := 1) (by omega)) ?_)
  refine lv_icmp_lt hx hb d_V_compact_18 (tgt := 29) rfl (fun g3 => ?_) (fun g3 => ?_)
  rotate_left
  · have g3 := mt (nI_ltI (a := k) (b := x.npc - 1) (by omega) (by omega)).mpr g3; exfalso; omega
  have g3 := (nI_ltI (a := k) (b := x.npc - 1) (by omega) (by omega)).mp g3
  obtain ⟨pp, ke, hpp, hpk⟩ := hps k (by omega)
  obtain ⟨qq, ke2, hqq, hqk⟩ := hps (k + 1) (by omega)
  have cl1 := cnt_le (PS k).n (x.sePc (PS k))
  have cl2 := cnt_le (PS (k + 1)).n (x.sePc (PS (k + 1)))
  have pk0 := hpk.1
  have qk0 := hqk.1
  have cm1 := capR_m (capR x.gN 0 (cnt (PS k).n (x.sePc (PS k)))) (cnt (PS k).n (x.sePc (PS k))) (Nat.zero_le (cnt (PS (k + 1)).n (x.sePc (PS (k + 1)))))
  have cm2 : capR (capR x.gN 0 (cnt (PS k).n (x.sePc (PS k)))) (cnt (PS k).n (x.sePc (PS k))) 0 = capR x.gN 0 (cnt (PS k).n (x.sePc (PS k))) := rfl
  have cm3 := capR_m x.gN 0 (Nat.zero_le (cnt (PS k).n (x.sePc (PS k))))
  have cm4 : capR x.gN 0 0 = x.gN := rfl
  have hfe : x.fr PS = x.diskBlocks - 2 - x.jlimit - (x.ncat + sumN x.npc (blN PS)) := rfl
  refine lv_aload_n hx hb d_V_compact_29 rfl (lv_at hl 0 rfl) ?_
  refine gF (v := .ref (ad 2)) hx hb hown hE hK hP 0 rfl rfl layV 10 (by decide) w826 rfl d_V_compact_30 ?_
  refine jkV (wr := []) (rnV (As := []) (rest := []) hx hb hml hown hE hK (hN _ _ hS) hP hD (v_pclear_g l D dA H.size h ad x) (q0 := 13) rfl rfl w579 w577 w580 w581 w578 rfl rfl ⟨⟨by decide, by decide⟩, rfl⟩ ⟨(Nat.le_of_ble_eq_true rfl), (Nat.le_of_ble_eq_true rfl)⟩ rfl hl.1 rfl (Nat.le_of_ble_eq_true rfl) d_V_compact_33 ⟨(show 0 + 0 + 0 ≤ 3 * (capR (capR x.gN 0 (cnt (PS k).n (x.sePc (PS k)))) (cnt (PS k).n (x.sePc (PS k))) (cnt (PS (k + 1)).n (x.sePc (PS (k + 1)))) - x.gN) by omega), (show 0 + 0 + 0 ≤ 6 * (capR (capR x.gN 0 (cnt (PS k).n (x.sePc (PS k)))) (cnt (PS k).n (x.sePc (PS k))) (cnt (PS (k + 1)).n (x.sePc (PS (k + 1)))) - x.gN) by omega)⟩) hP hD hS hA (fun u5 H locs hp9 hP hD hS => ?_)
  have hP : va_P D vwCl (VW dA h ad (VS.s_gsize x 0)) H := hP
  have hD : va_D A (VW dA h ad (VS.s_gsize x 0)) := hD
  refine lv_aload_n hx hb d_V_compact_36 rfl (lv_at hl 0 rfl) ?_
  refine gF (v := .ref (ad 3)) hx hb hown hE hK hP 0 rfl rfl layV 11 (by decide) w297 rfl d_V_compact_37 ?_
  refine lv_aload_n hx hb d_V_compact_40 rfl (lv_at hl 0 rfl) ?_
  refine gF (v := .ref (ad 3)) hx hb hown hE hK hP 0 rfl rfl layV 11 (by decide) w297 rfl d_V_compact_41 ?_
  refine gFN (v := .ref (ad 4)) hx hb hown hE hK hP 17 rfl rfl layH 0 (by decide) w1347 rfl d_V_compact_44 ?_
  refine lv_iload_n hx hb d_V_compact_47 rfl (lv_at hl 1 rfl) ?_
  refine nqld (f := x.nP) (n := 32) hx hb hK hP (18) 4 rfl rfl (k) (by omega) (by decide) ke d_V_compact_48 ?_
  refine lv_aload_n hx hb d_V_compact_49 rfl (lv_at hl 0 rfl) ?_
  refine gF (v := .ref (ad 2)) hx hb hown hE hK hP 0 rfl rfl layV 10 (by decide) w826 rfl d_V_compact_50 ?_
  refine jkV (wr := []) (rnV (As := [.ref pp, .ref (ad 2)]) (rest := []) hx hb hml hown hE hK (hN _ _ hS) hP hD (v_gatherSeen l D dA H.size h ad (VS.s_gsize x 0) pp (PS k) hpp hpk (show x.nsc ≤ 64 from by omega) h7 (Nat.zero_le _) (show 0 < x.gN from by omega) (show capR x.gN 0 (cnt (PS k).n (x.sePc (PS k))) ≤ 32768 from by omega)) (q0 := 17) rfl rfl w1751 w1750 w1752 w1753 w583 rfl rfl ⟨⟨by decide, by decide⟩, rfl⟩ ⟨(Nat.le_of_ble_eq_true rfl), (Nat.le_of_ble_eq_true rfl)⟩ rfl hl.1 rfl (Nat.le_of_ble_eq_true rfl) d_V_compact_53 ⟨(show 0 + 0 + 0 + (3 * (capR x.gN 0 (cnt (PS k).n (x.sePc (PS k))) - x.gN)) ≤ 3 * (capR (capR x.gN 0 (cnt (PS k).n (x.sePc (PS k)))) (cnt (PS k).n (x.sePc (PS k))) (cnt (PS (k + 1)).n (x.sePc (PS (k + 1)))) - x.gN) by omega), (show 0 + 0 + 0 + (6 * (capR x.gN 0 (cnt (PS k).n (x.sePc (PS k))) - x.gN)) ≤ 6 * (capR (capR x.gN 0 (cnt (PS k).n (x.sePc (PS k)))) (cnt (PS k).n (x.sePc (PS k))) (cnt (PS (k + 1)).n (x.sePc (PS (k + 1)))) - x.gN) by omega)⟩) hP hD hS hA (fun u7 H locs hp9 hP hD hS => ?_)
  obtain ⟨y8, h9u⟩ : ∃ z9, z9 = u7 := ⟨_, rfl⟩
  subst h9u
  have hP : va_P D vwCl (VW dA h ad y8) H := hP
  have hD : va_D A (VW dA h ad y8) := hD
  have f_g_9 := hp9
  obtain ⟨ga, gn, go, gt, gv, gz, ey, z1, z2, z3, z4, z5⟩ := gaR_u f_g_9
  subst ey
  have hP : va_P D vwCl (VW dA h ad (VS.s_gsize (VS.s_gV (VS.s_gT (VS.s_gO (VS.s_gN (VS.s_gA x ga) gn) go) gt) gv) gz)) H := hP
  have hD : va_D A (VW dA h ad (VS.s_gsize (VS.s_gV (VS.s_gT (VS.s_gO (VS.s_gN (VS.s_gA x ga) gn) go) gt) gv) gz)) := hD
  have z1 : gz = cnt (PS k).n (x.sePc (PS k)) := z1.trans (Nat.zero_add _)
  have z3 : gn = capR x.gN 0 (cnt (PS k).n (x.sePc (PS k))) := z3
  have z5a : ∀ j, j < (PS k).n → x.sePc (PS k) j = true → go (0 + cnt j (x.sePc (PS k))) = (PS k).o j ∧ gt (0 + cnt j (x.sePc (PS k))) = (PS k).t j ∧ gv (0 + cnt j (x.sePc (PS k))) = (PS k).v j := z5
  have z2a := z2
  subst z1
  subst z3
  have hP : va_P D vwCl (VW dA h ad (VS.s_gsize (VS.s_gV (VS.s_gT (VS.s_gO (VS.s_gN (VS.s_gA x ga) (capR x.gN 0 (cnt (PS k).n (x.sePc (PS k))))) go) gt) gv) (cnt (PS k).n (x.sePc (PS k))))) H := hP
  have hD : va_D A (VW dA h ad (VS.s_gsize (VS.s_gV (VS.s_gT (VS.s_gO (VS.s_gN (VS.s_gA x ga) (capR x.gN 0 (cnt (PS k).n (x.sePc (PS k))))) go) gt) gv) (cnt (PS k).n (x.sePc (PS k))))) := hD
  refine lv_aload_n hx hb d_V_compact_56 rfl (lv_at hl 0 rfl) ?_
  refine gF (v := .ref (ad 3)) hx hb hown hE hK hP 0 rfl rfl layV 11 (by decide) w297 rfl d_V_compact_57 ?_
  refine lv_aload_n hx hb d_V_compact_60 rfl (lv_at hl 0 rfl) ?_
  refine gF (v := .ref (ad 3)) hx hb hown hE hK hP 0 rfl rfl layV 11 (by decide) w297 rfl d_V_compact_61 ?_
  refine gFN (v := .ref (ad 4)) hx hb hown hE hK hP 17 rfl rfl layH 0 (by decide) w1347 rfl d_V_compact_64 ?_
  refine lv_iload_n hx hb d_V_compact_67 rfl (lv_at hl 1 rfl) ?_
  refine lv_iconst (v := 1) hx hb d_V_compact_68 (by decide) ?_
  refine lv_iadd hx hb d_V_compact_69 (tpi (y := nI (k + 1)) (nI_add (k) (1)) ?_)
  refine nqld (f := x.nP) (n := 32) hx hb hK hP (18) 4 rfl rfl (k + 1) (by omega) (by decide) ke2 d_V_compact_70 ?_
  refine lv_aload_n hx hb d_V_compact_71 rfl (lv_at hl 0 rfl) ?_
  refine gF (v := .ref (ad 2)) hx hb hown hE hK hP 0 rfl rfl layV 10 (by decide) w826 rfl d_V_compact_72 ?_
  refine jkV (wr := []) (rnV (As := [.ref qq, .ref (ad 2)]) (rest := []) hx hb hml hown hE hK (hN _ _ hS) hP hD (v_gatherSeen l D dA H.size h ad (VS.s_gsize (VS.s_gV (VS.s_gT (VS.s_gO (VS.s_gN (VS.s_gA x ga) (capR x.gN 0 (cnt (PS k).n (x.sePc (PS k))))) go) gt) gv) (cnt (PS k).n (x.sePc (PS k)))) qq (PS (k + 1)) hqq hqk (show x.nsc ≤ 64 from by omega) h7 z2a (show 0 < (capR x.gN 0 (cnt (PS k).n (x.sePc (PS k)))) from by omega) hg1) (q0 := 17) rfl rfl w1751 w1750 w1752 w1753 w583 rfl rfl ⟨⟨by decide, by decide⟩, rfl⟩ ⟨(Nat.le_of_ble_eq_true rfl), (Nat.le_of_ble_eq_true rfl)⟩ rfl hl.1 rfl (Nat.le_of_ble_eq_true rfl) d_V_compact_75 ⟨(show 0 + 0 + 0 + (3 * (capR x.gN 0 (cnt (PS k).n (x.sePc (PS k))) - x.gN)) + (3 * (capR (capR x.gN 0 (cnt (PS k).n (x.sePc (PS k)))) (cnt (PS k).n (x.sePc (PS k))) (cnt (PS (k + 1)).n (x.sePc (PS (k + 1)))) - (capR x.gN 0 (cnt (PS k).n (x.sePc (PS k)))))) ≤ 3 * (capR (capR x.gN 0 (cnt (PS k).n (x.sePc (PS k)))) (cnt (PS k).n (x.sePc (PS k))) (cnt (PS (k + 1)).n (x.sePc (PS (k + 1)))) - x.gN) by omega), (show 0 + 0 + 0 + (6 * (capR x.gN 0 (cnt (PS k).n (x.sePc (PS k))) - x.gN)) + (6 * (capR (capR x.gN 0 (cnt (PS k).n (x.sePc (PS k)))) (cnt (PS k).n (x.sePc (PS k))) (cnt (PS (k + 1)).n (x.sePc (PS (k + 1)))) - (capR x.gN 0 (cnt (PS k).n (x.sePc (PS k)))))) ≤ 6 * (capR (capR x.gN 0 (cnt (PS k).n (x.sePc (PS k)))) (cnt (PS k).n (x.sePc (PS k))) (cnt (PS (k + 1)).n (x.sePc (PS (k + 1)))) - x.gN) by omega)⟩) hP hD hS hA (fun u11 H locs hp9 hP hD hS => ?_)
  obtain ⟨y12, h9u⟩ : ∃ z9, z9 = u11 := ⟨_, rfl⟩
  subst h9u
  have hP : va_P D vwCl (VW dA h ad y12) H := hP
  have hD : va_D A (VW dA h ad y12) := hD
  have f_g_13 := hp9
  obtain ⟨ga2, gn2, go2, gt2, gv2, gz2, ey, z1, z2, z3, z4, z5⟩ := gaR_u f_g_13
  subst ey
  have hP : va_P D vwCl (VW dA h ad (VS.s_gsize (VS.s_gV (VS.s_gT (VS.s_gO (VS.s_gN (VS.s_gA x ga2) gn2) go2) gt2) gv2) gz2)) H := hP
  have hD : va_D A (VW dA h ad (VS.s_gsize (VS.s_gV (VS.s_gT (VS.s_gO (VS.s_gN (VS.s_gA x ga2) gn2) go2) gt2) gv2) gz2)) := hD
  have z1 : gz2 = (cnt (PS k).n (x.sePc (PS k)) + cnt (PS (k + 1)).n (x.sePc (PS (k + 1)))) := z1
  have z3 : gn2 = capR (capR x.gN 0 (cnt (PS k).n (x.sePc (PS k)))) (cnt (PS k).n (x.sePc (PS k))) (cnt (PS (k + 1)).n (x.sePc (PS (k + 1)))) := z3
  have z2b : gz2 ≤ gn2 := z2
  have hgt : gat2 (x.sePc (PS k)) (x.sePc (PS (k + 1))) (PS k) (PS (k + 1)) go2 gt2 gv2 := gat2_m z5a z4 z5
  subst z1
  subst z3
  have hP : va_P D vwCl (VW dA h ad (VS.s_gsize (VS.s_gV (VS.s_gT (VS.s_gO (VS.s_gN (VS.s_gA x ga2) (capR (capR x.gN 0 (cnt (PS k).n (x.sePc (PS k)))) (cnt (PS k).n (x.sePc (PS k))) (cnt (PS (k + 1)).n (x.sePc (PS (k + 1)))))) go2) gt2) gv2) (cnt (PS k).n (x.sePc (PS k)) + cnt (PS (k + 1)).n (x.sePc (PS (k + 1)))))) H := hP
  have hD : va_D A (VW dA h ad (VS.s_gsize (VS.s_gV (VS.s_gT (VS.s_gO (VS.s_gN (VS.s_gA x ga2) (capR (capR x.gN 0 (cnt (PS k).n (x.sePc (PS k)))) (cnt (PS k).n (x.sePc (PS k))) (cnt (PS (k + 1)).n (x.sePc (PS (k + 1)))))) go2) gt2) gv2) (cnt (PS k).n (x.sePc (PS k)) + cnt (PS (k + 1)).n (x.sePc (PS (k + 1)))))) := hD
  refine lv_aload_n hx hb d_V_compact_78 rfl (lv_at hl 0 rfl) ?_
  refine lv_aload_n hx hb d_V_compact_79 rfl (lv_at hl 0 rfl) ?_
  refine gF (v := .ref (ad 2)) hx hb hown hE hK hP 0 rfl rfl layV 10 (by decide) w826 rfl d_V_compact_80 ?_
  refine jkN (wr := []) (rnV (As := [.ref (ad 2)]) (rest := []) hx hb hml hown hE hK (hN _ _ hS) hP hD (v_packed_0g l D dA H.size h ad (VS.s_gsize (VS.s_gV (VS.s_gT (VS.s_gO (VS.s_gN (VS.s_gA x ga2) (capR (capR x.gN 0 (cnt (PS k).n (x.sePc (PS k)))) (cnt (PS k).n (x.sePc (PS k))) (cnt (PS (k + 1)).n (x.sePc (PS (k + 1)))))) go2) gt2) gv2) (cnt (PS k).n (x.sePc (PS k)) + cnt (PS (k + 1)).n (x.sePc (PS (k + 1))))) hz) (q0 := 0) rfl rfl w1383 w1382 w1384 w1385 w277 rfl rfl ⟨⟨by decide, by decide⟩, rfl⟩ ⟨(Nat.le_of_ble_eq_true rfl), (Nat.le_of_ble_eq_true rfl)⟩ rfl hl.1 rfl (Nat.le_of_ble_eq_true rfl) d_V_compact_83 ⟨(show 0 + 0 + 0 + (3 * (capR x.gN 0 (cnt (PS k).n (x.sePc (PS k))) - x.gN)) + (3 * (capR (capR x.gN 0 (cnt (PS k).n (x.sePc (PS k)))) (cnt (PS k).n (x.sePc (PS k))) (cnt (PS (k + 1)).n (x.sePc (PS (k + 1)))) - (capR x.gN 0 (cnt (PS k).n (x.sePc (PS k)))))) + 0 ≤ 3 * (capR (capR x.gN 0 (cnt (PS k).n (x.sePc (PS k)))) (cnt (PS k).n (x.sePc (PS k))) (cnt (PS (k + 1)).n (x.sePc (PS (k + 1)))) - x.gN) by omega), (show 0 + 0 + 0 + (6 * (capR x.gN 0 (cnt (PS k).n (x.sePc (PS k))) - x.gN)) + (6 * (capR (capR x.gN 0 (cnt (PS k).n (x.sePc (PS k)))) (cnt (PS k).n (x.sePc (PS k))) (cnt (PS (k + 1)).n (x.sePc (PS (k + 1)))) - (capR x.gN 0 (cnt (PS k).n (x.sePc (PS k)))))) + 0 ≤ 6 * (capR (capR x.gN 0 (cnt (PS k).n (x.sePc (PS k)))) (cnt (PS k).n (x.sePc (PS k))) (cnt (PS (k + 1)).n (x.sePc (PS (k + 1)))) - x.gN) by omega)⟩) hP hD hS hA (fun u15 H locs hp9 hP hD hS => ?_)
  have hP : va_P D vwCl (VW dA h ad (VS.s_gsize (VS.s_gV (VS.s_gT (VS.s_gO (VS.s_gN (VS.s_gA x ga2) (capR (capR x.gN 0 (cnt (PS k).n (x.sePc (PS k)))) (cnt (PS k).n (x.sePc (PS k))) (cnt (PS (k + 1)).n (x.sePc (PS (k + 1)))))) go2) gt2) gv2) (cnt (PS k).n (x.sePc (PS k)) + cnt (PS (k + 1)).n (x.sePc (PS (k + 1)))))) H := hP
  have hD : va_D A (VW dA h ad (VS.s_gsize (VS.s_gV (VS.s_gT (VS.s_gO (VS.s_gN (VS.s_gA x ga2) (capR (capR x.gN 0 (cnt (PS k).n (x.sePc (PS k)))) (cnt (PS k).n (x.sePc (PS k))) (cnt (PS (k + 1)).n (x.sePc (PS (k + 1)))))) go2) gt2) gv2) (cnt (PS k).n (x.sePc (PS k)) + cnt (PS (k + 1)).n (x.sePc (PS (k + 1)))))) := hD
  refine lv_astore_nN hx hb d_V_compact_86 rfl hl (by decide) rfl (fun ls hl => ?_)
  have hl : lv_has ls 4 [(2, .null), (0, .ref h), (1, .int (nI k))] := hl
  refine lv_aload_nN hx hb d_V_compact_87 rfl (lv_at hl 0 rfl) ?_
  have hPc := hP.sub (ws' := []) [] rfl
  have hDc := hD.sub (ws' := []) [] (by decide) rfl
  refine jpI (rnS (As := [.null]) (rest := []) hx hb hml hown hE hK (hN _ _ hS) hPc hDc (v_blocksOf_0 l D dA H.size ) w1391 w1390 w1392 w277 rfl rfl ⟨⟨by decide, by decide⟩, rfl⟩ ⟨(Nat.le_of_ble_eq_true rfl), (Nat.le_of_ble_eq_true rfl)⟩ rfl hl.1 rfl (Nat.le_of_ble_eq_true rfl) d_V_compact_88 ⟨(show 0 + 0 + 0 + (3 * (capR x.gN 0 (cnt (PS k).n (x.sePc (PS k))) - x.gN)) + (3 * (capR (capR x.gN 0 (cnt (PS k).n (x.sePc (PS k)))) (cnt (PS k).n (x.sePc (PS k))) (cnt (PS (k + 1)).n (x.sePc (PS (k + 1)))) - (capR x.gN 0 (cnt (PS k).n (x.sePc (PS k)))))) + 0 + 0 ≤ 3 * (capR (capR x.gN 0 (cnt (PS k).n (x.sePc (PS k)))) (cnt (PS k).n (x.sePc (PS k))) (cnt (PS (k + 1)).n (x.sePc (PS (k + 1)))) - x.gN) by omega), (show 0 + 0 + 0 + (6 * (capR x.gN 0 (cnt (PS k).n (x.sePc (PS k))) - x.gN)) + (6 * (capR (capR x.gN 0 (cnt (PS k).n (x.sePc (PS k)))) (cnt (PS k).n (x.sePc (PS k))) (cnt (PS (k + 1)).n (x.sePc (PS (k + 1)))) - (capR x.gN 0 (cnt (PS k).n (x.sePc (PS k)))))) + 0 + 0 ≤ 6 * (capR (capR x.gN 0 (cnt (PS k).n (x.sePc (PS k)))) (cnt (PS k).n (x.sePc (PS k))) (cnt (PS (k + 1)).n (x.sePc (PS (k + 1)))) - x.gN) by omega)⟩) hP hD hS hA (fun r16 u9 H locs hp9 hP hD hS => ?_)
  have hP : va_P D vwCl (VW dA h ad (VS.s_gsize (VS.s_gV (VS.s_gT (VS.s_gO (VS.s_gN (VS.s_gA x ga2) (capR (capR x.gN 0 (cnt (PS k).n (x.sePc (PS k)))) (cnt (PS k).n (x.sePc (PS k))) (cnt (PS (k + 1)).n (x.sePc (PS (k + 1)))))) go2) gt2) gv2) (cnt (PS k).n (x.sePc (PS k)) + cnt (PS (k + 1)).n (x.sePc (PS (k + 1)))))) H := hP
  have hD : va_D A (VW dA h ad (VS.s_gsize (VS.s_gV (VS.s_gT (VS.s_gO (VS.s_gN (VS.s_gA x ga2) (capR (capR x.gN 0 (cnt (PS k).n (x.sePc (PS k)))) (cnt (PS k).n (x.sePc (PS k))) (cnt (PS (k + 1)).n (x.sePc (PS (k + 1)))))) go2) gt2) gv2) (cnt (PS k).n (x.sePc (PS k)) + cnt (PS (k + 1)).n (x.sePc (PS (k + 1)))))) := hD
  replace hp9 : 0 = r16 := Eq.symm hp9
  subst hp9
  refine lv_aload_n hx hb d_V_compact_91 rfl (lv_at hl 1 rfl) ?_
  refine jkI (wr := []) (rnV (As := []) (rest := [.int 0]) hx hb hml hown hE hK (hN _ _ hS) hP hD (v_freeBlocks l D dA H.size h ad (VS.s_gsize (VS.s_gV (VS.s_gT (VS.s_gO (VS.s_gN (VS.s_gA x ga2) (capR (capR x.gN 0 (cnt (PS k).n (x.sePc (PS k)))) (cnt (PS k).n (x.sePc (PS k))) (cnt (PS (k + 1)).n (x.sePc (PS (k + 1)))))) go2) gt2) gv2) (cnt (PS k).n (x.sePc (PS k)) + cnt (PS (k + 1)).n (x.sePc (PS (k + 1))))) PS hps (show x.npc ≤ 32 from by omega) (show x.jlimit + 2 + (x.ncat + sumN x.npc (blN PS)) ≤ x.diskBlocks from by omega)) (q0 := 0) rfl rfl w644 w643 w645 w646 w277 rfl rfl ⟨⟨by decide, by decide⟩, rfl⟩ ⟨(Nat.le_of_ble_eq_true rfl), (Nat.le_of_ble_eq_true rfl)⟩ rfl hl.1 rfl (Nat.le_of_ble_eq_true rfl) d_V_compact_92 ⟨(show 0 + 0 + 0 + (3 * (capR x.gN 0 (cnt (PS k).n (x.sePc (PS k))) - x.gN)) + (3 * (capR (capR x.gN 0 (cnt (PS k).n (x.sePc (PS k)))) (cnt (PS k).n (x.sePc (PS k))) (cnt (PS (k + 1)).n (x.sePc (PS (k + 1)))) - (capR x.gN 0 (cnt (PS k).n (x.sePc (PS k)))))) + 0 + 0 + 0 ≤ 3 * (capR (capR x.gN 0 (cnt (PS k).n (x.sePc (PS k)))) (cnt (PS k).n (x.sePc (PS k))) (cnt (PS (k + 1)).n (x.sePc (PS (k + 1)))) - x.gN) by omega), (show 0 + 0 + 0 + (6 * (capR x.gN 0 (cnt (PS k).n (x.sePc (PS k))) - x.gN)) + (6 * (capR (capR x.gN 0 (cnt (PS k).n (x.sePc (PS k)))) (cnt (PS k).n (x.sePc (PS k))) (cnt (PS (k + 1)).n (x.sePc (PS (k + 1)))) - (capR x.gN 0 (cnt (PS k).n (x.sePc (PS k)))))) + 0 + 0 + 0 ≤ 6 * (capR (capR x.gN 0 (cnt (PS k).n (x.sePc (PS k)))) (cnt (PS k).n (x.sePc (PS k))) (cnt (PS (k + 1)).n (x.sePc (PS (k + 1)))) - x.gN) by omega)⟩) hP hD hS hA (fun r18 u19 H locs hp9 hP hD hS => ?_)
  have hP : va_P D vwCl (VW dA h ad (VS.s_gsize (VS.s_gV (VS.s_gT (VS.s_gO (VS.s_gN (VS.s_gA x ga2) (capR (capR x.gN 0 (cnt (PS k).n (x.sePc (PS k)))) (cnt (PS k).n (x.sePc (PS k))) (cnt (PS (k + 1)).n (x.sePc (PS (k + 1)))))) go2) gt2) gv2) (cnt (PS k).n (x.sePc (PS k)) + cnt (PS (k + 1)).n (x.sePc (PS (k + 1)))))) H := hP
  have hD : va_D A (VW dA h ad (VS.s_gsize (VS.s_gV (VS.s_gT (VS.s_gO (VS.s_gN (VS.s_gA x ga2) (capR (capR x.gN 0 (cnt (PS k).n (x.sePc (PS k)))) (cnt (PS k).n (x.sePc (PS k))) (cnt (PS (k + 1)).n (x.sePc (PS (k + 1)))))) go2) gt2) gv2) (cnt (PS k).n (x.sePc (PS k)) + cnt (PS (k + 1)).n (x.sePc (PS (k + 1)))))) := hD
  replace hp9 : nI (x.fr PS) = r18 := Eq.symm hp9
  subst hp9
  refine lv_icmp_le hx hb d_V_compact_95 (tgt := 106) rfl (fun g20 => ?_) (fun g20 => ?_)
  rotate_left
  · have g20 := mt (nI_leI (a := 0) (b := x.fr PS) (by omega) (by omega)).mpr g20; exfalso; omega
  have g20 := (nI_leI (a := 0) (b := x.fr PS) (by omega) (by omega)).mp g20
  refine lv_aload_n hx hb d_V_compact_106 rfl (lv_at hl 1 rfl) ?_
  refine gF (v := .int (nI x.writes)) hx hb hown hE hK hP 0 rfl rfl layV 7 (by decide) w209 rfl d_V_compact_107 ?_
  refine lv_istore_n hx hb d_V_compact_110 rfl hl (by decide) rfl (fun ls hl => ?_)
  have hl : lv_has ls 4 [(3, .int (nI x.writes)), (2, .null), (0, .ref h), (1, .int (nI k))] := hl
  refine lv_aload_n hx hb d_V_compact_111 rfl (lv_at hl 2 rfl) ?_
  refine jkI (wr := []) (rnV (As := []) (rest := []) hx hb hml hown hE hK (hN _ _ hS) hP hD (v_wjb l D dA H.size h ad (VS.s_gsize (VS.s_gV (VS.s_gT (VS.s_gO (VS.s_gN (VS.s_gA x ga2) (capR (capR x.gN 0 (cnt (PS k).n (x.sePc (PS k)))) (cnt (PS k).n (x.sePc (PS k))) (cnt (PS (k + 1)).n (x.sePc (PS (k + 1)))))) go2) gt2) gv2) (cnt (PS k).n (x.sePc (PS k)) + cnt (PS (k + 1)).n (x.sePc (PS (k + 1))))) hw) (q0 := 0) rfl rfl w315 w314 w316 w317 w277 rfl rfl ⟨⟨by decide, by decide⟩, rfl⟩ ⟨(Nat.le_of_ble_eq_true rfl), (Nat.le_of_ble_eq_true rfl)⟩ rfl hl.1 rfl (Nat.le_of_ble_eq_true rfl) d_V_compact_112 ⟨(show 0 + 0 + 0 + (3 * (capR x.gN 0 (cnt (PS k).n (x.sePc (PS k))) - x.gN)) + (3 * (capR (capR x.gN 0 (cnt (PS k).n (x.sePc (PS k)))) (cnt (PS k).n (x.sePc (PS k))) (cnt (PS (k + 1)).n (x.sePc (PS (k + 1)))) - (capR x.gN 0 (cnt (PS k).n (x.sePc (PS k)))))) + 0 + 0 + 0 + 0 ≤ 3 * (capR (capR x.gN 0 (cnt (PS k).n (x.sePc (PS k)))) (cnt (PS k).n (x.sePc (PS k))) (cnt (PS (k + 1)).n (x.sePc (PS (k + 1)))) - x.gN) by omega), (show 0 + 0 + 0 + (6 * (capR x.gN 0 (cnt (PS k).n (x.sePc (PS k))) - x.gN)) + (6 * (capR (capR x.gN 0 (cnt (PS k).n (x.sePc (PS k)))) (cnt (PS k).n (x.sePc (PS k))) (cnt (PS (k + 1)).n (x.sePc (PS (k + 1)))) - (capR x.gN 0 (cnt (PS k).n (x.sePc (PS k)))))) + 0 + 0 + 0 + 0 ≤ 6 * (capR (capR x.gN 0 (cnt (PS k).n (x.sePc (PS k)))) (cnt (PS k).n (x.sePc (PS k))) (cnt (PS (k + 1)).n (x.sePc (PS (k + 1)))) - x.gN) by omega)⟩) hP hD hS hA (fun r21 u22 H locs hp9 hP hD hS => ?_)
  obtain ⟨y23, h9u⟩ : ∃ z9, z9 = u22 := ⟨_, rfl⟩
  subst h9u
  have hP : va_P D vwCl (VW dA h ad y23) H := hP
  have hD : va_D A (VW dA h ad y23) := hD
  obtain ⟨hp9, f_e_24⟩ := hp9
  replace hp9 : bI x.jch = r21 := Eq.symm hp9
  subst hp9
  refine lv_pop hx hb d_V_compact_115 rfl ?_
  have hw9 := f_e_24
  rw [wjS_r] at hw9
  subst hw9
  have hP : va_P D vwCl (VW dA h ad (VS.s_gsize (VS.s_gV (VS.s_gT (VS.s_gO (VS.s_gN (VS.s_gA (VS.s_jch (VS.s_jkept (VS.s_writes (VS.s_cutLeft x x.wjC) x.wjW) x.wjK) false) ga2) (capR (capR x.gN 0 (cnt (PS k).n (x.sePc (PS k)))) (cnt (PS k).n (x.sePc (PS k))) (cnt (PS (k + 1)).n (x.sePc (PS (k + 1)))))) go2) gt2) gv2) (cnt (PS k).n (x.sePc (PS k)) + cnt (PS (k + 1)).n (x.sePc (PS (k + 1)))))) H := hP
  have hD : va_D A (VW dA h ad (VS.s_gsize (VS.s_gV (VS.s_gT (VS.s_gO (VS.s_gN (VS.s_gA (VS.s_jch (VS.s_jkept (VS.s_writes (VS.s_cutLeft x x.wjC) x.wjW) x.wjK) false) ga2) (capR (capR x.gN 0 (cnt (PS k).n (x.sePc (PS k)))) (cnt (PS k).n (x.sePc (PS k))) (cnt (PS (k + 1)).n (x.sePc (PS (k + 1)))))) go2) gt2) gv2) (cnt (PS k).n (x.sePc (PS k)) + cnt (PS (k + 1)).n (x.sePc (PS (k + 1)))))) := hD
  have ww := wjW_le x
  refine lv_aload_n hx hb d_V_compact_116 rfl (lv_at hl 2 rfl) ?_
  refine lv_aload_nN hx hb d_V_compact_117 rfl (lv_at hl 1 rfl) ?_
  have hPc := hP.sub (ws' := []) [] rfl
  have hDc := hD.sub (ws' := []) [] (by decide) rfl
  refine jpI (rnS (As := [.null]) (rest := [.ref h]) hx hb hml hown hE hK (hN _ _ hS) hPc hDc (v_blocksOf_0 l D dA H.size ) w1391 w1390 w1392 w277 rfl rfl ⟨⟨by decide, by decide⟩, rfl⟩ ⟨(Nat.le_of_ble_eq_true rfl), (Nat.le_of_ble_eq_true rfl)⟩ rfl hl.1 rfl (Nat.le_of_ble_eq_true rfl) d_V_compact_118 ⟨(show 0 + 0 + 0 + (3 * (capR x.gN 0 (cnt (PS k).n (x.sePc (PS k))) - x.gN)) + (3 * (capR (capR x.gN 0 (cnt (PS k).n (x.sePc (PS k)))) (cnt (PS k).n (x.sePc (PS k))) (cnt (PS (k + 1)).n (x.sePc (PS (k + 1)))) - (capR x.gN 0 (cnt (PS k).n (x.sePc (PS k)))))) + 0 + 0 + 0 + 0 + 0 ≤ 3 * (capR (capR x.gN 0 (cnt (PS k).n (x.sePc (PS k)))) (cnt (PS k).n (x.sePc (PS k))) (cnt (PS (k + 1)).n (x.sePc (PS (k + 1)))) - x.gN) by omega), (show 0 + 0 + 0 + (6 * (capR x.gN 0 (cnt (PS k).n (x.sePc (PS k))) - x.gN)) + (6 * (capR (capR x.gN 0 (cnt (PS k).n (x.sePc (PS k)))) (cnt (PS k).n (x.sePc (PS k))) (cnt (PS (k + 1)).n (x.sePc (PS (k + 1)))) - (capR x.gN 0 (cnt (PS k).n (x.sePc (PS k)))))) + 0 + 0 + 0 + 0 + 0 ≤ 6 * (capR (capR x.gN 0 (cnt (PS k).n (x.sePc (PS k)))) (cnt (PS k).n (x.sePc (PS k))) (cnt (PS (k + 1)).n (x.sePc (PS (k + 1)))) - x.gN) by omega)⟩) hP hD hS hA (fun r25 u9 H locs hp9 hP hD hS => ?_)
  have hP : va_P D vwCl (VW dA h ad (VS.s_gsize (VS.s_gV (VS.s_gT (VS.s_gO (VS.s_gN (VS.s_gA (VS.s_jch (VS.s_jkept (VS.s_writes (VS.s_cutLeft x x.wjC) x.wjW) x.wjK) false) ga2) (capR (capR x.gN 0 (cnt (PS k).n (x.sePc (PS k)))) (cnt (PS k).n (x.sePc (PS k))) (cnt (PS (k + 1)).n (x.sePc (PS (k + 1)))))) go2) gt2) gv2) (cnt (PS k).n (x.sePc (PS k)) + cnt (PS (k + 1)).n (x.sePc (PS (k + 1)))))) H := hP
  have hD : va_D A (VW dA h ad (VS.s_gsize (VS.s_gV (VS.s_gT (VS.s_gO (VS.s_gN (VS.s_gA (VS.s_jch (VS.s_jkept (VS.s_writes (VS.s_cutLeft x x.wjC) x.wjW) x.wjK) false) ga2) (capR (capR x.gN 0 (cnt (PS k).n (x.sePc (PS k)))) (cnt (PS k).n (x.sePc (PS k))) (cnt (PS (k + 1)).n (x.sePc (PS (k + 1)))))) go2) gt2) gv2) (cnt (PS k).n (x.sePc (PS k)) + cnt (PS (k + 1)).n (x.sePc (PS (k + 1)))))) := hD
  replace hp9 : 0 = r25 := Eq.symm hp9
  subst hp9
  refine lv_iconst (v := 1) hx hb d_V_compact_121 (by decide) ?_
  refine lv_iadd hx hb d_V_compact_122 (tpi (y := 1) (by decide) ?_)
  refine jkV (wr := []) (rnV (As := [.int 1]) (rest := []) hx hb hml hown hE hK (hN _ _ hS) hP hD (v_writeBlocks l D dA H.size h ad (VS.s_gsize (VS.s_gV (VS.s_gT (VS.s_gO (VS.s_gN (VS.s_gA (VS.s_jch (VS.s_jkept (VS.s_writes (VS.s_cutLeft x x.wjC) x.wjW) x.wjK) false) ga2) (capR (capR x.gN 0 (cnt (PS k).n (x.sePc (PS k)))) (cnt (PS k).n (x.sePc (PS k))) (cnt (PS (k + 1)).n (x.sePc (PS (k + 1)))))) go2) gt2) gv2) (cnt (PS k).n (x.sePc (PS k)) + cnt (PS (k + 1)).n (x.sePc (PS (k + 1))))) 1 (show 1 < 2 ^ 31 from by omega) hcz) (q0 := 0) rfl rfl w1394 w1393 w1395 w1396 w277 rfl rfl ⟨⟨by decide, by decide⟩, rfl⟩ ⟨(Nat.le_of_ble_eq_true rfl), (Nat.le_of_ble_eq_true rfl)⟩ rfl hl.1 rfl (Nat.le_of_ble_eq_true rfl) d_V_compact_123 ⟨(show 0 + 0 + 0 + (3 * (capR x.gN 0 (cnt (PS k).n (x.sePc (PS k))) - x.gN)) + (3 * (capR (capR x.gN 0 (cnt (PS k).n (x.sePc (PS k)))) (cnt (PS k).n (x.sePc (PS k))) (cnt (PS (k + 1)).n (x.sePc (PS (k + 1)))) - (capR x.gN 0 (cnt (PS k).n (x.sePc (PS k)))))) + 0 + 0 + 0 + 0 + 0 + 0 ≤ 3 * (capR (capR x.gN 0 (cnt (PS k).n (x.sePc (PS k)))) (cnt (PS k).n (x.sePc (PS k))) (cnt (PS (k + 1)).n (x.sePc (PS (k + 1)))) - x.gN) by omega), (show 0 + 0 + 0 + (6 * (capR x.gN 0 (cnt (PS k).n (x.sePc (PS k))) - x.gN)) + (6 * (capR (capR x.gN 0 (cnt (PS k).n (x.sePc (PS k)))) (cnt (PS k).n (x.sePc (PS k))) (cnt (PS (k + 1)).n (x.sePc (PS (k + 1)))) - (capR x.gN 0 (cnt (PS k).n (x.sePc (PS k)))))) + 0 + 0 + 0 + 0 + 0 + 0 ≤ 6 * (capR (capR x.gN 0 (cnt (PS k).n (x.sePc (PS k)))) (cnt (PS k).n (x.sePc (PS k))) (cnt (PS (k + 1)).n (x.sePc (PS (k + 1)))) - x.gN) by omega)⟩) hP hD hS hA (fun u28 H locs hp9 hP hD hS => ?_)
  have hP : va_P D vwCl (VW dA h ad (VS.s_gsize (VS.s_gV (VS.s_gT (VS.s_gO (VS.s_gN (VS.s_gA (VS.s_jch (VS.s_jkept (VS.s_writes (VS.s_cutLeft x (cutN x.wjC 1)) (x.wjW + 1)) x.wjK) false) ga2) (capR (capR x.gN 0 (cnt (PS k).n (x.sePc (PS k)))) (cnt (PS k).n (x.sePc (PS k))) (cnt (PS (k + 1)).n (x.sePc (PS (k + 1)))))) go2) gt2) gv2) (cnt (PS k).n (x.sePc (PS k)) + cnt (PS (k + 1)).n (x.sePc (PS (k + 1)))))) H := hP
  have hD : va_D A (VW dA h ad (VS.s_gsize (VS.s_gV (VS.s_gT (VS.s_gO (VS.s_gN (VS.s_gA (VS.s_jch (VS.s_jkept (VS.s_writes (VS.s_cutLeft x (cutN x.wjC 1)) (x.wjW + 1)) x.wjK) false) ga2) (capR (capR x.gN 0 (cnt (PS k).n (x.sePc (PS k)))) (cnt (PS k).n (x.sePc (PS k))) (cnt (PS (k + 1)).n (x.sePc (PS (k + 1)))))) go2) gt2) gv2) (cnt (PS k).n (x.sePc (PS k)) + cnt (PS (k + 1)).n (x.sePc (PS (k + 1)))))) := hD
  refine lv_aload_n hx hb d_V_compact_126 rfl (lv_at hl 2 rfl) ?_
  refine gF (v := .ref (ad 3)) hx hb hown hE hK hP 0 rfl rfl layV 11 (by decide) w297 rfl d_V_compact_127 ?_
  refine lv_iload_n hx hb d_V_compact_130 rfl (lv_at hl 3 rfl) ?_
  refine lv_aload_nN hx hb d_V_compact_131 rfl (lv_at hl 1 rfl) ?_
  refine jkV (wr := []) (rnV (As := [.int (nI k), .null]) (rest := []) hx hb hml hown hE hK (hN _ _ hS) hP hD (v_putTogether_0 l D dA H.size h ad (VS.s_gsize (VS.s_gV (VS.s_gT (VS.s_gO (VS.s_gN (VS.s_gA (VS.s_jch (VS.s_jkept (VS.s_writes (VS.s_cutLeft x (cutN x.wjC 1)) (x.wjW + 1)) x.wjK) false) ga2) (capR (capR x.gN 0 (cnt (PS k).n (x.sePc (PS k)))) (cnt (PS k).n (x.sePc (PS k))) (cnt (PS (k + 1)).n (x.sePc (PS (k + 1)))))) go2) gt2) gv2) (cnt (PS k).n (x.sePc (PS k)) + cnt (PS (k + 1)).n (x.sePc (PS (k + 1))))) PS k hps (show x.npc ≤ 32 from by omega) (show k + 2 ≤ x.npc from by omega)) (q0 := 17) rfl rfl w1755 w1754 w1756 w1757 w583 rfl rfl ⟨⟨by decide, by decide⟩, rfl⟩ ⟨(Nat.le_of_ble_eq_true rfl), (Nat.le_of_ble_eq_true rfl)⟩ rfl hl.1 rfl (Nat.le_of_ble_eq_true rfl) d_V_compact_132 ⟨(show 0 + 0 + 0 + (3 * (capR x.gN 0 (cnt (PS k).n (x.sePc (PS k))) - x.gN)) + (3 * (capR (capR x.gN 0 (cnt (PS k).n (x.sePc (PS k)))) (cnt (PS k).n (x.sePc (PS k))) (cnt (PS (k + 1)).n (x.sePc (PS (k + 1)))) - (capR x.gN 0 (cnt (PS k).n (x.sePc (PS k)))))) + 0 + 0 + 0 + 0 + 0 + 0 + 0 ≤ 3 * (capR (capR x.gN 0 (cnt (PS k).n (x.sePc (PS k)))) (cnt (PS k).n (x.sePc (PS k))) (cnt (PS (k + 1)).n (x.sePc (PS (k + 1)))) - x.gN) by omega), (show 0 + 0 + 0 + (6 * (capR x.gN 0 (cnt (PS k).n (x.sePc (PS k))) - x.gN)) + (6 * (capR (capR x.gN 0 (cnt (PS k).n (x.sePc (PS k)))) (cnt (PS k).n (x.sePc (PS k))) (cnt (PS (k + 1)).n (x.sePc (PS (k + 1)))) - (capR x.gN 0 (cnt (PS k).n (x.sePc (PS k)))))) + 0 + 0 + 0 + 0 + 0 + 0 + 0 ≤ 6 * (capR (capR x.gN 0 (cnt (PS k).n (x.sePc (PS k)))) (cnt (PS k).n (x.sePc (PS k))) (cnt (PS (k + 1)).n (x.sePc (PS (k + 1)))) - x.gN) by omega)⟩) hP hD hS hA (fun u30 H locs hp9 hP hD hS => ?_)
  have hP : va_P D vwCl (VW dA h ad (VS.s_npc (VS.s_nP (VS.s_gsize (VS.s_gV (VS.s_gT (VS.s_gO (VS.s_gN (VS.s_gA (VS.s_jch (VS.s_jkept (VS.s_writes (VS.s_cutLeft x (cutN x.wjC 1)) (x.wjW + 1)) x.wjK) false) ga2) (capR (capR x.gN 0 (cnt (PS k).n (x.sePc (PS k)))) (cnt (PS k).n (x.sePc (PS k))) (cnt (PS (k + 1)).n (x.sePc (PS (k + 1)))))) go2) gt2) gv2) (cnt (PS k).n (x.sePc (PS k)) + cnt (PS (k + 1)).n (x.sePc (PS (k + 1))))) (sfT x.nP k 2 (x.npc - (k + 2)))) (x.npc - 2))) H := hP
  have hD : va_D A (VW dA h ad (VS.s_npc (VS.s_nP (VS.s_gsize (VS.s_gV (VS.s_gT (VS.s_gO (VS.s_gN (VS.s_gA (VS.s_jch (VS.s_jkept (VS.s_writes (VS.s_cutLeft x (cutN x.wjC 1)) (x.wjW + 1)) x.wjK) false) ga2) (capR (capR x.gN 0 (cnt (PS k).n (x.sePc (PS k)))) (cnt (PS k).n (x.sePc (PS k))) (cnt (PS (k + 1)).n (x.sePc (PS (k + 1)))))) go2) gt2) gv2) (cnt (PS k).n (x.sePc (PS k)) + cnt (PS (k + 1)).n (x.sePc (PS (k + 1))))) (sfT x.nP k 2 (x.npc - (k + 2)))) (x.npc - 2))) := hD
  refine lv_aload_n hx hb d_V_compact_135 rfl (lv_at hl 2 rfl) ?_
  refine jkV (wr := []) (rnV (As := []) (rest := []) hx hb hml hown hE hK (hN _ _ hS) hP hD (v_keepManifest l D dA H.size h ad (VS.s_npc (VS.s_nP (VS.s_gsize (VS.s_gV (VS.s_gT (VS.s_gO (VS.s_gN (VS.s_gA (VS.s_jch (VS.s_jkept (VS.s_writes (VS.s_cutLeft x (cutN x.wjC 1)) (x.wjW + 1)) x.wjK) false) ga2) (capR (capR x.gN 0 (cnt (PS k).n (x.sePc (PS k)))) (cnt (PS k).n (x.sePc (PS k))) (cnt (PS (k + 1)).n (x.sePc (PS (k + 1)))))) go2) gt2) gv2) (cnt (PS k).n (x.sePc (PS k)) + cnt (PS (k + 1)).n (x.sePc (PS (k + 1))))) (sfT x.nP k 2 (x.npc - (k + 2)))) (x.npc - 2)) (sfT PS k 2 (x.npc - (k + 2))) (ps_sf0 hk hps) (show (x.npc - 2) ≤ 32 from by omega) (show x.nsc ≤ 64 from by omega) h7) (q0 := 0) rfl rfl w749 w748 w750 w751 w277 rfl rfl ⟨⟨by decide, by decide⟩, rfl⟩ ⟨(Nat.le_of_ble_eq_true rfl), (Nat.le_of_ble_eq_true rfl)⟩ rfl hl.1 rfl (Nat.le_of_ble_eq_true rfl) d_V_compact_136 ⟨(show 0 + 0 + 0 + (3 * (capR x.gN 0 (cnt (PS k).n (x.sePc (PS k))) - x.gN)) + (3 * (capR (capR x.gN 0 (cnt (PS k).n (x.sePc (PS k)))) (cnt (PS k).n (x.sePc (PS k))) (cnt (PS (k + 1)).n (x.sePc (PS (k + 1)))) - (capR x.gN 0 (cnt (PS k).n (x.sePc (PS k)))))) + 0 + 0 + 0 + 0 + 0 + 0 + 0 + 0 ≤ 3 * (capR (capR x.gN 0 (cnt (PS k).n (x.sePc (PS k)))) (cnt (PS k).n (x.sePc (PS k))) (cnt (PS (k + 1)).n (x.sePc (PS (k + 1)))) - x.gN) by omega), (show 0 + 0 + 0 + (6 * (capR x.gN 0 (cnt (PS k).n (x.sePc (PS k))) - x.gN)) + (6 * (capR (capR x.gN 0 (cnt (PS k).n (x.sePc (PS k)))) (cnt (PS k).n (x.sePc (PS k))) (cnt (PS (k + 1)).n (x.sePc (PS (k + 1)))) - (capR x.gN 0 (cnt (PS k).n (x.sePc (PS k)))))) + 0 + 0 + 0 + 0 + 0 + 0 + 0 + 0 ≤ 6 * (capR (capR x.gN 0 (cnt (PS k).n (x.sePc (PS k)))) (cnt (PS k).n (x.sePc (PS k))) (cnt (PS (k + 1)).n (x.sePc (PS (k + 1)))) - x.gN) by omega)⟩) hP hD hS hA (fun u32 H locs hp9 hP hD hS => ?_)
  have hP : va_P D vwCl (VW dA h ad (VS.s_shor (VS.s_ssc (VS.s_ssT (VS.s_ssF (VS.s_ssO (VS.s_spc (VS.s_sP (VS.s_nsc (VS.s_nsP (VS.s_nsT (VS.s_nsF (VS.s_nsO (VS.s_npc (VS.s_nP (VS.s_gsize (VS.s_gV (VS.s_gT (VS.s_gO (VS.s_gN (VS.s_gA (VS.s_jch (VS.s_jkept (VS.s_writes (VS.s_cutLeft x (cutN x.wjC 1)) (x.wjW + 1)) x.wjK) false) ga2) (capR (capR x.gN 0 (cnt (PS k).n (x.sePc (PS k)))) (cnt (PS k).n (x.sePc (PS k))) (cnt (PS (k + 1)).n (x.sePc (PS (k + 1)))))) go2) gt2) gv2) (cnt (PS k).n (x.sePc (PS k)) + cnt (PS (k + 1)).n (x.sePc (PS (k + 1))))) (sfT x.nP k 2 (x.npc - (k + 2)))) (x.npc - 2)) (tdT ((VS.s_npc (VS.s_nP (VS.s_gsize (VS.s_gV (VS.s_gT (VS.s_gO (VS.s_gN (VS.s_gA (VS.s_jch (VS.s_jkept (VS.s_writes (VS.s_cutLeft x (cutN x.wjC 1)) (x.wjW + 1)) x.wjK) false) ga2) (capR (capR x.gN 0 (cnt (PS k).n (x.sePc (PS k)))) (cnt (PS k).n (x.sePc (PS k))) (cnt (PS (k + 1)).n (x.sePc (PS (k + 1)))))) go2) gt2) gv2) (cnt (PS k).n (x.sePc (PS k)) + cnt (PS (k + 1)).n (x.sePc (PS (k + 1))))) (sfT x.nP k 2 (x.npc - (k + 2)))) (x.npc - 2)).esC (sfT PS k 2 (x.npc - (k + 2)))) x.nsO x.nsc)) (tdT ((VS.s_npc (VS.s_nP (VS.s_gsize (VS.s_gV (VS.s_gT (VS.s_gO (VS.s_gN (VS.s_gA (VS.s_jch (VS.s_jkept (VS.s_writes (VS.s_cutLeft x (cutN x.wjC 1)) (x.wjW + 1)) x.wjK) false) ga2) (capR (capR x.gN 0 (cnt (PS k).n (x.sePc (PS k)))) (cnt (PS k).n (x.sePc (PS k))) (cnt (PS (k + 1)).n (x.sePc (PS (k + 1)))))) go2) gt2) gv2) (cnt (PS k).n (x.sePc (PS k)) + cnt (PS (k + 1)).n (x.sePc (PS (k + 1))))) (sfT x.nP k 2 (x.npc - (k + 2)))) (x.npc - 2)).esC (sfT PS k 2 (x.npc - (k + 2)))) x.nsF x.nsc)) (tdT ((VS.s_npc (VS.s_nP (VS.s_gsize (VS.s_gV (VS.s_gT (VS.s_gO (VS.s_gN (VS.s_gA (VS.s_jch (VS.s_jkept (VS.s_writes (VS.s_cutLeft x (cutN x.wjC 1)) (x.wjW + 1)) x.wjK) false) ga2) (capR (capR x.gN 0 (cnt (PS k).n (x.sePc (PS k)))) (cnt (PS k).n (x.sePc (PS k))) (cnt (PS (k + 1)).n (x.sePc (PS (k + 1)))))) go2) gt2) gv2) (cnt (PS k).n (x.sePc (PS k)) + cnt (PS (k + 1)).n (x.sePc (PS (k + 1))))) (sfT x.nP k 2 (x.npc - (k + 2)))) (x.npc - 2)).esC (sfT PS k 2 (x.npc - (k + 2)))) x.nsT x.nsc)) ((VS.s_npc (VS.s_nP (VS.s_gsize (VS.s_gV (VS.s_gT (VS.s_gO (VS.s_gN (VS.s_gA (VS.s_jch (VS.s_jkept (VS.s_writes (VS.s_cutLeft x (cutN x.wjC 1)) (x.wjW + 1)) x.wjK) false) ga2) (capR (capR x.gN 0 (cnt (PS k).n (x.sePc (PS k)))) (cnt (PS k).n (x.sePc (PS k))) (cnt (PS (k + 1)).n (x.sePc (PS (k + 1)))))) go2) gt2) gv2) (cnt (PS k).n (x.sePc (PS k)) + cnt (PS (k + 1)).n (x.sePc (PS (k + 1))))) (sfT x.nP k 2 (x.npc - (k + 2)))) (x.npc - 2)).esG (sfT PS k 2 (x.npc - (k + 2))))) (cnt x.nsc ((VS.s_npc (VS.s_nP (VS.s_gsize (VS.s_gV (VS.s_gT (VS.s_gO (VS.s_gN (VS.s_gA (VS.s_jch (VS.s_jkept (VS.s_writes (VS.s_cutLeft x (cutN x.wjC 1)) (x.wjW + 1)) x.wjK) false) ga2) (capR (capR x.gN 0 (cnt (PS k).n (x.sePc (PS k)))) (cnt (PS k).n (x.sePc (PS k))) (cnt (PS (k + 1)).n (x.sePc (PS (k + 1)))))) go2) gt2) gv2) (cnt (PS k).n (x.sePc (PS k)) + cnt (PS (k + 1)).n (x.sePc (PS (k + 1))))) (sfT x.nP k 2 (x.npc - (k + 2)))) (x.npc - 2)).esC (sfT PS k 2 (x.npc - (k + 2)))))) (va_cpy (sfT x.nP k 2 (x.npc - (k + 2))) x.sP 0 0 (x.npc - 2))) (x.npc - 2)) (va_cpy (tdT ((VS.s_npc (VS.s_nP (VS.s_gsize (VS.s_gV (VS.s_gT (VS.s_gO (VS.s_gN (VS.s_gA (VS.s_jch (VS.s_jkept (VS.s_writes (VS.s_cutLeft x (cutN x.wjC 1)) (x.wjW + 1)) x.wjK) false) ga2) (capR (capR x.gN 0 (cnt (PS k).n (x.sePc (PS k)))) (cnt (PS k).n (x.sePc (PS k))) (cnt (PS (k + 1)).n (x.sePc (PS (k + 1)))))) go2) gt2) gv2) (cnt (PS k).n (x.sePc (PS k)) + cnt (PS (k + 1)).n (x.sePc (PS (k + 1))))) (sfT x.nP k 2 (x.npc - (k + 2)))) (x.npc - 2)).esC (sfT PS k 2 (x.npc - (k + 2)))) x.nsO x.nsc) x.ssO 0 0 (cnt x.nsc ((VS.s_npc (VS.s_nP (VS.s_gsize (VS.s_gV (VS.s_gT (VS.s_gO (VS.s_gN (VS.s_gA (VS.s_jch (VS.s_jkept (VS.s_writes (VS.s_cutLeft x (cutN x.wjC 1)) (x.wjW + 1)) x.wjK) false) ga2) (capR (capR x.gN 0 (cnt (PS k).n (x.sePc (PS k)))) (cnt (PS k).n (x.sePc (PS k))) (cnt (PS (k + 1)).n (x.sePc (PS (k + 1)))))) go2) gt2) gv2) (cnt (PS k).n (x.sePc (PS k)) + cnt (PS (k + 1)).n (x.sePc (PS (k + 1))))) (sfT x.nP k 2 (x.npc - (k + 2)))) (x.npc - 2)).esC (sfT PS k 2 (x.npc - (k + 2))))))) (va_cpy (tdT ((VS.s_npc (VS.s_nP (VS.s_gsize (VS.s_gV (VS.s_gT (VS.s_gO (VS.s_gN (VS.s_gA (VS.s_jch (VS.s_jkept (VS.s_writes (VS.s_cutLeft x (cutN x.wjC 1)) (x.wjW + 1)) x.wjK) false) ga2) (capR (capR x.gN 0 (cnt (PS k).n (x.sePc (PS k)))) (cnt (PS k).n (x.sePc (PS k))) (cnt (PS (k + 1)).n (x.sePc (PS (k + 1)))))) go2) gt2) gv2) (cnt (PS k).n (x.sePc (PS k)) + cnt (PS (k + 1)).n (x.sePc (PS (k + 1))))) (sfT x.nP k 2 (x.npc - (k + 2)))) (x.npc - 2)).esC (sfT PS k 2 (x.npc - (k + 2)))) x.nsF x.nsc) x.ssF 0 0 (cnt x.nsc ((VS.s_npc (VS.s_nP (VS.s_gsize (VS.s_gV (VS.s_gT (VS.s_gO (VS.s_gN (VS.s_gA (VS.s_jch (VS.s_jkept (VS.s_writes (VS.s_cutLeft x (cutN x.wjC 1)) (x.wjW + 1)) x.wjK) false) ga2) (capR (capR x.gN 0 (cnt (PS k).n (x.sePc (PS k)))) (cnt (PS k).n (x.sePc (PS k))) (cnt (PS (k + 1)).n (x.sePc (PS (k + 1)))))) go2) gt2) gv2) (cnt (PS k).n (x.sePc (PS k)) + cnt (PS (k + 1)).n (x.sePc (PS (k + 1))))) (sfT x.nP k 2 (x.npc - (k + 2)))) (x.npc - 2)).esC (sfT PS k 2 (x.npc - (k + 2))))))) (va_cpy (tdT ((VS.s_npc (VS.s_nP (VS.s_gsize (VS.s_gV (VS.s_gT (VS.s_gO (VS.s_gN (VS.s_gA (VS.s_jch (VS.s_jkept (VS.s_writes (VS.s_cutLeft x (cutN x.wjC 1)) (x.wjW + 1)) x.wjK) false) ga2) (capR (capR x.gN 0 (cnt (PS k).n (x.sePc (PS k)))) (cnt (PS k).n (x.sePc (PS k))) (cnt (PS (k + 1)).n (x.sePc (PS (k + 1)))))) go2) gt2) gv2) (cnt (PS k).n (x.sePc (PS k)) + cnt (PS (k + 1)).n (x.sePc (PS (k + 1))))) (sfT x.nP k 2 (x.npc - (k + 2)))) (x.npc - 2)).esC (sfT PS k 2 (x.npc - (k + 2)))) x.nsT x.nsc) x.ssT 0 0 (cnt x.nsc ((VS.s_npc (VS.s_nP (VS.s_gsize (VS.s_gV (VS.s_gT (VS.s_gO (VS.s_gN (VS.s_gA (VS.s_jch (VS.s_jkept (VS.s_writes (VS.s_cutLeft x (cutN x.wjC 1)) (x.wjW + 1)) x.wjK) false) ga2) (capR (capR x.gN 0 (cnt (PS k).n (x.sePc (PS k)))) (cnt (PS k).n (x.sePc (PS k))) (cnt (PS (k + 1)).n (x.sePc (PS (k + 1)))))) go2) gt2) gv2) (cnt (PS k).n (x.sePc (PS k)) + cnt (PS (k + 1)).n (x.sePc (PS (k + 1))))) (sfT x.nP k 2 (x.npc - (k + 2)))) (x.npc - 2)).esC (sfT PS k 2 (x.npc - (k + 2))))))) (cnt x.nsc ((VS.s_npc (VS.s_nP (VS.s_gsize (VS.s_gV (VS.s_gT (VS.s_gO (VS.s_gN (VS.s_gA (VS.s_jch (VS.s_jkept (VS.s_writes (VS.s_cutLeft x (cutN x.wjC 1)) (x.wjW + 1)) x.wjK) false) ga2) (capR (capR x.gN 0 (cnt (PS k).n (x.sePc (PS k)))) (cnt (PS k).n (x.sePc (PS k))) (cnt (PS (k + 1)).n (x.sePc (PS (k + 1)))))) go2) gt2) gv2) (cnt (PS k).n (x.sePc (PS k)) + cnt (PS (k + 1)).n (x.sePc (PS (k + 1))))) (sfT x.nP k 2 (x.npc - (k + 2)))) (x.npc - 2)).esC (sfT PS k 2 (x.npc - (k + 2)))))) x.nhor)) H := hP
  have hD : va_D A (VW dA h ad (VS.s_shor (VS.s_ssc (VS.s_ssT (VS.s_ssF (VS.s_ssO (VS.s_spc (VS.s_sP (VS.s_nsc (VS.s_nsP (VS.s_nsT (VS.s_nsF (VS.s_nsO (VS.s_npc (VS.s_nP (VS.s_gsize (VS.s_gV (VS.s_gT (VS.s_gO (VS.s_gN (VS.s_gA (VS.s_jch (VS.s_jkept (VS.s_writes (VS.s_cutLeft x (cutN x.wjC 1)) (x.wjW + 1)) x.wjK) false) ga2) (capR (capR x.gN 0 (cnt (PS k).n (x.sePc (PS k)))) (cnt (PS k).n (x.sePc (PS k))) (cnt (PS (k + 1)).n (x.sePc (PS (k + 1)))))) go2) gt2) gv2) (cnt (PS k).n (x.sePc (PS k)) + cnt (PS (k + 1)).n (x.sePc (PS (k + 1))))) (sfT x.nP k 2 (x.npc - (k + 2)))) (x.npc - 2)) (tdT ((VS.s_npc (VS.s_nP (VS.s_gsize (VS.s_gV (VS.s_gT (VS.s_gO (VS.s_gN (VS.s_gA (VS.s_jch (VS.s_jkept (VS.s_writes (VS.s_cutLeft x (cutN x.wjC 1)) (x.wjW + 1)) x.wjK) false) ga2) (capR (capR x.gN 0 (cnt (PS k).n (x.sePc (PS k)))) (cnt (PS k).n (x.sePc (PS k))) (cnt (PS (k + 1)).n (x.sePc (PS (k + 1)))))) go2) gt2) gv2) (cnt (PS k).n (x.sePc (PS k)) + cnt (PS (k + 1)).n (x.sePc (PS (k + 1))))) (sfT x.nP k 2 (x.npc - (k + 2)))) (x.npc - 2)).esC (sfT PS k 2 (x.npc - (k + 2)))) x.nsO x.nsc)) (tdT ((VS.s_npc (VS.s_nP (VS.s_gsize (VS.s_gV (VS.s_gT (VS.s_gO (VS.s_gN (VS.s_gA (VS.s_jch (VS.s_jkept (VS.s_writes (VS.s_cutLeft x (cutN x.wjC 1)) (x.wjW + 1)) x.wjK) false) ga2) (capR (capR x.gN 0 (cnt (PS k).n (x.sePc (PS k)))) (cnt (PS k).n (x.sePc (PS k))) (cnt (PS (k + 1)).n (x.sePc (PS (k + 1)))))) go2) gt2) gv2) (cnt (PS k).n (x.sePc (PS k)) + cnt (PS (k + 1)).n (x.sePc (PS (k + 1))))) (sfT x.nP k 2 (x.npc - (k + 2)))) (x.npc - 2)).esC (sfT PS k 2 (x.npc - (k + 2)))) x.nsF x.nsc)) (tdT ((VS.s_npc (VS.s_nP (VS.s_gsize (VS.s_gV (VS.s_gT (VS.s_gO (VS.s_gN (VS.s_gA (VS.s_jch (VS.s_jkept (VS.s_writes (VS.s_cutLeft x (cutN x.wjC 1)) (x.wjW + 1)) x.wjK) false) ga2) (capR (capR x.gN 0 (cnt (PS k).n (x.sePc (PS k)))) (cnt (PS k).n (x.sePc (PS k))) (cnt (PS (k + 1)).n (x.sePc (PS (k + 1)))))) go2) gt2) gv2) (cnt (PS k).n (x.sePc (PS k)) + cnt (PS (k + 1)).n (x.sePc (PS (k + 1))))) (sfT x.nP k 2 (x.npc - (k + 2)))) (x.npc - 2)).esC (sfT PS k 2 (x.npc - (k + 2)))) x.nsT x.nsc)) ((VS.s_npc (VS.s_nP (VS.s_gsize (VS.s_gV (VS.s_gT (VS.s_gO (VS.s_gN (VS.s_gA (VS.s_jch (VS.s_jkept (VS.s_writes (VS.s_cutLeft x (cutN x.wjC 1)) (x.wjW + 1)) x.wjK) false) ga2) (capR (capR x.gN 0 (cnt (PS k).n (x.sePc (PS k)))) (cnt (PS k).n (x.sePc (PS k))) (cnt (PS (k + 1)).n (x.sePc (PS (k + 1)))))) go2) gt2) gv2) (cnt (PS k).n (x.sePc (PS k)) + cnt (PS (k + 1)).n (x.sePc (PS (k + 1))))) (sfT x.nP k 2 (x.npc - (k + 2)))) (x.npc - 2)).esG (sfT PS k 2 (x.npc - (k + 2))))) (cnt x.nsc ((VS.s_npc (VS.s_nP (VS.s_gsize (VS.s_gV (VS.s_gT (VS.s_gO (VS.s_gN (VS.s_gA (VS.s_jch (VS.s_jkept (VS.s_writes (VS.s_cutLeft x (cutN x.wjC 1)) (x.wjW + 1)) x.wjK) false) ga2) (capR (capR x.gN 0 (cnt (PS k).n (x.sePc (PS k)))) (cnt (PS k).n (x.sePc (PS k))) (cnt (PS (k + 1)).n (x.sePc (PS (k + 1)))))) go2) gt2) gv2) (cnt (PS k).n (x.sePc (PS k)) + cnt (PS (k + 1)).n (x.sePc (PS (k + 1))))) (sfT x.nP k 2 (x.npc - (k + 2)))) (x.npc - 2)).esC (sfT PS k 2 (x.npc - (k + 2)))))) (va_cpy (sfT x.nP k 2 (x.npc - (k + 2))) x.sP 0 0 (x.npc - 2))) (x.npc - 2)) (va_cpy (tdT ((VS.s_npc (VS.s_nP (VS.s_gsize (VS.s_gV (VS.s_gT (VS.s_gO (VS.s_gN (VS.s_gA (VS.s_jch (VS.s_jkept (VS.s_writes (VS.s_cutLeft x (cutN x.wjC 1)) (x.wjW + 1)) x.wjK) false) ga2) (capR (capR x.gN 0 (cnt (PS k).n (x.sePc (PS k)))) (cnt (PS k).n (x.sePc (PS k))) (cnt (PS (k + 1)).n (x.sePc (PS (k + 1)))))) go2) gt2) gv2) (cnt (PS k).n (x.sePc (PS k)) + cnt (PS (k + 1)).n (x.sePc (PS (k + 1))))) (sfT x.nP k 2 (x.npc - (k + 2)))) (x.npc - 2)).esC (sfT PS k 2 (x.npc - (k + 2)))) x.nsO x.nsc) x.ssO 0 0 (cnt x.nsc ((VS.s_npc (VS.s_nP (VS.s_gsize (VS.s_gV (VS.s_gT (VS.s_gO (VS.s_gN (VS.s_gA (VS.s_jch (VS.s_jkept (VS.s_writes (VS.s_cutLeft x (cutN x.wjC 1)) (x.wjW + 1)) x.wjK) false) ga2) (capR (capR x.gN 0 (cnt (PS k).n (x.sePc (PS k)))) (cnt (PS k).n (x.sePc (PS k))) (cnt (PS (k + 1)).n (x.sePc (PS (k + 1)))))) go2) gt2) gv2) (cnt (PS k).n (x.sePc (PS k)) + cnt (PS (k + 1)).n (x.sePc (PS (k + 1))))) (sfT x.nP k 2 (x.npc - (k + 2)))) (x.npc - 2)).esC (sfT PS k 2 (x.npc - (k + 2))))))) (va_cpy (tdT ((VS.s_npc (VS.s_nP (VS.s_gsize (VS.s_gV (VS.s_gT (VS.s_gO (VS.s_gN (VS.s_gA (VS.s_jch (VS.s_jkept (VS.s_writes (VS.s_cutLeft x (cutN x.wjC 1)) (x.wjW + 1)) x.wjK) false) ga2) (capR (capR x.gN 0 (cnt (PS k).n (x.sePc (PS k)))) (cnt (PS k).n (x.sePc (PS k))) (cnt (PS (k + 1)).n (x.sePc (PS (k + 1)))))) go2) gt2) gv2) (cnt (PS k).n (x.sePc (PS k)) + cnt (PS (k + 1)).n (x.sePc (PS (k + 1))))) (sfT x.nP k 2 (x.npc - (k + 2)))) (x.npc - 2)).esC (sfT PS k 2 (x.npc - (k + 2)))) x.nsF x.nsc) x.ssF 0 0 (cnt x.nsc ((VS.s_npc (VS.s_nP (VS.s_gsize (VS.s_gV (VS.s_gT (VS.s_gO (VS.s_gN (VS.s_gA (VS.s_jch (VS.s_jkept (VS.s_writes (VS.s_cutLeft x (cutN x.wjC 1)) (x.wjW + 1)) x.wjK) false) ga2) (capR (capR x.gN 0 (cnt (PS k).n (x.sePc (PS k)))) (cnt (PS k).n (x.sePc (PS k))) (cnt (PS (k + 1)).n (x.sePc (PS (k + 1)))))) go2) gt2) gv2) (cnt (PS k).n (x.sePc (PS k)) + cnt (PS (k + 1)).n (x.sePc (PS (k + 1))))) (sfT x.nP k 2 (x.npc - (k + 2)))) (x.npc - 2)).esC (sfT PS k 2 (x.npc - (k + 2))))))) (va_cpy (tdT ((VS.s_npc (VS.s_nP (VS.s_gsize (VS.s_gV (VS.s_gT (VS.s_gO (VS.s_gN (VS.s_gA (VS.s_jch (VS.s_jkept (VS.s_writes (VS.s_cutLeft x (cutN x.wjC 1)) (x.wjW + 1)) x.wjK) false) ga2) (capR (capR x.gN 0 (cnt (PS k).n (x.sePc (PS k)))) (cnt (PS k).n (x.sePc (PS k))) (cnt (PS (k + 1)).n (x.sePc (PS (k + 1)))))) go2) gt2) gv2) (cnt (PS k).n (x.sePc (PS k)) + cnt (PS (k + 1)).n (x.sePc (PS (k + 1))))) (sfT x.nP k 2 (x.npc - (k + 2)))) (x.npc - 2)).esC (sfT PS k 2 (x.npc - (k + 2)))) x.nsT x.nsc) x.ssT 0 0 (cnt x.nsc ((VS.s_npc (VS.s_nP (VS.s_gsize (VS.s_gV (VS.s_gT (VS.s_gO (VS.s_gN (VS.s_gA (VS.s_jch (VS.s_jkept (VS.s_writes (VS.s_cutLeft x (cutN x.wjC 1)) (x.wjW + 1)) x.wjK) false) ga2) (capR (capR x.gN 0 (cnt (PS k).n (x.sePc (PS k)))) (cnt (PS k).n (x.sePc (PS k))) (cnt (PS (k + 1)).n (x.sePc (PS (k + 1)))))) go2) gt2) gv2) (cnt (PS k).n (x.sePc (PS k)) + cnt (PS (k + 1)).n (x.sePc (PS (k + 1))))) (sfT x.nP k 2 (x.npc - (k + 2)))) (x.npc - 2)).esC (sfT PS k 2 (x.npc - (k + 2))))))) (cnt x.nsc ((VS.s_npc (VS.s_nP (VS.s_gsize (VS.s_gV (VS.s_gT (VS.s_gO (VS.s_gN (VS.s_gA (VS.s_jch (VS.s_jkept (VS.s_writes (VS.s_cutLeft x (cutN x.wjC 1)) (x.wjW + 1)) x.wjK) false) ga2) (capR (capR x.gN 0 (cnt (PS k).n (x.sePc (PS k)))) (cnt (PS k).n (x.sePc (PS k))) (cnt (PS (k + 1)).n (x.sePc (PS (k + 1)))))) go2) gt2) gv2) (cnt (PS k).n (x.sePc (PS k)) + cnt (PS (k + 1)).n (x.sePc (PS (k + 1))))) (sfT x.nP k 2 (x.npc - (k + 2)))) (x.npc - 2)).esC (sfT PS k 2 (x.npc - (k + 2)))))) x.nhor)) := hD
  refine lv_aload_n hx hb d_V_compact_139 rfl (lv_at hl 2 rfl) ?_
  refine gF (v := .int (nI (x.wjW + 1))) hx hb hown hE hK hP 0 rfl rfl layV 7 (by decide) w209 rfl d_V_compact_140 ?_
  refine lv_iload_n hx hb d_V_compact_143 rfl (lv_at hl 0 rfl) ?_
  refine lv_isub hx hb d_V_compact_144 (tpi (y := nI ((x.wjW + 1) - x.writes)) (pk_sub (a := x.wjW + 1) (b := x.writes) (by omega)) ?_)
  exact rfI hx hb hr hlk hS (VS.s_shor (VS.s_ssc (VS.s_ssT (VS.s_ssF (VS.s_ssO (VS.s_spc (VS.s_sP (VS.s_nsc (VS.s_nsP (VS.s_nsT (VS.s_nsF (VS.s_nsO (VS.s_npc (VS.s_nP (VS.s_gsize (VS.s_gV (VS.s_gT (VS.s_gO (VS.s_gN (VS.s_gA (VS.s_jch (VS.s_jkept (VS.s_writes (VS.s_cutLeft x (cutN x.wjC 1)) (x.wjW + 1)) x.wjK) false) ga2) (capR (capR x.gN 0 (cnt (PS k).n (x.sePc (PS k)))) (cnt (PS k).n (x.sePc (PS k))) (cnt (PS (k + 1)).n (x.sePc (PS (k + 1)))))) go2) gt2) gv2) (cnt (PS k).n (x.sePc (PS k)) + cnt (PS (k + 1)).n (x.sePc (PS (k + 1))))) (sfT x.nP k 2 (x.npc - (k + 2)))) (x.npc - 2)) (tdT ((VS.s_npc (VS.s_nP (VS.s_gsize (VS.s_gV (VS.s_gT (VS.s_gO (VS.s_gN (VS.s_gA (VS.s_jch (VS.s_jkept (VS.s_writes (VS.s_cutLeft x (cutN x.wjC 1)) (x.wjW + 1)) x.wjK) false) ga2) (capR (capR x.gN 0 (cnt (PS k).n (x.sePc (PS k)))) (cnt (PS k).n (x.sePc (PS k))) (cnt (PS (k + 1)).n (x.sePc (PS (k + 1)))))) go2) gt2) gv2) (cnt (PS k).n (x.sePc (PS k)) + cnt (PS (k + 1)).n (x.sePc (PS (k + 1))))) (sfT x.nP k 2 (x.npc - (k + 2)))) (x.npc - 2)).esC (sfT PS k 2 (x.npc - (k + 2)))) x.nsO x.nsc)) (tdT ((VS.s_npc (VS.s_nP (VS.s_gsize (VS.s_gV (VS.s_gT (VS.s_gO (VS.s_gN (VS.s_gA (VS.s_jch (VS.s_jkept (VS.s_writes (VS.s_cutLeft x (cutN x.wjC 1)) (x.wjW + 1)) x.wjK) false) ga2) (capR (capR x.gN 0 (cnt (PS k).n (x.sePc (PS k)))) (cnt (PS k).n (x.sePc (PS k))) (cnt (PS (k + 1)).n (x.sePc (PS (k + 1)))))) go2) gt2) gv2) (cnt (PS k).n (x.sePc (PS k)) + cnt (PS (k + 1)).n (x.sePc (PS (k + 1))))) (sfT x.nP k 2 (x.npc - (k + 2)))) (x.npc - 2)).esC (sfT PS k 2 (x.npc - (k + 2)))) x.nsF x.nsc)) (tdT ((VS.s_npc (VS.s_nP (VS.s_gsize (VS.s_gV (VS.s_gT (VS.s_gO (VS.s_gN (VS.s_gA (VS.s_jch (VS.s_jkept (VS.s_writes (VS.s_cutLeft x (cutN x.wjC 1)) (x.wjW + 1)) x.wjK) false) ga2) (capR (capR x.gN 0 (cnt (PS k).n (x.sePc (PS k)))) (cnt (PS k).n (x.sePc (PS k))) (cnt (PS (k + 1)).n (x.sePc (PS (k + 1)))))) go2) gt2) gv2) (cnt (PS k).n (x.sePc (PS k)) + cnt (PS (k + 1)).n (x.sePc (PS (k + 1))))) (sfT x.nP k 2 (x.npc - (k + 2)))) (x.npc - 2)).esC (sfT PS k 2 (x.npc - (k + 2)))) x.nsT x.nsc)) ((VS.s_npc (VS.s_nP (VS.s_gsize (VS.s_gV (VS.s_gT (VS.s_gO (VS.s_gN (VS.s_gA (VS.s_jch (VS.s_jkept (VS.s_writes (VS.s_cutLeft x (cutN x.wjC 1)) (x.wjW + 1)) x.wjK) false) ga2) (capR (capR x.gN 0 (cnt (PS k).n (x.sePc (PS k)))) (cnt (PS k).n (x.sePc (PS k))) (cnt (PS (k + 1)).n (x.sePc (PS (k + 1)))))) go2) gt2) gv2) (cnt (PS k).n (x.sePc (PS k)) + cnt (PS (k + 1)).n (x.sePc (PS (k + 1))))) (sfT x.nP k 2 (x.npc - (k + 2)))) (x.npc - 2)).esG (sfT PS k 2 (x.npc - (k + 2))))) (cnt x.nsc ((VS.s_npc (VS.s_nP (VS.s_gsize (VS.s_gV (VS.s_gT (VS.s_gO (VS.s_gN (VS.s_gA (VS.s_jch (VS.s_jkept (VS.s_writes (VS.s_cutLeft x (cutN x.wjC 1)) (x.wjW + 1)) x.wjK) false) ga2) (capR (capR x.gN 0 (cnt (PS k).n (x.sePc (PS k)))) (cnt (PS k).n (x.sePc (PS k))) (cnt (PS (k + 1)).n (x.sePc (PS (k + 1)))))) go2) gt2) gv2) (cnt (PS k).n (x.sePc (PS k)) + cnt (PS (k + 1)).n (x.sePc (PS (k + 1))))) (sfT x.nP k 2 (x.npc - (k + 2)))) (x.npc - 2)).esC (sfT PS k 2 (x.npc - (k + 2)))))) (va_cpy (sfT x.nP k 2 (x.npc - (k + 2))) x.sP 0 0 (x.npc - 2))) (x.npc - 2)) (va_cpy (tdT ((VS.s_npc (VS.s_nP (VS.s_gsize (VS.s_gV (VS.s_gT (VS.s_gO (VS.s_gN (VS.s_gA (VS.s_jch (VS.s_jkept (VS.s_writes (VS.s_cutLeft x (cutN x.wjC 1)) (x.wjW + 1)) x.wjK) false) ga2) (capR (capR x.gN 0 (cnt (PS k).n (x.sePc (PS k)))) (cnt (PS k).n (x.sePc (PS k))) (cnt (PS (k + 1)).n (x.sePc (PS (k + 1)))))) go2) gt2) gv2) (cnt (PS k).n (x.sePc (PS k)) + cnt (PS (k + 1)).n (x.sePc (PS (k + 1))))) (sfT x.nP k 2 (x.npc - (k + 2)))) (x.npc - 2)).esC (sfT PS k 2 (x.npc - (k + 2)))) x.nsO x.nsc) x.ssO 0 0 (cnt x.nsc ((VS.s_npc (VS.s_nP (VS.s_gsize (VS.s_gV (VS.s_gT (VS.s_gO (VS.s_gN (VS.s_gA (VS.s_jch (VS.s_jkept (VS.s_writes (VS.s_cutLeft x (cutN x.wjC 1)) (x.wjW + 1)) x.wjK) false) ga2) (capR (capR x.gN 0 (cnt (PS k).n (x.sePc (PS k)))) (cnt (PS k).n (x.sePc (PS k))) (cnt (PS (k + 1)).n (x.sePc (PS (k + 1)))))) go2) gt2) gv2) (cnt (PS k).n (x.sePc (PS k)) + cnt (PS (k + 1)).n (x.sePc (PS (k + 1))))) (sfT x.nP k 2 (x.npc - (k + 2)))) (x.npc - 2)).esC (sfT PS k 2 (x.npc - (k + 2))))))) (va_cpy (tdT ((VS.s_npc (VS.s_nP (VS.s_gsize (VS.s_gV (VS.s_gT (VS.s_gO (VS.s_gN (VS.s_gA (VS.s_jch (VS.s_jkept (VS.s_writes (VS.s_cutLeft x (cutN x.wjC 1)) (x.wjW + 1)) x.wjK) false) ga2) (capR (capR x.gN 0 (cnt (PS k).n (x.sePc (PS k)))) (cnt (PS k).n (x.sePc (PS k))) (cnt (PS (k + 1)).n (x.sePc (PS (k + 1)))))) go2) gt2) gv2) (cnt (PS k).n (x.sePc (PS k)) + cnt (PS (k + 1)).n (x.sePc (PS (k + 1))))) (sfT x.nP k 2 (x.npc - (k + 2)))) (x.npc - 2)).esC (sfT PS k 2 (x.npc - (k + 2)))) x.nsF x.nsc) x.ssF 0 0 (cnt x.nsc ((VS.s_npc (VS.s_nP (VS.s_gsize (VS.s_gV (VS.s_gT (VS.s_gO (VS.s_gN (VS.s_gA (VS.s_jch (VS.s_jkept (VS.s_writes (VS.s_cutLeft x (cutN x.wjC 1)) (x.wjW + 1)) x.wjK) false) ga2) (capR (capR x.gN 0 (cnt (PS k).n (x.sePc (PS k)))) (cnt (PS k).n (x.sePc (PS k))) (cnt (PS (k + 1)).n (x.sePc (PS (k + 1)))))) go2) gt2) gv2) (cnt (PS k).n (x.sePc (PS k)) + cnt (PS (k + 1)).n (x.sePc (PS (k + 1))))) (sfT x.nP k 2 (x.npc - (k + 2)))) (x.npc - 2)).esC (sfT PS k 2 (x.npc - (k + 2))))))) (va_cpy (tdT ((VS.s_npc (VS.s_nP (VS.s_gsize (VS.s_gV (VS.s_gT (VS.s_gO (VS.s_gN (VS.s_gA (VS.s_jch (VS.s_jkept (VS.s_writes (VS.s_cutLeft x (cutN x.wjC 1)) (x.wjW + 1)) x.wjK) false) ga2) (capR (capR x.gN 0 (cnt (PS k).n (x.sePc (PS k)))) (cnt (PS k).n (x.sePc (PS k))) (cnt (PS (k + 1)).n (x.sePc (PS (k + 1)))))) go2) gt2) gv2) (cnt (PS k).n (x.sePc (PS k)) + cnt (PS (k + 1)).n (x.sePc (PS (k + 1))))) (sfT x.nP k 2 (x.npc - (k + 2)))) (x.npc - 2)).esC (sfT PS k 2 (x.npc - (k + 2)))) x.nsT x.nsc) x.ssT 0 0 (cnt x.nsc ((VS.s_npc (VS.s_nP (VS.s_gsize (VS.s_gV (VS.s_gT (VS.s_gO (VS.s_gN (VS.s_gA (VS.s_jch (VS.s_jkept (VS.s_writes (VS.s_cutLeft x (cutN x.wjC 1)) (x.wjW + 1)) x.wjK) false) ga2) (capR (capR x.gN 0 (cnt (PS k).n (x.sePc (PS k)))) (cnt (PS k).n (x.sePc (PS k))) (cnt (PS (k + 1)).n (x.sePc (PS (k + 1)))))) go2) gt2) gv2) (cnt (PS k).n (x.sePc (PS k)) + cnt (PS (k + 1)).n (x.sePc (PS (k + 1))))) (sfT x.nP k 2 (x.npc - (k + 2)))) (x.npc - 2)).esC (sfT PS k 2 (x.npc - (k + 2))))))) (cnt x.nsc ((VS.s_npc (VS.s_nP (VS.s_gsize (VS.s_gV (VS.s_gT (VS.s_gO (VS.s_gN (VS.s_gA (VS.s_jch (VS.s_jkept (VS.s_writes (VS.s_cutLeft x (cutN x.wjC 1)) (x.wjW + 1)) x.wjK) false) ga2) (capR (capR x.gN 0 (cnt (PS k).n (x.sePc (PS k)))) (cnt (PS k).n (x.sePc (PS k))) (cnt (PS (k + 1)).n (x.sePc (PS (k + 1)))))) go2) gt2) gv2) (cnt (PS k).n (x.sePc (PS k)) + cnt (PS (k + 1)).n (x.sePc (PS (k + 1))))) (sfT x.nP k 2 (x.npc - (k + 2)))) (x.npc - 2)).esC (sfT PS k 2 (x.npc - (k + 2)))))) x.nhor) ⟨rfl, ga2, go2, gt2, gv2, rfl⟩ hP hD (show 0 + 0 + 0 + (3 * (capR x.gN 0 (cnt (PS k).n (x.sePc (PS k))) - x.gN)) + (3 * (capR (capR x.gN 0 (cnt (PS k).n (x.sePc (PS k)))) (cnt (PS k).n (x.sePc (PS k))) (cnt (PS (k + 1)).n (x.sePc (PS (k + 1)))) - (capR x.gN 0 (cnt (PS k).n (x.sePc (PS k)))))) + 0 + 0 + 0 + 0 + 0 + 0 + 0 + 0 ≤ 3 * (capR (capR x.gN 0 (cnt (PS k).n (x.sePc (PS k)))) (cnt (PS k).n (x.sePc (PS k))) (cnt (PS (k + 1)).n (x.sePc (PS (k + 1)))) - x.gN) by omega) (show 0 + 0 + 0 + (6 * (capR x.gN 0 (cnt (PS k).n (x.sePc (PS k))) - x.gN)) + (6 * (capR (capR x.gN 0 (cnt (PS k).n (x.sePc (PS k)))) (cnt (PS k).n (x.sePc (PS k))) (cnt (PS (k + 1)).n (x.sePc (PS (k + 1)))) - (capR x.gN 0 (cnt (PS k).n (x.sePc (PS k)))))) + 0 + 0 + 0 + 0 + 0 + 0 + 0 + 0 ≤ 6 * (capR (capR x.gN 0 (cnt (PS k).n (x.sePc (PS k)))) (cnt (PS k).n (x.sePc (PS k))) (cnt (PS (k + 1)).n (x.sePc (PS (k + 1)))) - x.gN) by omega) d_V_compact_145
def VS.cpJ (x : VS) (PS : Nat → PT) (k : Nat) (ga2 go2 : Nat → Nat) (gt2 gv2 : Nat → Int64) (pl1 : va_W) (k0 : Nat) : VS := VS.s_pl (VS.s_gsize (VS.s_gV (VS.s_gT (VS.s_gO (VS.s_gN (VS.s_gA (VS.s_jch (VS.s_jkept (VS.s_writes (VS.s_cutLeft (VS.s_powered x false) (-1)) (x.wjW + k0)) x.wjK) false) ga2) (capR (capR x.gN 0 (cnt (PS k).n (x.sePc (PS k)))) (cnt (PS k).n (x.sePc (PS k))) (cnt (PS (k + 1)).n (x.sePc (PS (k + 1)))))) go2) gt2) gv2) (cnt (PS k).n (x.sePc (PS k)) + cnt (PS (k + 1)).n (x.sePc (PS (k + 1))))) pl1
def VS.cpI (x : VS) (PS : Nat → PT) (k : Nat) (ga2 go2 : Nat → Nat) (gt2 gv2 : Nat → Int64) (pl1 : va_W) : VS := VS.s_pl (VS.s_gsize (VS.s_gV (VS.s_gT (VS.s_gO (VS.s_gN (VS.s_gA (VS.s_cutLeft (VS.s_powered x false) (-1)) ga2) (capR (capR x.gN 0 (cnt (PS k).n (x.sePc (PS k)))) (cnt (PS k).n (x.sePc (PS k))) (cnt (PS (k + 1)).n (x.sePc (PS (k + 1)))))) go2) gt2) gv2) (cnt (PS k).n (x.sePc (PS k)) + cnt (PS (k + 1)).n (x.sePc (PS (k + 1))))) pl1
def VS.cpU (x : VS) (PS : Nat → PT) (k : Nat) (ga2 go2 : Nat → Nat) (gt2 gv2 : Nat → Int64) (pl1 : va_W) : VS := VS.s_pl (VS.s_gsize (VS.s_gV (VS.s_gT (VS.s_gO (VS.s_gN (VS.s_gA x ga2) (capR (capR x.gN 0 (cnt (PS k).n (x.sePc (PS k)))) (cnt (PS k).n (x.sePc (PS k))) (cnt (PS (k + 1)).n (x.sePc (PS (k + 1)))))) go2) gt2) gv2) (cnt (PS k).n (x.sePc (PS k)) + cnt (PS (k + 1)).n (x.sePc (PS (k + 1))))) pl1
set_option maxHeartbeats 4000000 in
set_option maxRecDepth 100000 in
theorem v_compact_i0 (l : Launch) (htr : l.stackTraces = false) (D : va_G) (dA : Nat → ClassId) (sz : Nat) (h : Nat) (ad : Nat → Nat) (x : VS) (PS : Nat → PT) (k : Nat) (ho : x.powered = true) (hk : k + 2 ≤ x.npc) (hps : psOk dA x.nP x.npc x.pl PS) (hpn : x.npc ≤ 32) (h1 : x.nsc ≤ 64) (h7 : ∀ q : Nat, q < x.nsc → x.nsO q < 2 ^ 31) (hfr : x.jlimit + 2 + (x.ncat + sumN x.npc (blN PS)) ≤ x.diskBlocks) (hn : x.nser ≤ 256) (hdk : x.diskBlocks ≤ 256) (hg0 : 0 < x.gN) (hg1 : capR (capR x.gN 0 (cnt (PS k).n (x.sePc (PS k)))) (cnt (PS k).n (x.sePc (PS k))) (cnt (PS (k + 1)).n (x.sePc (PS (k + 1)))) ≤ 32768) (hwb : x.writes + 1000 < 2 ^ 31) (hz : (cnt (PS k).n (x.sePc (PS k)) + cnt (PS (k + 1)).n (x.sePc (PS (k + 1)))) = 0) (hc2 : x.jch = true) (hc : x.cutLeft = 0) : mX l ⟨"SeriesVault", "compact", "(I)I"⟩ [Cond.code ⟨"SeriesVault", "compact", "(I)I"⟩ prog_1_method_40_code 4 (some FieldType.int)] { frames := 8, cells := 3 * (capR (capR x.gN 0 (cnt (PS k).n (x.sePc (PS k)))) (cnt (PS k).n (x.sePc (PS k))) (cnt (PS (k + 1)).n (x.sePc (PS (k + 1)))) - x.gN) + 1, slots := 6 * (capR (capR x.gN 0 (cnt (PS k).n (x.sePc (PS k)))) (cnt (PS k).n (x.sePc (PS k))) (cnt (PS (k + 1)).n (x.sePc (PS (k + 1)))) - x.gN) + 6, locals := 121 } (pC D dA [.ref h, .int (nI k)] (VW dA h ad x) sz) "java/lang/IllegalStateException" (fun st9 t9 => va_F (va_A (VW dA h ad x) sz) st9 t9 ∧ ∃ u9 : VS, ((∃ (ga2 go2 : Nat → Nat) (gt2 gv2 : Nat → Int64), u9 = x.cpI PS k ga2 go2 gt2 gv2 x.pl)) ∧ bW D (va_A (VW dA h ad x) sz) (VW dA h ad u9) t9) (3 * (capR (capR x.gN 0 (cnt (PS k).n (x.sePc (PS k)))) (cnt (PS k).n (x.sePc (PS k))) (cnt (PS (k + 1)).n (x.sePc (PS (k + 1)))) - x.gN) + 1) (6 * (capR (capR x.gN 0 (cnt (PS k).n (x.sePc (PS k)))) (cnt (PS k).n (x.sePc (PS k))) (cnt (PS (k + 1)).n (x.sePc (PS (k + 1)))) - x.gN) + 6) (va_A (VW dA h ad x) sz) := by
  refine mkX (y := ⟨"SeriesVault", "compact", "(I)I"⟩) (cc := prog_1_method_40_code) (maxL := 4) (av := [.ref h, .int (nI k)]) (ws := VW dA h ad x) (sz := sz) (B := fun A => (fun st9 t9 => va_F A st9 t9 ∧ ∃ u9 : VS, ((∃ (ga2 go2 : Nat → Nat) (gt2 gv2 : Nat → Int64), u9 = x.cpI PS k ga2 go2 gt2 gv2 x.pl)) ∧ bW D A (VW dA h ad u9) t9)) (by decide) (Nat.le_of_ble_eq_true rfl) ?_
  intro A p e s m below meth c ls hsz hno hB
  obtain ⟨hx, hb, hr, hml, hown, hin, hlk, hE, hK, hP, hD, hS, hA, hN, hl⟩ := hB
  have hown : s.vm.findClass "SeriesVault" = some m.cls := hown
  have hl : lv_has ls 4 [(0, .ref h), (1, .int (nI k))] := hl
  obtain ⟨H, hH⟩ : ∃ z, z = s.heap := ⟨_, rfl⟩
  have hP : va_P D vwCl (VW dA h ad x) H := by rw [hH]; exact hP
  have hS : va_S A s.heap H [] := by rw [hH]; exact hS
  rw [← hH]
  refine lv_aload_n hx hb d_V_compact_0 rfl (lv_at hl 0 rfl) ?_
  refine jkV (wr := []) (rnV (As := []) (rest := []) hx hb hml hown hE hK (hN _ _ hS) hP hD (v_checkPower l D dA H.size h ad x ho) (q0 := 0) rfl rfl w278 w276 w279 w280 w277 rfl rfl ⟨⟨by decide, by decide⟩, rfl⟩ ⟨(Nat.le_of_ble_eq_true rfl), (Nat.le_of_ble_eq_true rfl)⟩ rfl hl.1 rfl (Nat.le_of_ble_eq_true rfl) d_V_compact_1 ⟨(show 0 + 0 ≤ 3 * (capR (capR x.gN 0 (cnt (PS k).n (x.sePc (PS k)))) (cnt (PS k).n (x.sePc (PS k))) (cnt (PS (k + 1)).n (x.sePc (PS (k + 1)))) - x.gN) + 1 by omega), (show 0 + 0 ≤ 6 * (capR (capR x.gN 0 (cnt (PS k).n (x.sePc (PS k)))) (cnt (PS k).n (x.sePc (PS k))) (cnt (PS (k + 1)).n (x.sePc (PS (k + 1)))) - x.gN) + 6 by omega)⟩) hP hD hS hA (fun u2 H locs hp9 hP hD hS => ?_)
  have hP : va_P D vwCl (VW dA h ad x) H := hP
  have hD : va_D A (VW dA h ad x) := hD
  refine lv_iload_n hx hb d_V_compact_4 rfl (lv_at hl 1 rfl) ?_
  refine lv_if_lt hx hb d_V_compact_5 (tgt := 21) rfl (fun h9 => absurd h9 (nI_pos (n := k) (by omega))) (fun _ => ?_)
  refine lv_iload_n hx hb d_V_compact_8 rfl (lv_at hl 1 rfl) ?_
  refine lv_aload_n hx hb d_V_compact_9 rfl (lv_at hl 0 rfl) ?_
  refine gF (v := .ref (ad 3)) hx hb hown hE hK hP 0 rfl rfl layV 11 (by decide) w297 rfl d_V_compact_10 ?_
  refine gFN (v := .int (nI x.npc)) hx hb hown hE hK hP 17 rfl rfl layH 1 (by decide) w303 rfl d_V_compact_13 ?_
  refine lv_iconst (v := 1) hx hb d_V_compact_16 (by decide) ?_
  refine lv_isub hx hb d_V_compact_17 (tpi (y := nI (x.npc - 1)) (pk_sub (a := x.npc) (b := 1) (by omega)) ?_)
  refine lv_icmp_lt hx hb d_V_compact_18 (tgt := 29) rfl (fun g3 => ?_) (fun g3 => ?_)
  rotate_left
  · have g3 := mt (nI_ltI (a := k) (b := x.npc - 1) (by omega) (by omega)).mpr g3; exfalso; omega
  have g3 := (nI_ltI (a := k) (b := x.npc - 1) (by omega) (by omega)).mp g3
  obtain ⟨pp, ke, hpp, hpk⟩ := hps k (by omega)
  obtain ⟨qq, ke2, hqq, hqk⟩ := hps (k + 1) (by omega)
  have cl1 := cnt_le (PS k).n (x.sePc (PS k))
  have cl2 := cnt_le (PS (k + 1)).n (x.sePc (PS (k + 1)))
  have pk0 := hpk.1
  have qk0 := hqk.1
  have cm1 := capR_m (capR x.gN 0 (cnt (PS k).n (x.sePc (PS k)))) (cnt (PS k).n (x.sePc (PS k))) (Nat.zero_le (cnt (PS (k + 1)).n (x.sePc (PS (k + 1)))))
  have cm2 : capR (capR x.gN 0 (cnt (PS k).n (x.sePc (PS k)))) (cnt (PS k).n (x.sePc (PS k))) 0 = capR x.gN 0 (cnt (PS k).n (x.sePc (PS k))) := rfl
  have cm3 := capR_m x.gN 0 (Nat.zero_le (cnt (PS k).n (x.sePc (PS k))))
  have cm4 : capR x.gN 0 0 = x.gN := rfl
  have hfe : x.fr PS = x.diskBlocks - 2 - x.jlimit - (x.ncat + sumN x.npc (blN PS)) := rfl
  refine lv_aload_n hx hb d_V_compact_29 rfl (lv_at hl 0 rfl) ?_
  refine gF (v := .ref (ad 2)) hx hb hown hE hK hP 0 rfl rfl layV 10 (by decide) w826 rfl d_V_compact_30 ?_
  refine jkV (wr := []) (rnV (As := []) (rest := []) hx hb hml hown hE hK (hN _ _ hS) hP hD (v_pclear_g l D dA H.size h ad x) (q0 := 13) rfl rfl w579 w577 w580 w581 w578 rfl rfl ⟨⟨by decide, by decide⟩, rfl⟩ ⟨(Nat.le_of_ble_eq_true rfl), (Nat.le_of_ble_eq_true rfl)⟩ rfl hl.1 rfl (Nat.le_of_ble_eq_true rfl) d_V_compact_33 ⟨(show 0 + 0 + 0 ≤ 3 * (capR (capR x.gN 0 (cnt (PS k).n (x.sePc (PS k)))) (cnt (PS k).n (x.sePc (PS k))) (cnt (PS (k + 1)).n (x.sePc (PS (k + 1)))) - x.gN) + 1 by omega), (show 0 + 0 + 0 ≤ 6 * (capR (capR x.gN 0 (cnt (PS k).n (x.sePc (PS k)))) (cnt (PS k).n (x.sePc (PS k))) (cnt (PS (k + 1)).n (x.sePc (PS (k + 1)))) - x.gN) + 6 by omega)⟩) hP hD hS hA (fun u5 H locs hp9 hP hD hS => ?_)
  have hP : va_P D vwCl (VW dA h ad (VS.s_gsize x 0)) H := hP
  have hD : va_D A (VW dA h ad (VS.s_gsize x 0)) := hD
  refine lv_aload_n hx hb d_V_compact_36 rfl (lv_at hl 0 rfl) ?_
  refine gF (v := .ref (ad 3)) hx hb hown hE hK hP 0 rfl rfl layV 11 (by decide) w297 rfl d_V_compact_37 ?_
  refine lv_aload_n hx hb d_V_compact_40 rfl (lv_at hl 0 rfl) ?_
  refine gF (v := .ref (ad 3)) hx hb hown hE hK hP 0 rfl rfl layV 11 (by decide) w297 rfl d_V_compact_41 ?_
  refine gFN (v := .ref (ad 4)) hx hb hown hE hK hP 17 rfl rfl layH 0 (by decide) w1347 rfl d_V_compact_44 ?_
  refine lv_iload_n hx hb d_V_compact_47 rfl (lv_at hl 1 rfl) ?_
  refine nqld (f := x.nP) (n := 32) hx hb hK hP (18) 4 rfl rfl (k) (by omega) (by decide) ke d_V_compact_48 ?_
  refine lv_aload_n hx hb d_V_compact_49 rfl (lv_at hl 0 rfl) ?_
  refine gF (v := .ref (ad 2)) hx hb hown hE hK hP 0 rfl rfl layV 10 (by decide) w826 rfl d_V_compact_50 ?_
  refine jkV (wr := []) (rnV (As := [.ref pp, .ref (ad 2)]) (rest := []) hx hb hml hown hE hK (hN _ _ hS) hP hD (v_gatherSeen l D dA H.size h ad (VS.s_gsize x 0) pp (PS k) hpp hpk (show x.nsc ≤ 64 from by omega) h7 (Nat.zero_le _) (show 0 < x.gN from by omega) (show capR x.gN 0 (cnt (PS k).n (x.sePc (PS k))) ≤ 32768 from by omega)) (q0 := 17) rfl rfl w1751 w1750 w1752 w1753 w583 rfl rfl ⟨⟨by decide, by decide⟩, rfl⟩ ⟨(Nat.le_of_ble_eq_true rfl), (Nat.le_of_ble_eq_true rfl)⟩ rfl hl.1 rfl (Nat.le_of_ble_eq_true rfl) d_V_compact_53 ⟨(show 0 + 0 + 0 + (3 * (capR x.gN 0 (cnt (PS k).n (x.sePc (PS k))) - x.gN)) ≤ 3 * (capR (capR x.gN 0 (cnt (PS k).n (x.sePc (PS k)))) (cnt (PS k).n (x.sePc (PS k))) (cnt (PS (k + 1)).n (x.sePc (PS (k + 1)))) - x.gN) + 1 by omega), (show 0 + 0 + 0 + (6 * (capR x.gN 0 (cnt (PS k).n (x.sePc (PS k))) - x.gN)) ≤ 6 * (capR (capR x.gN 0 (cnt (PS k).n (x.sePc (PS k)))) (cnt (PS k).n (x.sePc (PS k))) (cnt (PS (k + 1)).n (x.sePc (PS (k + 1)))) - x.gN) + 6 by omega)⟩) hP hD hS hA (fun u7 H locs hp9 hP hD hS => ?_)
  obtain ⟨y8, h9u⟩ : ∃ z9, z9 = u7 := ⟨_, rfl⟩
  subst h9u
  have hP : va_P D vwCl (VW dA h ad y8) H := hP
  have hD : va_D A (VW dA h ad y8) := hD
  have f_g_9 := hp9
  obtain ⟨ga, gn, go, gt, gv, gz, ey, z1, z2, z3, z4, z5⟩ := gaR_u f_g_9
  subst ey
  have hP : va_P D vwCl (VW dA h ad (VS.s_gsize (VS.s_gV (VS.s_gT (VS.s_gO (VS.s_gN (VS.s_gA x ga) gn) go) gt) gv) gz)) H := hP
  have hD : va_D A (VW dA h ad (VS.s_gsize (VS.s_gV (VS.s_gT (VS.s_gO (VS.s_gN (VS.s_gA x ga) gn) go) gt) gv) gz)) := hD
  have z1 : gz = cnt (PS k).n (x.sePc (PS k)) := z1.trans (Nat.zero_add _)
  have z3 : gn = capR x.gN 0 (cnt (PS k).n (x.sePc (PS k))) := z3
  have z5a : ∀ j, j < (PS k).n → x.sePc (PS k) j = true → go (0 + cnt j (x.sePc (PS k))) = (PS k).o j ∧ gt (0 + cnt j (x.sePc (PS k))) = (PS k).t j ∧ gv (0 + cnt j (x.sePc (PS k))) = (PS k).v j := z5
  have z2a := z2
  subst z1
  subst z3
  have hP : va_P D vwCl (VW dA h ad (VS.s_gsize (VS.s_gV (VS.s_gT (VS.s_gO (VS.s_gN (VS.s_gA x ga) (capR x.gN 0 (cnt (PS k).n (x.sePc (PS k))))) go) gt) gv) (cnt (PS k).n (x.sePc (PS k))))) H := hP
  have hD : va_D A (VW dA h ad (VS.s_gsize (VS.s_gV (VS.s_gT (VS.s_gO (VS.s_gN (VS.s_gA x ga) (capR x.gN 0 (cnt (PS k).n (x.sePc (PS k))))) go) gt) gv) (cnt (PS k).n (x.sePc (PS k))))) := hD
  refine lv_aload_n hx hb d_V_compact_56 rfl (lv_at hl 0 rfl) ?_
  refine gF (v := .ref (ad 3)) hx hb hown hE hK hP 0 rfl rfl layV 11 (by decide) w297 rfl d_V_compact_57 ?_
  refine lv_aload_n hx hb d_V_compact_60 rfl (lv_at hl 0 rfl) ?_
  refine gF (v := .ref (ad 3)) hx hb hown hE hK hP 0 rfl rfl layV 11 (by decide) w297 rfl d_V_compact_61 ?_
  refine gFN (v := .ref (ad 4)) hx hb hown hE hK hP 17 rfl rfl layH 0 (by decide) w1347 rfl d_V_compact_64 ?_
  refine lv_iload_n hx hb d_V_compact_67 rfl (lv_at hl 1 rfl) ?_
  refine lv_iconst (v := 1) hx hb d_V_compact_68 (by decide) ?_
  refine lv_iadd hx hb d_V_compact_69 (tpi (y := nI (k + 1)) (nI_add (k) (1)) ?_)
  refine nqld (f := x.nP) (n := 32) hx hb hK hP (18) 4 rfl rfl (k + 1) (by omega) (by decide) ke2 d_V_compact_70 ?_
  refine lv_aload_n hx hb d_V_compact_71 rfl (lv_at hl 0 rfl) ?_
  refine gF (v := .ref (ad 2)) hx hb hown hE hK hP 0 rfl rfl layV 10 (by decide) w826 rfl d_V_compact_72 ?_
  refine jkV (wr := []) (rnV (As := [.ref qq, .ref (ad 2)]) (rest := []) hx hb hml hown hE hK (hN _ _ hS) hP hD (v_gatherSeen l D dA H.size h ad (VS.s_gsize (VS.s_gV (VS.s_gT (VS.s_gO (VS.s_gN (VS.s_gA x ga) (capR x.gN 0 (cnt (PS k).n (x.sePc (PS k))))) go) gt) gv) (cnt (PS k).n (x.sePc (PS k)))) qq (PS (k + 1)) hqq hqk (show x.nsc ≤ 64 from by omega) h7 z2a (show 0 < (capR x.gN 0 (cnt (PS k).n (x.sePc (PS k)))) from by omega) hg1) (q0 := 17) rfl rfl w1751 w1750 w1752 w1753 w583 rfl rfl ⟨⟨by decide, by decide⟩, rfl⟩ ⟨(Nat.le_of_ble_eq_true rfl), (Nat.le_of_ble_eq_true rfl)⟩ rfl hl.1 rfl (Nat.le_of_ble_eq_true rfl) d_V_compact_75 ⟨(show 0 + 0 + 0 + (3 * (capR x.gN 0 (cnt (PS k).n (x.sePc (PS k))) - x.gN)) + (3 * (capR (capR x.gN 0 (cnt (PS k).n (x.sePc (PS k)))) (cnt (PS k).n (x.sePc (PS k))) (cnt (PS (k + 1)).n (x.sePc (PS (k + 1)))) - (capR x.gN 0 (cnt (PS k).n (x.sePc (PS k)))))) ≤ 3 * (capR (capR x.gN 0 (cnt (PS k).n (x.sePc (PS k)))) (cnt (PS k).n (x.sePc (PS k))) (cnt (PS (k + 1)).n (x.sePc (PS (k + 1)))) - x.gN) + 1 by omega), (show 0 + 0 + 0 + (6 * (capR x.gN 0 (cnt (PS k).n (x.sePc (PS k))) - x.gN)) + (6 * (capR (capR x.gN 0 (cnt (PS k).n (x.sePc (PS k)))) (cnt (PS k).n (x.sePc (PS k))) (cnt (PS (k + 1)).n (x.sePc (PS (k + 1)))) - (capR x.gN 0 (cnt (PS k).n (x.sePc (PS k)))))) ≤ 6 * (capR (capR x.gN 0 (cnt (PS k).n (x.sePc (PS k)))) (cnt (PS k).n (x.sePc (PS k))) (cnt (PS (k + 1)).n (x.sePc (PS (k + 1)))) - x.gN) + 6 by omega)⟩) hP hD hS hA (fun u11 H locs hp9 hP hD hS => ?_)
  obtain ⟨y12, h9u⟩ : ∃ z9, z9 = u11 := ⟨_, rfl⟩
  subst h9u
  have hP : va_P D vwCl (VW dA h ad y12) H := hP
  have hD : va_D A (VW dA h ad y12) := hD
  have f_g_13 := hp9
  obtain ⟨ga2, gn2, go2, gt2, gv2, gz2, ey, z1, z2, z3, z4, z5⟩ := gaR_u f_g_13
  subst ey
  have hP : va_P D vwCl (VW dA h ad (VS.s_gsize (VS.s_gV (VS.s_gT (VS.s_gO (VS.s_gN (VS.s_gA x ga2) gn2) go2) gt2) gv2) gz2)) H := hP
  have hD : va_D A (VW dA h ad (VS.s_gsize (VS.s_gV (VS.s_gT (VS.s_gO (VS.s_gN (VS.s_gA x ga2) gn2) go2) gt2) gv2) gz2)) := hD
  have z1 : gz2 = (cnt (PS k).n (x.sePc (PS k)) + cnt (PS (k + 1)).n (x.sePc (PS (k + 1)))) := z1
  have z3 : gn2 = capR (capR x.gN 0 (cnt (PS k).n (x.sePc (PS k)))) (cnt (PS k).n (x.sePc (PS k))) (cnt (PS (k + 1)).n (x.sePc (PS (k + 1)))) := z3
  have z2b : gz2 ≤ gn2 := z2
  have hgt : gat2 (x.sePc (PS k)) (x.sePc (PS (k + 1))) (PS k) (PS (k + 1)) go2 gt2 gv2 := gat2_m z5a z4 z5
  subst z1
  subst z3
  have hP : va_P D vwCl (VW dA h ad (VS.s_gsize (VS.s_gV (VS.s_gT (VS.s_gO (VS.s_gN (VS.s_gA x ga2) (capR (capR x.gN 0 (cnt (PS k).n (x.sePc (PS k)))) (cnt (PS k).n (x.sePc (PS k))) (cnt (PS (k + 1)).n (x.sePc (PS (k + 1)))))) go2) gt2) gv2) (cnt (PS k).n (x.sePc (PS k)) + cnt (PS (k + 1)).n (x.sePc (PS (k + 1)))))) H := hP
  have hD : va_D A (VW dA h ad (VS.s_gsize (VS.s_gV (VS.s_gT (VS.s_gO (VS.s_gN (VS.s_gA x ga2) (capR (capR x.gN 0 (cnt (PS k).n (x.sePc (PS k)))) (cnt (PS k).n (x.sePc (PS k))) (cnt (PS (k + 1)).n (x.sePc (PS (k + 1)))))) go2) gt2) gv2) (cnt (PS k).n (x.sePc (PS k)) + cnt (PS (k + 1)).n (x.sePc (PS (k + 1)))))) := hD
  refine lv_aload_n hx hb d_V_compact_78 rfl (lv_at hl 0 rfl) ?_
  refine lv_aload_n hx hb d_V_compact_79 rfl (lv_at hl 0 rfl) ?_
  refine gF (v := .ref (ad 2)) hx hb hown hE hK hP 0 rfl rfl layV 10 (by decide) w826 rfl d_V_compact_80 ?_
  refine jkN (wr := []) (rnV (As := [.ref (ad 2)]) (rest := []) hx hb hml hown hE hK (hN _ _ hS) hP hD (v_packed_0g l D dA H.size h ad (VS.s_gsize (VS.s_gV (VS.s_gT (VS.s_gO (VS.s_gN (VS.s_gA x ga2) (capR (capR x.gN 0 (cnt (PS k).n (x.sePc (PS k)))) (cnt (PS k).n (x.sePc (PS k))) (cnt (PS (k + 1)).n (x.sePc (PS (k + 1)))))) go2) gt2) gv2) (cnt (PS k).n (x.sePc (PS k)) + cnt (PS (k + 1)).n (x.sePc (PS (k + 1))))) hz) (q0 := 0) rfl rfl w1383 w1382 w1384 w1385 w277 rfl rfl ⟨⟨by decide, by decide⟩, rfl⟩ ⟨(Nat.le_of_ble_eq_true rfl), (Nat.le_of_ble_eq_true rfl)⟩ rfl hl.1 rfl (Nat.le_of_ble_eq_true rfl) d_V_compact_83 ⟨(show 0 + 0 + 0 + (3 * (capR x.gN 0 (cnt (PS k).n (x.sePc (PS k))) - x.gN)) + (3 * (capR (capR x.gN 0 (cnt (PS k).n (x.sePc (PS k)))) (cnt (PS k).n (x.sePc (PS k))) (cnt (PS (k + 1)).n (x.sePc (PS (k + 1)))) - (capR x.gN 0 (cnt (PS k).n (x.sePc (PS k)))))) + 0 ≤ 3 * (capR (capR x.gN 0 (cnt (PS k).n (x.sePc (PS k)))) (cnt (PS k).n (x.sePc (PS k))) (cnt (PS (k + 1)).n (x.sePc (PS (k + 1)))) - x.gN) + 1 by omega), (show 0 + 0 + 0 + (6 * (capR x.gN 0 (cnt (PS k).n (x.sePc (PS k))) - x.gN)) + (6 * (capR (capR x.gN 0 (cnt (PS k).n (x.sePc (PS k)))) (cnt (PS k).n (x.sePc (PS k))) (cnt (PS (k + 1)).n (x.sePc (PS (k + 1)))) - (capR x.gN 0 (cnt (PS k).n (x.sePc (PS k)))))) + 0 ≤ 6 * (capR (capR x.gN 0 (cnt (PS k).n (x.sePc (PS k)))) (cnt (PS k).n (x.sePc (PS k))) (cnt (PS (k + 1)).n (x.sePc (PS (k + 1)))) - x.gN) + 6 by omega)⟩) hP hD hS hA (fun u15 H locs hp9 hP hD hS => ?_)
  have hP : va_P D vwCl (VW dA h ad (VS.s_gsize (VS.s_gV (VS.s_gT (VS.s_gO (VS.s_gN (VS.s_gA x ga2) (capR (capR x.gN 0 (cnt (PS k).n (x.sePc (PS k)))) (cnt (PS k).n (x.sePc (PS k))) (cnt (PS (k + 1)).n (x.sePc (PS (k + 1)))))) go2) gt2) gv2) (cnt (PS k).n (x.sePc (PS k)) + cnt (PS (k + 1)).n (x.sePc (PS (k + 1)))))) H := hP
  have hD : va_D A (VW dA h ad (VS.s_gsize (VS.s_gV (VS.s_gT (VS.s_gO (VS.s_gN (VS.s_gA x ga2) (capR (capR x.gN 0 (cnt (PS k).n (x.sePc (PS k)))) (cnt (PS k).n (x.sePc (PS k))) (cnt (PS (k + 1)).n (x.sePc (PS (k + 1)))))) go2) gt2) gv2) (cnt (PS k).n (x.sePc (PS k)) + cnt (PS (k + 1)).n (x.sePc (PS (k + 1)))))) := hD
  refine lv_astore_nN hx hb d_V_compact_86 rfl hl (by decide) rfl (fun ls hl => ?_)
  have hl : lv_has ls 4 [(2, .null), (0, .ref h), (1, .int (nI k))] := hl
  refine lv_aload_nN hx hb d_V_compact_87 rfl (lv_at hl 0 rfl) ?_
  have hPc := hP.sub (ws' := []) [] rfl
  have hDc := hD.sub (ws' := []) [] (by decide) rfl
  refine jpI (rnS (As := [.null]) (rest := []) hx hb hml hown hE hK (hN _ _ hS) hPc hDc (v_blocksOf_0 l D dA H.size ) w1391 w1390 w1392 w277 rfl rfl ⟨⟨by decide, by decide⟩, rfl⟩ ⟨(Nat.le_of_ble_eq_true rfl), (Nat.le_of_ble_eq_true rfl)⟩ rfl hl.1 rfl (Nat.le_of_ble_eq_true rfl) d_V_compact_88 ⟨(show 0 + 0 + 0 + (3 * (capR x.gN 0 (cnt (PS k).n (x.sePc (PS k))) - x.gN)) + (3 * (capR (capR x.gN 0 (cnt (PS k).n (x.sePc (PS k)))) (cnt (PS k).n (x.sePc (PS k))) (cnt (PS (k + 1)).n (x.sePc (PS (k + 1)))) - (capR x.gN 0 (cnt (PS k).n (x.sePc (PS k)))))) + 0 + 0 ≤ 3 * (capR (capR x.gN 0 (cnt (PS k).n (x.sePc (PS k)))) (cnt (PS k).n (x.sePc (PS k))) (cnt (PS (k + 1)).n (x.sePc (PS (k + 1)))) - x.gN) + 1 by omega), (show 0 + 0 + 0 + (6 * (capR x.gN 0 (cnt (PS k).n (x.sePc (PS k))) - x.gN)) + (6 * (capR (capR x.gN 0 (cnt (PS k).n (x.sePc (PS k)))) (cnt (PS k).n (x.sePc (PS k))) (cnt (PS (k + 1)).n (x.sePc (PS (k + 1)))) - (capR x.gN 0 (cnt (PS k).n (x.sePc (PS k)))))) + 0 + 0 ≤ 6 * (capR (capR x.gN 0 (cnt (PS k).n (x.sePc (PS k)))) (cnt (PS k).n (x.sePc (PS k))) (cnt (PS (k + 1)).n (x.sePc (PS (k + 1)))) - x.gN) + 6 by omega)⟩) hP hD hS hA (fun r16 u9 H locs hp9 hP hD hS => ?_)
  have hP : va_P D vwCl (VW dA h ad (VS.s_gsize (VS.s_gV (VS.s_gT (VS.s_gO (VS.s_gN (VS.s_gA x ga2) (capR (capR x.gN 0 (cnt (PS k).n (x.sePc (PS k)))) (cnt (PS k).n (x.sePc (PS k))) (cnt (PS (k + 1)).n (x.sePc (PS (k + 1)))))) go2) gt2) gv2) (cnt (PS k).n (x.sePc (PS k)) + cnt (PS (k + 1)).n (x.sePc (PS (k + 1)))))) H := hP
  have hD : va_D A (VW dA h ad (VS.s_gsize (VS.s_gV (VS.s_gT (VS.s_gO (VS.s_gN (VS.s_gA x ga2) (capR (capR x.gN 0 (cnt (PS k).n (x.sePc (PS k)))) (cnt (PS k).n (x.sePc (PS k))) (cnt (PS (k + 1)).n (x.sePc (PS (k + 1)))))) go2) gt2) gv2) (cnt (PS k).n (x.sePc (PS k)) + cnt (PS (k + 1)).n (x.sePc (PS (k + 1)))))) := hD
  replace hp9 : 0 = r16 := Eq.symm hp9
  subst hp9
  refine lv_aload_n hx hb d_V_compact_91 rfl (lv_at hl 1 rfl) ?_
  refine jkI (wr := []) (rnV (As := []) (rest := [.int 0]) hx hb hml hown hE hK (hN _ _ hS) hP hD (v_freeBlocks l D dA H.size h ad (VS.s_gsize (VS.s_gV (VS.s_gT (VS.s_gO (VS.s_gN (VS.s_gA x ga2) (capR (capR x.gN 0 (cnt (PS k).n (x.sePc (PS k)))) (cnt (PS k).n (x.sePc (PS k))) (cnt (PS (k + 1)).n (x.sePc (PS (k + 1)))))) go2) gt2) gv2) (cnt (PS k).n (x.sePc (PS k)) + cnt (PS (k + 1)).n (x.sePc (PS (k + 1))))) PS hps (show x.npc ≤ 32 from by omega) (show x.jlimit + 2 + (x.ncat + sumN x.npc (blN PS)) ≤ x.diskBlocks from by omega)) (q0 := 0) rfl rfl w644 w643 w645 w646 w277 rfl rfl ⟨⟨by decide, by decide⟩, rfl⟩ ⟨(Nat.le_of_ble_eq_true rfl), (Nat.le_of_ble_eq_true rfl)⟩ rfl hl.1 rfl (Nat.le_of_ble_eq_true rfl) d_V_compact_92 ⟨(show 0 + 0 + 0 + (3 * (capR x.gN 0 (cnt (PS k).n (x.sePc (PS k))) - x.gN)) + (3 * (capR (capR x.gN 0 (cnt (PS k).n (x.sePc (PS k)))) (cnt (PS k).n (x.sePc (PS k))) (cnt (PS (k + 1)).n (x.sePc (PS (k + 1)))) - (capR x.gN 0 (cnt (PS k).n (x.sePc (PS k)))))) + 0 + 0 + 0 ≤ 3 * (capR (capR x.gN 0 (cnt (PS k).n (x.sePc (PS k)))) (cnt (PS k).n (x.sePc (PS k))) (cnt (PS (k + 1)).n (x.sePc (PS (k + 1)))) - x.gN) + 1 by omega), (show 0 + 0 + 0 + (6 * (capR x.gN 0 (cnt (PS k).n (x.sePc (PS k))) - x.gN)) + (6 * (capR (capR x.gN 0 (cnt (PS k).n (x.sePc (PS k)))) (cnt (PS k).n (x.sePc (PS k))) (cnt (PS (k + 1)).n (x.sePc (PS (k + 1)))) - (capR x.gN 0 (cnt (PS k).n (x.sePc (PS k)))))) + 0 + 0 + 0 ≤ 6 * (capR (capR x.gN 0 (cnt (PS k).n (x.sePc (PS k)))) (cnt (PS k).n (x.sePc (PS k))) (cnt (PS (k + 1)).n (x.sePc (PS (k + 1)))) - x.gN) + 6 by omega)⟩) hP hD hS hA (fun r18 u19 H locs hp9 hP hD hS => ?_)
  have hP : va_P D vwCl (VW dA h ad (VS.s_gsize (VS.s_gV (VS.s_gT (VS.s_gO (VS.s_gN (VS.s_gA x ga2) (capR (capR x.gN 0 (cnt (PS k).n (x.sePc (PS k)))) (cnt (PS k).n (x.sePc (PS k))) (cnt (PS (k + 1)).n (x.sePc (PS (k + 1)))))) go2) gt2) gv2) (cnt (PS k).n (x.sePc (PS k)) + cnt (PS (k + 1)).n (x.sePc (PS (k + 1)))))) H := hP
  have hD : va_D A (VW dA h ad (VS.s_gsize (VS.s_gV (VS.s_gT (VS.s_gO (VS.s_gN (VS.s_gA x ga2) (capR (capR x.gN 0 (cnt (PS k).n (x.sePc (PS k)))) (cnt (PS k).n (x.sePc (PS k))) (cnt (PS (k + 1)).n (x.sePc (PS (k + 1)))))) go2) gt2) gv2) (cnt (PS k).n (x.sePc (PS k)) + cnt (PS (k + 1)).n (x.sePc (PS (k + 1)))))) := hD
  replace hp9 : nI (x.fr PS) = r18 := Eq.symm hp9
  subst hp9
  refine lv_icmp_le hx hb d_V_compact_95 (tgt := 106) rfl (fun g20 => ?_) (fun g20 => ?_)
  rotate_left
  · have g20 := mt (nI_leI (a := 0) (b := x.fr PS) (by omega) (by omega)).mpr g20; exfalso; omega
  have g20 := (nI_leI (a := 0) (b := x.fr PS) (by omega) (by omega)).mp g20
  refine lv_aload_n hx hb d_V_compact_106 rfl (lv_at hl 1 rfl) ?_
  refine gF (v := .int (nI x.writes)) hx hb hown hE hK hP 0 rfl rfl layV 7 (by decide) w209 rfl d_V_compact_107 ?_
  refine lv_istore_n hx hb d_V_compact_110 rfl hl (by decide) rfl (fun ls hl => ?_)
  have hl : lv_has ls 4 [(3, .int (nI x.writes)), (2, .null), (0, .ref h), (1, .int (nI k))] := hl
  refine lv_aload_n hx hb d_V_compact_111 rfl (lv_at hl 2 rfl) ?_
  refine xfV (w1 := VW dA h ad (VS.s_gsize (VS.s_gV (VS.s_gT (VS.s_gO (VS.s_gN (VS.s_gA (VS.s_cutLeft (VS.s_powered x false) (-1)) ga2) (capR (capR x.gN 0 (cnt (PS k).n (x.sePc (PS k)))) (cnt (PS k).n (x.sePc (PS k))) (cnt (PS (k + 1)).n (x.sePc (PS (k + 1)))))) go2) gt2) gv2) (cnt (PS k).n (x.sePc (PS k)) + cnt (PS (k + 1)).n (x.sePc (PS (k + 1)))))) (As := []) (rest := []) hx hb hml hown hE hK (hN _ _ hS) (v_writeJournalBlock_x l htr D dA H.size h ad (VS.s_gsize (VS.s_gV (VS.s_gT (VS.s_gO (VS.s_gN (VS.s_gA x ga2) (capR (capR x.gN 0 (cnt (PS k).n (x.sePc (PS k)))) (cnt (PS k).n (x.sePc (PS k))) (cnt (PS (k + 1)).n (x.sePc (PS (k + 1)))))) go2) gt2) gv2) (cnt (PS k).n (x.sePc (PS k)) + cnt (PS (k + 1)).n (x.sePc (PS (k + 1))))) hc2 hc) (q0 := 0) rfl rfl w315 w314 w316 w317 w277 rfl rfl ⟨⟨by decide, by decide⟩, rfl⟩ ⟨(Nat.le_of_ble_eq_true rfl), (Nat.le_of_ble_eq_true rfl)⟩ rfl hl.1 rfl (Nat.le_of_ble_eq_true rfl) d_V_compact_112 ⟨(show 0 + 0 + 0 + (3 * (capR x.gN 0 (cnt (PS k).n (x.sePc (PS k))) - x.gN)) + (3 * (capR (capR x.gN 0 (cnt (PS k).n (x.sePc (PS k)))) (cnt (PS k).n (x.sePc (PS k))) (cnt (PS (k + 1)).n (x.sePc (PS (k + 1)))) - (capR x.gN 0 (cnt (PS k).n (x.sePc (PS k)))))) + 0 + 0 + 0 + 1 ≤ 3 * (capR (capR x.gN 0 (cnt (PS k).n (x.sePc (PS k)))) (cnt (PS k).n (x.sePc (PS k))) (cnt (PS (k + 1)).n (x.sePc (PS (k + 1)))) - x.gN) + 1 by omega), (show 0 + 0 + 0 + (6 * (capR x.gN 0 (cnt (PS k).n (x.sePc (PS k))) - x.gN)) + (6 * (capR (capR x.gN 0 (cnt (PS k).n (x.sePc (PS k)))) (cnt (PS k).n (x.sePc (PS k))) (cnt (PS (k + 1)).n (x.sePc (PS (k + 1)))) - (capR x.gN 0 (cnt (PS k).n (x.sePc (PS k)))))) + 0 + 0 + 0 + 6 ≤ 6 * (capR (capR x.gN 0 (cnt (PS k).n (x.sePc (PS k)))) (cnt (PS k).n (x.sePc (PS k))) (cnt (PS (k + 1)).n (x.sePc (PS (k + 1)))) - x.gN) + 6 by omega)⟩ hP hD hS hA (fun xa21 ce H locs hP hD hS hce hcv hcl => ?_)
  have hP : va_P D vwCl (VW dA h ad (VS.s_gsize (VS.s_gV (VS.s_gT (VS.s_gO (VS.s_gN (VS.s_gA (VS.s_cutLeft (VS.s_powered x false) (-1)) ga2) (capR (capR x.gN 0 (cnt (PS k).n (x.sePc (PS k)))) (cnt (PS k).n (x.sePc (PS k))) (cnt (PS (k + 1)).n (x.sePc (PS (k + 1)))))) go2) gt2) gv2) (cnt (PS k).n (x.sePc (PS k)) + cnt (PS (k + 1)).n (x.sePc (PS (k + 1)))))) H := hP
  have hD : va_D A (VW dA h ad (VS.s_gsize (VS.s_gV (VS.s_gT (VS.s_gO (VS.s_gN (VS.s_gA (VS.s_cutLeft (VS.s_powered x false) (-1)) ga2) (capR (capR x.gN 0 (cnt (PS k).n (x.sePc (PS k)))) (cnt (PS k).n (x.sePc (PS k))) (cnt (PS (k + 1)).n (x.sePc (PS (k + 1)))))) go2) gt2) gv2) (cnt (PS k).n (x.sePc (PS k)) + cnt (PS (k + 1)).n (x.sePc (PS (k + 1)))))) := hD
  exact xOut hno hlk hce hcv hcl (fun t ht => xkE (VS.s_gsize (VS.s_gV (VS.s_gT (VS.s_gO (VS.s_gN (VS.s_gA (VS.s_cutLeft (VS.s_powered x false) (-1)) ga2) (capR (capR x.gN 0 (cnt (PS k).n (x.sePc (PS k)))) (cnt (PS k).n (x.sePc (PS k))) (cnt (PS (k + 1)).n (x.sePc (PS (k + 1)))))) go2) gt2) gv2) (cnt (PS k).n (x.sePc (PS k)) + cnt (PS (k + 1)).n (x.sePc (PS (k + 1))))) ⟨ga2, go2, gt2, gv2, rfl⟩ hP hD hS t (by rw [ht]; exact Nat.le_refl _) (fun q _ => by rw [ht])) hS.2.2 (show 0 + 0 + 0 + (3 * (capR x.gN 0 (cnt (PS k).n (x.sePc (PS k))) - x.gN)) + (3 * (capR (capR x.gN 0 (cnt (PS k).n (x.sePc (PS k)))) (cnt (PS k).n (x.sePc (PS k))) (cnt (PS (k + 1)).n (x.sePc (PS (k + 1)))) - (capR x.gN 0 (cnt (PS k).n (x.sePc (PS k)))))) + 0 + 0 + 0 + 1 ≤ 3 * (capR (capR x.gN 0 (cnt (PS k).n (x.sePc (PS k)))) (cnt (PS k).n (x.sePc (PS k))) (cnt (PS (k + 1)).n (x.sePc (PS (k + 1)))) - x.gN) + 1 by omega) (show 0 + 0 + 0 + (6 * (capR x.gN 0 (cnt (PS k).n (x.sePc (PS k))) - x.gN)) + (6 * (capR (capR x.gN 0 (cnt (PS k).n (x.sePc (PS k)))) (cnt (PS k).n (x.sePc (PS k))) (cnt (PS (k + 1)).n (x.sePc (PS (k + 1)))) - (capR x.gN 0 (cnt (PS k).n (x.sePc (PS k)))))) + 0 + 0 + 0 + 6 ≤ 6 * (capR (capR x.gN 0 (cnt (PS k).n (x.sePc (PS k)))) (cnt (PS k).n (x.sePc (PS k))) (cnt (PS (k + 1)).n (x.sePc (PS (k + 1)))) - x.gN) + 6 by omega)
set_option maxHeartbeats 4000000 in
set_option maxRecDepth 100000 in
theorem v_compact_j0 (l : Launch) (htr : l.stackTraces = false) (D : va_G) (dA : Nat → ClassId) (sz : Nat) (h : Nat) (ad : Nat → Nat) (x : VS) (PS : Nat → PT) (k : Nat) (k0 : Nat) (ho : x.powered = true) (hk : k + 2 ≤ x.npc) (hps : psOk dA x.nP x.npc x.pl PS) (hpn : x.npc ≤ 32) (h1 : x.nsc ≤ 64) (h7 : ∀ q : Nat, q < x.nsc → x.nsO q < 2 ^ 31) (hfr : x.jlimit + 2 + (x.ncat + sumN x.npc (blN PS)) ≤ x.diskBlocks) (hn : x.nser ≤ 256) (hdk : x.diskBlocks ≤ 256) (hg0 : 0 < x.gN) (hg1 : capR (capR x.gN 0 (cnt (PS k).n (x.sePc (PS k)))) (cnt (PS k).n (x.sePc (PS k))) (cnt (PS (k + 1)).n (x.sePc (PS (k + 1)))) ≤ 32768) (hwb : x.writes + 1000 < 2 ^ 31) (hz : (cnt (PS k).n (x.sePc (PS k)) + cnt (PS (k + 1)).n (x.sePc (PS (k + 1)))) = 0) (hw : x.jch = false ∨ ¬ x.cutLeft = 0) (hk0 : k0 < 0 + 1) (hcz : ∀ j : Nat, j < k0 → ¬ cutN x.wjC j = 0) (hc : cutN x.wjC k0 = 0) : mX l ⟨"SeriesVault", "compact", "(I)I"⟩ [Cond.code ⟨"SeriesVault", "compact", "(I)I"⟩ prog_1_method_40_code 4 (some FieldType.int)] { frames := 8, cells := 3 * (capR (capR x.gN 0 (cnt (PS k).n (x.sePc (PS k)))) (cnt (PS k).n (x.sePc (PS k))) (cnt (PS (k + 1)).n (x.sePc (PS (k + 1)))) - x.gN) + 1, slots := 6 * (capR (capR x.gN 0 (cnt (PS k).n (x.sePc (PS k)))) (cnt (PS k).n (x.sePc (PS k))) (cnt (PS (k + 1)).n (x.sePc (PS (k + 1)))) - x.gN) + 6, locals := 123 } (pC D dA [.ref h, .int (nI k)] (VW dA h ad x) sz) "java/lang/IllegalStateException" (fun st9 t9 => va_F (va_A (VW dA h ad x) sz) st9 t9 ∧ ∃ u9 : VS, ((∃ (ga2 go2 : Nat → Nat) (gt2 gv2 : Nat → Int64), u9 = x.cpJ PS k ga2 go2 gt2 gv2 x.pl k0)) ∧ bW D (va_A (VW dA h ad x) sz) (VW dA h ad u9) t9) (3 * (capR (capR x.gN 0 (cnt (PS k).n (x.sePc (PS k)))) (cnt (PS k).n (x.sePc (PS k))) (cnt (PS (k + 1)).n (x.sePc (PS (k + 1)))) - x.gN) + 1) (6 * (capR (capR x.gN 0 (cnt (PS k).n (x.sePc (PS k)))) (cnt (PS k).n (x.sePc (PS k))) (cnt (PS (k + 1)).n (x.sePc (PS (k + 1)))) - x.gN) + 6) (va_A (VW dA h ad x) sz) := by
  refine mkX (y := ⟨"SeriesVault", "compact", "(I)I"⟩) (cc := prog_1_method_40_code) (maxL := 4) (av := [.ref h, .int (nI k)]) (ws := VW dA h ad x) (sz := sz) (B := fun A => (fun st9 t9 => va_F A st9 t9 ∧ ∃ u9 : VS, ((∃ (ga2 go2 : Nat → Nat) (gt2 gv2 : Nat → Int64), u9 = x.cpJ PS k ga2 go2 gt2 gv2 x.pl k0)) ∧ bW D A (VW dA h ad u9) t9)) (by decide) (Nat.le_of_ble_eq_true rfl) ?_
  intro A p e s m below meth c ls hsz hno hB
  obtain ⟨hx, hb, hr, hml, hown, hin, hlk, hE, hK, hP, hD, hS, hA, hN, hl⟩ := hB
  have hown : s.vm.findClass "SeriesVault" = some m.cls := hown
  have hl : lv_has ls 4 [(0, .ref h), (1, .int (nI k))] := hl
  obtain ⟨H, hH⟩ : ∃ z, z = s.heap := ⟨_, rfl⟩
  have hP : va_P D vwCl (VW dA h ad x) H := by rw [hH]; exact hP
  have hS : va_S A s.heap H [] := by rw [hH]; exact hS
  rw [← hH]
  refine lv_aload_n hx hb d_V_compact_0 rfl (lv_at hl 0 rfl) ?_
  refine jkV (wr := []) (rnV (As := []) (rest := []) hx hb hml hown hE hK (hN _ _ hS) hP hD (v_checkPower l D dA H.size h ad x ho) (q0 := 0) rfl rfl w278 w276 w279 w280 w277 rfl rfl ⟨⟨by decide, by decide⟩, rfl⟩ ⟨(Nat.le_of_ble_eq_true rfl), (Nat.le_of_ble_eq_true rfl)⟩ rfl hl.1 rfl (Nat.le_of_ble_eq_true rfl) d_V_compact_1 ⟨(show 0 + 0 ≤ 3 * (capR (capR x.gN 0 (cnt (PS k).n (x.sePc (PS k)))) (cnt (PS k).n (x.sePc (PS k))) (cnt (PS (k + 1)).n (x.sePc (PS (k + 1)))) - x.gN) + 1 by omega), (show 0 + 0 ≤ 6 * (capR (capR x.gN 0 (cnt (PS k).n (x.sePc (PS k)))) (cnt (PS k).n (x.sePc (PS k))) (cnt (PS (k + 1)).n (x.sePc (PS (k + 1)))) - x.gN) + 6 by omega)⟩) hP hD hS hA (fun u2 H locs hp9 hP hD hS => ?_)
  have hP : va_P D vwCl (VW dA h ad x) H := hP
  have hD : va_D A (VW dA h ad x) := hD
  refine lv_iload_n hx hb d_V_compact_4 rfl (lv_at hl 1 rfl) ?_
  refine lv_if_lt hx hb d_V_compact_5 (tgt := 21) rfl (fun h9 => absurd h9 (nI_pos (n := k) (by omega))) (fun _ => ?_)
  refine lv_iload_n hx hb d_V_compact_8 rfl (lv_at hl 1 rfl) ?_
  refine lv_aload_n hx hb d_V_compact_9 rfl (lv_at hl 0 rfl) ?_
  refine gF (v := .ref (ad 3)) hx hb hown hE hK hP 0 rfl rfl layV 11 (by decide) w297 rfl d_V_compact_10 ?_
  refine gFN (v := .int (nI x.npc)) hx hb hown hE hK hP 17 rfl rfl layH 1 (by decide) w303 rfl d_V_compact_13 ?_
  refine lv_iconst (v := 1) hx hb d_V_compact_16 (by decide) ?_
  refine lv_isub hx hb d_V_compact_17 (tpi (y := nI (x.npc - 1)) (pk_sub (a := x.npc) (b := 1) (by omega)) ?_)
  refine lv_icmp_lt hx hb d_V_compact_18 (tgt := 29) rfl (fun g3 => ?_) (fun g3 => ?_)
  rotate_left
  · have g3 := mt (nI_ltI (a := k) (b := x.npc - 1) (by omega) (by omega)).mpr g3; exfalso; omega
  have g3 := (nI_ltI (a := k) (b := x.npc - 1) (by omega) (by omega)).mp g3
  obtain ⟨pp, ke, hpp, hpk⟩ := hps k (by omega)
  obtain ⟨qq, ke2, hqq, hqk⟩ := hps (k + 1) (by omega)
  have cl1 := cnt_le (PS k).n (x.sePc (PS k))
  have cl2 := cnt_le (PS (k + 1)).n (x.sePc (PS (k + 1)))
  have pk0 := hpk.1
  have qk0 := hqk.1
  have cm1 := capR_m (capR x.gN 0 (cnt (PS k).n (x.sePc (PS k)))) (cnt (PS k).n (x.sePc (PS k))) (Nat.zero_le (cnt (PS (k + 1)).n (x.sePc (PS (k + 1)))))
  have cm2 : capR (capR x.gN 0 (cnt (PS k).n (x.sePc (PS k)))) (cnt (PS k).n (x.sePc (PS k))) 0 = capR x.gN 0 (cnt (PS k).n (x.sePc (PS k))) := rfl
  have cm3 := capR_m x.gN 0 (Nat.zero_le (cnt (PS k).n (x.sePc (PS k))))
  have cm4 : capR x.gN 0 0 = x.gN := rfl
  have hfe : x.fr PS = x.diskBlocks - 2 - x.jlimit - (x.ncat + sumN x.npc (blN PS)) := rfl
  refine lv_aload_n hx hb d_V_compact_29 rfl (lv_at hl 0 rfl) ?_
  refine gF (v := .ref (ad 2)) hx hb hown hE hK hP 0 rfl rfl layV 10 (by decide) w826 rfl d_V_compact_30 ?_
  refine jkV (wr := []) (rnV (As := []) (rest := []) hx hb hml hown hE hK (hN _ _ hS) hP hD (v_pclear_g l D dA H.size h ad x) (q0 := 13) rfl rfl w579 w577 w580 w581 w578 rfl rfl ⟨⟨by decide, by decide⟩, rfl⟩ ⟨(Nat.le_of_ble_eq_true rfl), (Nat.le_of_ble_eq_true rfl)⟩ rfl hl.1 rfl (Nat.le_of_ble_eq_true rfl) d_V_compact_33 ⟨(show 0 + 0 + 0 ≤ 3 * (capR (capR x.gN 0 (cnt (PS k).n (x.sePc (PS k)))) (cnt (PS k).n (x.sePc (PS k))) (cnt (PS (k + 1)).n (x.sePc (PS (k + 1)))) - x.gN) + 1 by omega), (show 0 + 0 + 0 ≤ 6 * (capR (capR x.gN 0 (cnt (PS k).n (x.sePc (PS k)))) (cnt (PS k).n (x.sePc (PS k))) (cnt (PS (k + 1)).n (x.sePc (PS (k + 1)))) - x.gN) + 6 by omega)⟩) hP hD hS hA (fun u5 H locs hp9 hP hD hS => ?_)
  have hP : va_P D vwCl (VW dA h ad (VS.s_gsize x 0)) H := hP
  have hD : va_D A (VW dA h ad (VS.s_gsize x 0)) := hD
  refine lv_aload_n hx hb d_V_compact_36 rfl (lv_at hl 0 rfl) ?_
  refine gF (v := .ref (ad 3)) hx hb hown hE hK hP 0 rfl rfl layV 11 (by decide) w297 rfl d_V_compact_37 ?_
  refine lv_aload_n hx hb d_V_compact_40 rfl (lv_at hl 0 rfl) ?_
  refine gF (v := .ref (ad 3)) hx hb hown hE hK hP 0 rfl rfl layV 11 (by decide) w297 rfl d_V_compact_41 ?_
  refine gFN (v := .ref (ad 4)) hx hb hown hE hK hP 17 rfl rfl layH 0 (by decide) w1347 rfl d_V_compact_44 ?_
  refine lv_iload_n hx hb d_V_compact_47 rfl (lv_at hl 1 rfl) ?_
  refine nqld (f := x.nP) (n := 32) hx hb hK hP (18) 4 rfl rfl (k) (by omega) (by decide) ke d_V_compact_48 ?_
  refine lv_aload_n hx hb d_V_compact_49 rfl (lv_at hl 0 rfl) ?_
  refine gF (v := .ref (ad 2)) hx hb hown hE hK hP 0 rfl rfl layV 10 (by decide) w826 rfl d_V_compact_50 ?_
  refine jkV (wr := []) (rnV (As := [.ref pp, .ref (ad 2)]) (rest := []) hx hb hml hown hE hK (hN _ _ hS) hP hD (v_gatherSeen l D dA H.size h ad (VS.s_gsize x 0) pp (PS k) hpp hpk (show x.nsc ≤ 64 from by omega) h7 (Nat.zero_le _) (show 0 < x.gN from by omega) (show capR x.gN 0 (cnt (PS k).n (x.sePc (PS k))) ≤ 32768 from by omega)) (q0 := 17) rfl rfl w1751 w1750 w1752 w1753 w583 rfl rfl ⟨⟨by decide, by decide⟩, rfl⟩ ⟨(Nat.le_of_ble_eq_true rfl), (Nat.le_of_ble_eq_true rfl)⟩ rfl hl.1 rfl (Nat.le_of_ble_eq_true rfl) d_V_compact_53 ⟨(show 0 + 0 + 0 + (3 * (capR x.gN 0 (cnt (PS k).n (x.sePc (PS k))) - x.gN)) ≤ 3 * (capR (capR x.gN 0 (cnt (PS k).n (x.sePc (PS k)))) (cnt (PS k).n (x.sePc (PS k))) (cnt (PS (k + 1)).n (x.sePc (PS (k + 1)))) - x.gN) + 1 by omega), (show 0 + 0 + 0 + (6 * (capR x.gN 0 (cnt (PS k).n (x.sePc (PS k))) - x.gN)) ≤ 6 * (capR (capR x.gN 0 (cnt (PS k).n (x.sePc (PS k)))) (cnt (PS k).n (x.sePc (PS k))) (cnt (PS (k + 1)).n (x.sePc (PS (k + 1)))) - x.gN) + 6 by omega)⟩) hP hD hS hA (fun u7 H locs hp9 hP hD hS => ?_)
  obtain ⟨y8, h9u⟩ : ∃ z9, z9 = u7 := ⟨_, rfl⟩
  subst h9u
  have hP : va_P D vwCl (VW dA h ad y8) H := hP
  have hD : va_D A (VW dA h ad y8) := hD
  have f_g_9 := hp9
  obtain ⟨ga, gn, go, gt, gv, gz, ey, z1, z2, z3, z4, z5⟩ := gaR_u f_g_9
  subst ey
  have hP : va_P D vwCl (VW dA h ad (VS.s_gsize (VS.s_gV (VS.s_gT (VS.s_gO (VS.s_gN (VS.s_gA x ga) gn) go) gt) gv) gz)) H := hP
  have hD : va_D A (VW dA h ad (VS.s_gsize (VS.s_gV (VS.s_gT (VS.s_gO (VS.s_gN (VS.s_gA x ga) gn) go) gt) gv) gz)) := hD
  have z1 : gz = cnt (PS k).n (x.sePc (PS k)) := z1.trans (Nat.zero_add _)
  have z3 : gn = capR x.gN 0 (cnt (PS k).n (x.sePc (PS k))) := z3
  have z5a : ∀ j, j < (PS k).n → x.sePc (PS k) j = true → go (0 + cnt j (x.sePc (PS k))) = (PS k).o j ∧ gt (0 + cnt j (x.sePc (PS k))) = (PS k).t j ∧ gv (0 + cnt j (x.sePc (PS k))) = (PS k).v j := z5
  have z2a := z2
  subst z1
  subst z3
  have hP : va_P D vwCl (VW dA h ad (VS.s_gsize (VS.s_gV (VS.s_gT (VS.s_gO (VS.s_gN (VS.s_gA x ga) (capR x.gN 0 (cnt (PS k).n (x.sePc (PS k))))) go) gt) gv) (cnt (PS k).n (x.sePc (PS k))))) H := hP
  have hD : va_D A (VW dA h ad (VS.s_gsize (VS.s_gV (VS.s_gT (VS.s_gO (VS.s_gN (VS.s_gA x ga) (capR x.gN 0 (cnt (PS k).n (x.sePc (PS k))))) go) gt) gv) (cnt (PS k).n (x.sePc (PS k))))) := hD
  refine lv_aload_n hx hb d_V_compact_56 rfl (lv_at hl 0 rfl) ?_
  refine gF (v := .ref (ad 3)) hx hb hown hE hK hP 0 rfl rfl layV 11 (by decide) w297 rfl d_V_compact_57 ?_
  refine lv_aload_n hx hb d_V_compact_60 rfl (lv_at hl 0 rfl) ?_
  refine gF (v := .ref (ad 3)) hx hb hown hE hK hP 0 rfl rfl layV 11 (by decide) w297 rfl d_V_compact_61 ?_
  refine gFN (v := .ref (ad 4)) hx hb hown hE hK hP 17 rfl rfl layH 0 (by decide) w1347 rfl d_V_compact_64 ?_
  refine lv_iload_n hx hb d_V_compact_67 rfl (lv_at hl 1 rfl) ?_
  refine lv_iconst (v := 1) hx hb d_V_compact_68 (by decide) ?_
  refine lv_iadd hx hb d_V_compact_69 (tpi (y := nI (k + 1)) (nI_add (k) (1)) ?_)
  refine nqld (f := x.nP) (n := 32) hx hb hK hP (18) 4 rfl rfl (k + 1) (by omega) (by decide) ke2 d_V_compact_70 ?_
  refine lv_aload_n hx hb d_V_compact_71 rfl (lv_at hl 0 rfl) ?_
  refine gF (v := .ref (ad 2)) hx hb hown hE hK hP 0 rfl rfl layV 10 (by decide) w826 rfl d_V_compact_72 ?_
  refine jkV (wr := []) (rnV (As := [.ref qq, .ref (ad 2)]) (rest := []) hx hb hml hown hE hK (hN _ _ hS) hP hD (v_gatherSeen l D dA H.size h ad (VS.s_gsize (VS.s_gV (VS.s_gT (VS.s_gO (VS.s_gN (VS.s_gA x ga) (capR x.gN 0 (cnt (PS k).n (x.sePc (PS k))))) go) gt) gv) (cnt (PS k).n (x.sePc (PS k)))) qq (PS (k + 1)) hqq hqk (show x.nsc ≤ 64 from by omega) h7 z2a (show 0 < (capR x.gN 0 (cnt (PS k).n (x.sePc (PS k)))) from by omega) hg1) (q0 := 17) rfl rfl w1751 w1750 w1752 w1753 w583 rfl rfl ⟨⟨by decide, by decide⟩, rfl⟩ ⟨(Nat.le_of_ble_eq_true rfl), (Nat.le_of_ble_eq_true rfl)⟩ rfl hl.1 rfl (Nat.le_of_ble_eq_true rfl) d_V_compact_75 ⟨(show 0 + 0 + 0 + (3 * (capR x.gN 0 (cnt (PS k).n (x.sePc (PS k))) - x.gN)) + (3 * (capR (capR x.gN 0 (cnt (PS k).n (x.sePc (PS k)))) (cnt (PS k).n (x.sePc (PS k))) (cnt (PS (k + 1)).n (x.sePc (PS (k + 1)))) - (capR x.gN 0 (cnt (PS k).n (x.sePc (PS k)))))) ≤ 3 * (capR (capR x.gN 0 (cnt (PS k).n (x.sePc (PS k)))) (cnt (PS k).n (x.sePc (PS k))) (cnt (PS (k + 1)).n (x.sePc (PS (k + 1)))) - x.gN) + 1 by omega), (show 0 + 0 + 0 + (6 * (capR x.gN 0 (cnt (PS k).n (x.sePc (PS k))) - x.gN)) + (6 * (capR (capR x.gN 0 (cnt (PS k).n (x.sePc (PS k)))) (cnt (PS k).n (x.sePc (PS k))) (cnt (PS (k + 1)).n (x.sePc (PS (k + 1)))) - (capR x.gN 0 (cnt (PS k).n (x.sePc (PS k)))))) ≤ 6 * (capR (capR x.gN 0 (cnt (PS k).n (x.sePc (PS k)))) (cnt (PS k).n (x.sePc (PS k))) (cnt (PS (k + 1)).n (x.sePc (PS (k + 1)))) - x.gN) + 6 by omega)⟩) hP hD hS hA (fun u11 H locs hp9 hP hD hS => ?_)
  obtain ⟨y12, h9u⟩ : ∃ z9, z9 = u11 := ⟨_, rfl⟩
  subst h9u
  have hP : va_P D vwCl (VW dA h ad y12) H := hP
  have hD : va_D A (VW dA h ad y12) := hD
  have f_g_13 := hp9
  obtain ⟨ga2, gn2, go2, gt2, gv2, gz2, ey, z1, z2, z3, z4, z5⟩ := gaR_u f_g_13
  subst ey
  have hP : va_P D vwCl (VW dA h ad (VS.s_gsize (VS.s_gV (VS.s_gT (VS.s_gO (VS.s_gN (VS.s_gA x ga2) gn2) go2) gt2) gv2) gz2)) H := hP
  have hD : va_D A (VW dA h ad (VS.s_gsize (VS.s_gV (VS.s_gT (VS.s_gO (VS.s_gN (VS.s_gA x ga2) gn2) go2) gt2) gv2) gz2)) := hD
  have z1 : gz2 = (cnt (PS k).n (x.sePc (PS k)) + cnt (PS (k + 1)).n (x.sePc (PS (k + 1)))) := z1
  have z3 : gn2 = capR (capR x.gN 0 (cnt (PS k).n (x.sePc (PS k)))) (cnt (PS k).n (x.sePc (PS k))) (cnt (PS (k + 1)).n (x.sePc (PS (k + 1)))) := z3
  have z2b : gz2 ≤ gn2 := z2
  have hgt : gat2 (x.sePc (PS k)) (x.sePc (PS (k + 1))) (PS k) (PS (k + 1)) go2 gt2 gv2 := gat2_m z5a z4 z5
  subst z1
  subst z3
  have hP : va_P D vwCl (VW dA h ad (VS.s_gsize (VS.s_gV (VS.s_gT (VS.s_gO (VS.s_gN (VS.s_gA x ga2) (capR (capR x.gN 0 (cnt (PS k).n (x.sePc (PS k)))) (cnt (PS k).n (x.sePc (PS k))) (cnt (PS (k + 1)).n (x.sePc (PS (k + 1)))))) go2) gt2) gv2) (cnt (PS k).n (x.sePc (PS k)) + cnt (PS (k + 1)).n (x.sePc (PS (k + 1)))))) H := hP
  have hD : va_D A (VW dA h ad (VS.s_gsize (VS.s_gV (VS.s_gT (VS.s_gO (VS.s_gN (VS.s_gA x ga2) (capR (capR x.gN 0 (cnt (PS k).n (x.sePc (PS k)))) (cnt (PS k).n (x.sePc (PS k))) (cnt (PS (k + 1)).n (x.sePc (PS (k + 1)))))) go2) gt2) gv2) (cnt (PS k).n (x.sePc (PS k)) + cnt (PS (k + 1)).n (x.sePc (PS (k + 1)))))) := hD
  refine lv_aload_n hx hb d_V_compact_78 rfl (lv_at hl 0 rfl) ?_
  refine lv_aload_n hx hb d_V_compact_79 rfl (lv_at hl 0 rfl) ?_
  refine gF (v := .ref (ad 2)) hx hb hown hE hK hP 0 rfl rfl layV 10 (by decide) w826 rfl d_V_compact_80 ?_
  refine jkN (wr := []) (rnV (As := [.ref (ad 2)]) (rest := []) hx hb hml hown hE hK (hN _ _ hS) hP hD (v_packed_0g l D dA H.size h ad (VS.s_gsize (VS.s_gV (VS.s_gT (VS.s_gO (VS.s_gN (VS.s_gA x ga2) (capR (capR x.gN 0 (cnt (PS k).n (x.sePc (PS k)))) (cnt (PS k).n (x.sePc (PS k))) (cnt (PS (k + 1)).n (x.sePc (PS (k + 1)))))) go2) gt2) gv2) (cnt (PS k).n (x.sePc (PS k)) + cnt (PS (k + 1)).n (x.sePc (PS (k + 1))))) hz) (q0 := 0) rfl rfl w1383 w1382 w1384 w1385 w277 rfl rfl ⟨⟨by decide, by decide⟩, rfl⟩ ⟨(Nat.le_of_ble_eq_true rfl), (Nat.le_of_ble_eq_true rfl)⟩ rfl hl.1 rfl (Nat.le_of_ble_eq_true rfl) d_V_compact_83 ⟨(show 0 + 0 + 0 + (3 * (capR x.gN 0 (cnt (PS k).n (x.sePc (PS k))) - x.gN)) + (3 * (capR (capR x.gN 0 (cnt (PS k).n (x.sePc (PS k)))) (cnt (PS k).n (x.sePc (PS k))) (cnt (PS (k + 1)).n (x.sePc (PS (k + 1)))) - (capR x.gN 0 (cnt (PS k).n (x.sePc (PS k)))))) + 0 ≤ 3 * (capR (capR x.gN 0 (cnt (PS k).n (x.sePc (PS k)))) (cnt (PS k).n (x.sePc (PS k))) (cnt (PS (k + 1)).n (x.sePc (PS (k + 1)))) - x.gN) + 1 by omega), (show 0 + 0 + 0 + (6 * (capR x.gN 0 (cnt (PS k).n (x.sePc (PS k))) - x.gN)) + (6 * (capR (capR x.gN 0 (cnt (PS k).n (x.sePc (PS k)))) (cnt (PS k).n (x.sePc (PS k))) (cnt (PS (k + 1)).n (x.sePc (PS (k + 1)))) - (capR x.gN 0 (cnt (PS k).n (x.sePc (PS k)))))) + 0 ≤ 6 * (capR (capR x.gN 0 (cnt (PS k).n (x.sePc (PS k)))) (cnt (PS k).n (x.sePc (PS k))) (cnt (PS (k + 1)).n (x.sePc (PS (k + 1)))) - x.gN) + 6 by omega)⟩) hP hD hS hA (fun u15 H locs hp9 hP hD hS => ?_)
  have hP : va_P D vwCl (VW dA h ad (VS.s_gsize (VS.s_gV (VS.s_gT (VS.s_gO (VS.s_gN (VS.s_gA x ga2) (capR (capR x.gN 0 (cnt (PS k).n (x.sePc (PS k)))) (cnt (PS k).n (x.sePc (PS k))) (cnt (PS (k + 1)).n (x.sePc (PS (k + 1)))))) go2) gt2) gv2) (cnt (PS k).n (x.sePc (PS k)) + cnt (PS (k + 1)).n (x.sePc (PS (k + 1)))))) H := hP
  have hD : va_D A (VW dA h ad (VS.s_gsize (VS.s_gV (VS.s_gT (VS.s_gO (VS.s_gN (VS.s_gA x ga2) (capR (capR x.gN 0 (cnt (PS k).n (x.sePc (PS k)))) (cnt (PS k).n (x.sePc (PS k))) (cnt (PS (k + 1)).n (x.sePc (PS (k + 1)))))) go2) gt2) gv2) (cnt (PS k).n (x.sePc (PS k)) + cnt (PS (k + 1)).n (x.sePc (PS (k + 1)))))) := hD
  refine lv_astore_nN hx hb d_V_compact_86 rfl hl (by decide) rfl (fun ls hl => ?_)
  have hl : lv_has ls 4 [(2, .null), (0, .ref h), (1, .int (nI k))] := hl
  refine lv_aload_nN hx hb d_V_compact_87 rfl (lv_at hl 0 rfl) ?_
  have hPc := hP.sub (ws' := []) [] rfl
  have hDc := hD.sub (ws' := []) [] (by decide) rfl
  refine jpI (rnS (As := [.null]) (rest := []) hx hb hml hown hE hK (hN _ _ hS) hPc hDc (v_blocksOf_0 l D dA H.size ) w1391 w1390 w1392 w277 rfl rfl ⟨⟨by decide, by decide⟩, rfl⟩ ⟨(Nat.le_of_ble_eq_true rfl), (Nat.le_of_ble_eq_true rfl)⟩ rfl hl.1 rfl (Nat.le_of_ble_eq_true rfl) d_V_compact_88 ⟨(show 0 + 0 + 0 + (3 * (capR x.gN 0 (cnt (PS k).n (x.sePc (PS k))) - x.gN)) + (3 * (capR (capR x.gN 0 (cnt (PS k).n (x.sePc (PS k)))) (cnt (PS k).n (x.sePc (PS k))) (cnt (PS (k + 1)).n (x.sePc (PS (k + 1)))) - (capR x.gN 0 (cnt (PS k).n (x.sePc (PS k)))))) + 0 + 0 ≤ 3 * (capR (capR x.gN 0 (cnt (PS k).n (x.sePc (PS k)))) (cnt (PS k).n (x.sePc (PS k))) (cnt (PS (k + 1)).n (x.sePc (PS (k + 1)))) - x.gN) + 1 by omega), (show 0 + 0 + 0 + (6 * (capR x.gN 0 (cnt (PS k).n (x.sePc (PS k))) - x.gN)) + (6 * (capR (capR x.gN 0 (cnt (PS k).n (x.sePc (PS k)))) (cnt (PS k).n (x.sePc (PS k))) (cnt (PS (k + 1)).n (x.sePc (PS (k + 1)))) - (capR x.gN 0 (cnt (PS k).n (x.sePc (PS k)))))) + 0 + 0 ≤ 6 * (capR (capR x.gN 0 (cnt (PS k).n (x.sePc (PS k)))) (cnt (PS k).n (x.sePc (PS k))) (cnt (PS (k + 1)).n (x.sePc (PS (k + 1)))) - x.gN) + 6 by omega)⟩) hP hD hS hA (fun r16 u9 H locs hp9 hP hD hS => ?_)
  have hP : va_P D vwCl (VW dA h ad (VS.s_gsize (VS.s_gV (VS.s_gT (VS.s_gO (VS.s_gN (VS.s_gA x ga2) (capR (capR x.gN 0 (cnt (PS k).n (x.sePc (PS k)))) (cnt (PS k).n (x.sePc (PS k))) (cnt (PS (k + 1)).n (x.sePc (PS (k + 1)))))) go2) gt2) gv2) (cnt (PS k).n (x.sePc (PS k)) + cnt (PS (k + 1)).n (x.sePc (PS (k + 1)))))) H := hP
  have hD : va_D A (VW dA h ad (VS.s_gsize (VS.s_gV (VS.s_gT (VS.s_gO (VS.s_gN (VS.s_gA x ga2) (capR (capR x.gN 0 (cnt (PS k).n (x.sePc (PS k)))) (cnt (PS k).n (x.sePc (PS k))) (cnt (PS (k + 1)).n (x.sePc (PS (k + 1)))))) go2) gt2) gv2) (cnt (PS k).n (x.sePc (PS k)) + cnt (PS (k + 1)).n (x.sePc (PS (k + 1)))))) := hD
  replace hp9 : 0 = r16 := Eq.symm hp9
  subst hp9
  refine lv_aload_n hx hb d_V_compact_91 rfl (lv_at hl 1 rfl) ?_
  refine jkI (wr := []) (rnV (As := []) (rest := [.int 0]) hx hb hml hown hE hK (hN _ _ hS) hP hD (v_freeBlocks l D dA H.size h ad (VS.s_gsize (VS.s_gV (VS.s_gT (VS.s_gO (VS.s_gN (VS.s_gA x ga2) (capR (capR x.gN 0 (cnt (PS k).n (x.sePc (PS k)))) (cnt (PS k).n (x.sePc (PS k))) (cnt (PS (k + 1)).n (x.sePc (PS (k + 1)))))) go2) gt2) gv2) (cnt (PS k).n (x.sePc (PS k)) + cnt (PS (k + 1)).n (x.sePc (PS (k + 1))))) PS hps (show x.npc ≤ 32 from by omega) (show x.jlimit + 2 + (x.ncat + sumN x.npc (blN PS)) ≤ x.diskBlocks from by omega)) (q0 := 0) rfl rfl w644 w643 w645 w646 w277 rfl rfl ⟨⟨by decide, by decide⟩, rfl⟩ ⟨(Nat.le_of_ble_eq_true rfl), (Nat.le_of_ble_eq_true rfl)⟩ rfl hl.1 rfl (Nat.le_of_ble_eq_true rfl) d_V_compact_92 ⟨(show 0 + 0 + 0 + (3 * (capR x.gN 0 (cnt (PS k).n (x.sePc (PS k))) - x.gN)) + (3 * (capR (capR x.gN 0 (cnt (PS k).n (x.sePc (PS k)))) (cnt (PS k).n (x.sePc (PS k))) (cnt (PS (k + 1)).n (x.sePc (PS (k + 1)))) - (capR x.gN 0 (cnt (PS k).n (x.sePc (PS k)))))) + 0 + 0 + 0 ≤ 3 * (capR (capR x.gN 0 (cnt (PS k).n (x.sePc (PS k)))) (cnt (PS k).n (x.sePc (PS k))) (cnt (PS (k + 1)).n (x.sePc (PS (k + 1)))) - x.gN) + 1 by omega), (show 0 + 0 + 0 + (6 * (capR x.gN 0 (cnt (PS k).n (x.sePc (PS k))) - x.gN)) + (6 * (capR (capR x.gN 0 (cnt (PS k).n (x.sePc (PS k)))) (cnt (PS k).n (x.sePc (PS k))) (cnt (PS (k + 1)).n (x.sePc (PS (k + 1)))) - (capR x.gN 0 (cnt (PS k).n (x.sePc (PS k)))))) + 0 + 0 + 0 ≤ 6 * (capR (capR x.gN 0 (cnt (PS k).n (x.sePc (PS k)))) (cnt (PS k).n (x.sePc (PS k))) (cnt (PS (k + 1)).n (x.sePc (PS (k + 1)))) - x.gN) + 6 by omega)⟩) hP hD hS hA (fun r18 u19 H locs hp9 hP hD hS => ?_)
  have hP : va_P D vwCl (VW dA h ad (VS.s_gsize (VS.s_gV (VS.s_gT (VS.s_gO (VS.s_gN (VS.s_gA x ga2) (capR (capR x.gN 0 (cnt (PS k).n (x.sePc (PS k)))) (cnt (PS k).n (x.sePc (PS k))) (cnt (PS (k + 1)).n (x.sePc (PS (k + 1)))))) go2) gt2) gv2) (cnt (PS k).n (x.sePc (PS k)) + cnt (PS (k + 1)).n (x.sePc (PS (k + 1)))))) H := hP
  have hD : va_D A (VW dA h ad (VS.s_gsize (VS.s_gV (VS.s_gT (VS.s_gO (VS.s_gN (VS.s_gA x ga2) (capR (capR x.gN 0 (cnt (PS k).n (x.sePc (PS k)))) (cnt (PS k).n (x.sePc (PS k))) (cnt (PS (k + 1)).n (x.sePc (PS (k + 1)))))) go2) gt2) gv2) (cnt (PS k).n (x.sePc (PS k)) + cnt (PS (k + 1)).n (x.sePc (PS (k + 1)))))) := hD
  replace hp9 : nI (x.fr PS) = r18 := Eq.symm hp9
  subst hp9
  refine lv_icmp_le hx hb d_V_compact_95 (tgt := 106) rfl (fun g20 => ?_) (fun g20 => ?_)
  rotate_left
  · have g20 := mt (nI_leI (a := 0) (b := x.fr PS) (by omega) (by omega)).mpr g20; exfalso; omega
  have g20 := (nI_leI (a := 0) (b := x.fr PS) (by omega) (by omega)).mp g20
  refine lv_aload_n hx hb d_V_compact_106 rfl (lv_at hl 1 rfl) ?_
  refine gF (v := .int (nI x.writes)) hx hb hown hE hK hP 0 rfl rfl layV 7 (by decide) w209 rfl d_V_compact_107 ?_
  refine lv_istore_n hx hb d_V_compact_110 rfl hl (by decide) rfl (fun ls hl => ?_)
  have hl : lv_has ls 4 [(3, .int (nI x.writes)), (2, .null), (0, .ref h), (1, .int (nI k))] := hl
  refine lv_aload_n hx hb d_V_compact_111 rfl (lv_at hl 2 rfl) ?_
  refine jkI (wr := []) (rnV (As := []) (rest := []) hx hb hml hown hE hK (hN _ _ hS) hP hD (v_wjb l D dA H.size h ad (VS.s_gsize (VS.s_gV (VS.s_gT (VS.s_gO (VS.s_gN (VS.s_gA x ga2) (capR (capR x.gN 0 (cnt (PS k).n (x.sePc (PS k)))) (cnt (PS k).n (x.sePc (PS k))) (cnt (PS (k + 1)).n (x.sePc (PS (k + 1)))))) go2) gt2) gv2) (cnt (PS k).n (x.sePc (PS k)) + cnt (PS (k + 1)).n (x.sePc (PS (k + 1))))) hw) (q0 := 0) rfl rfl w315 w314 w316 w317 w277 rfl rfl ⟨⟨by decide, by decide⟩, rfl⟩ ⟨(Nat.le_of_ble_eq_true rfl), (Nat.le_of_ble_eq_true rfl)⟩ rfl hl.1 rfl (Nat.le_of_ble_eq_true rfl) d_V_compact_112 ⟨(show 0 + 0 + 0 + (3 * (capR x.gN 0 (cnt (PS k).n (x.sePc (PS k))) - x.gN)) + (3 * (capR (capR x.gN 0 (cnt (PS k).n (x.sePc (PS k)))) (cnt (PS k).n (x.sePc (PS k))) (cnt (PS (k + 1)).n (x.sePc (PS (k + 1)))) - (capR x.gN 0 (cnt (PS k).n (x.sePc (PS k)))))) + 0 + 0 + 0 + 0 ≤ 3 * (capR (capR x.gN 0 (cnt (PS k).n (x.sePc (PS k)))) (cnt (PS k).n (x.sePc (PS k))) (cnt (PS (k + 1)).n (x.sePc (PS (k + 1)))) - x.gN) + 1 by omega), (show 0 + 0 + 0 + (6 * (capR x.gN 0 (cnt (PS k).n (x.sePc (PS k))) - x.gN)) + (6 * (capR (capR x.gN 0 (cnt (PS k).n (x.sePc (PS k)))) (cnt (PS k).n (x.sePc (PS k))) (cnt (PS (k + 1)).n (x.sePc (PS (k + 1)))) - (capR x.gN 0 (cnt (PS k).n (x.sePc (PS k)))))) + 0 + 0 + 0 + 0 ≤ 6 * (capR (capR x.gN 0 (cnt (PS k).n (x.sePc (PS k)))) (cnt (PS k).n (x.sePc (PS k))) (cnt (PS (k + 1)).n (x.sePc (PS (k + 1)))) - x.gN) + 6 by omega)⟩) hP hD hS hA (fun r21 u22 H locs hp9 hP hD hS => ?_)
  obtain ⟨y23, h9u⟩ : ∃ z9, z9 = u22 := ⟨_, rfl⟩
  subst h9u
  have hP : va_P D vwCl (VW dA h ad y23) H := hP
  have hD : va_D A (VW dA h ad y23) := hD
  obtain ⟨hp9, f_e_24⟩ := hp9
  replace hp9 : bI x.jch = r21 := Eq.symm hp9
  subst hp9
  refine lv_pop hx hb d_V_compact_115 rfl ?_
  have hw9 := f_e_24
  rw [wjS_r] at hw9
  subst hw9
  have hP : va_P D vwCl (VW dA h ad (VS.s_gsize (VS.s_gV (VS.s_gT (VS.s_gO (VS.s_gN (VS.s_gA (VS.s_jch (VS.s_jkept (VS.s_writes (VS.s_cutLeft x x.wjC) x.wjW) x.wjK) false) ga2) (capR (capR x.gN 0 (cnt (PS k).n (x.sePc (PS k)))) (cnt (PS k).n (x.sePc (PS k))) (cnt (PS (k + 1)).n (x.sePc (PS (k + 1)))))) go2) gt2) gv2) (cnt (PS k).n (x.sePc (PS k)) + cnt (PS (k + 1)).n (x.sePc (PS (k + 1)))))) H := hP
  have hD : va_D A (VW dA h ad (VS.s_gsize (VS.s_gV (VS.s_gT (VS.s_gO (VS.s_gN (VS.s_gA (VS.s_jch (VS.s_jkept (VS.s_writes (VS.s_cutLeft x x.wjC) x.wjW) x.wjK) false) ga2) (capR (capR x.gN 0 (cnt (PS k).n (x.sePc (PS k)))) (cnt (PS k).n (x.sePc (PS k))) (cnt (PS (k + 1)).n (x.sePc (PS (k + 1)))))) go2) gt2) gv2) (cnt (PS k).n (x.sePc (PS k)) + cnt (PS (k + 1)).n (x.sePc (PS (k + 1)))))) := hD
  have ww := wjW_le x
  refine lv_aload_n hx hb d_V_compact_116 rfl (lv_at hl 2 rfl) ?_
  refine lv_aload_nN hx hb d_V_compact_117 rfl (lv_at hl 1 rfl) ?_
  have hPc := hP.sub (ws' := []) [] rfl
  have hDc := hD.sub (ws' := []) [] (by decide) rfl
  refine jpI (rnS (As := [.null]) (rest := [.ref h]) hx hb hml hown hE hK (hN _ _ hS) hPc hDc (v_blocksOf_0 l D dA H.size ) w1391 w1390 w1392 w277 rfl rfl ⟨⟨by decide, by decide⟩, rfl⟩ ⟨(Nat.le_of_ble_eq_true rfl), (Nat.le_of_ble_eq_true rfl)⟩ rfl hl.1 rfl (Nat.le_of_ble_eq_true rfl) d_V_compact_118 ⟨(show 0 + 0 + 0 + (3 * (capR x.gN 0 (cnt (PS k).n (x.sePc (PS k))) - x.gN)) + (3 * (capR (capR x.gN 0 (cnt (PS k).n (x.sePc (PS k)))) (cnt (PS k).n (x.sePc (PS k))) (cnt (PS (k + 1)).n (x.sePc (PS (k + 1)))) - (capR x.gN 0 (cnt (PS k).n (x.sePc (PS k)))))) + 0 + 0 + 0 + 0 + 0 ≤ 3 * (capR (capR x.gN 0 (cnt (PS k).n (x.sePc (PS k)))) (cnt (PS k).n (x.sePc (PS k))) (cnt (PS (k + 1)).n (x.sePc (PS (k + 1)))) - x.gN) + 1 by omega), (show 0 + 0 + 0 + (6 * (capR x.gN 0 (cnt (PS k).n (x.sePc (PS k))) - x.gN)) + (6 * (capR (capR x.gN 0 (cnt (PS k).n (x.sePc (PS k)))) (cnt (PS k).n (x.sePc (PS k))) (cnt (PS (k + 1)).n (x.sePc (PS (k + 1)))) - (capR x.gN 0 (cnt (PS k).n (x.sePc (PS k)))))) + 0 + 0 + 0 + 0 + 0 ≤ 6 * (capR (capR x.gN 0 (cnt (PS k).n (x.sePc (PS k)))) (cnt (PS k).n (x.sePc (PS k))) (cnt (PS (k + 1)).n (x.sePc (PS (k + 1)))) - x.gN) + 6 by omega)⟩) hP hD hS hA (fun r25 u9 H locs hp9 hP hD hS => ?_)
  have hP : va_P D vwCl (VW dA h ad (VS.s_gsize (VS.s_gV (VS.s_gT (VS.s_gO (VS.s_gN (VS.s_gA (VS.s_jch (VS.s_jkept (VS.s_writes (VS.s_cutLeft x x.wjC) x.wjW) x.wjK) false) ga2) (capR (capR x.gN 0 (cnt (PS k).n (x.sePc (PS k)))) (cnt (PS k).n (x.sePc (PS k))) (cnt (PS (k + 1)).n (x.sePc (PS (k + 1)))))) go2) gt2) gv2) (cnt (PS k).n (x.sePc (PS k)) + cnt (PS (k + 1)).n (x.sePc (PS (k + 1)))))) H := hP
  have hD : va_D A (VW dA h ad (VS.s_gsize (VS.s_gV (VS.s_gT (VS.s_gO (VS.s_gN (VS.s_gA (VS.s_jch (VS.s_jkept (VS.s_writes (VS.s_cutLeft x x.wjC) x.wjW) x.wjK) false) ga2) (capR (capR x.gN 0 (cnt (PS k).n (x.sePc (PS k)))) (cnt (PS k).n (x.sePc (PS k))) (cnt (PS (k + 1)).n (x.sePc (PS (k + 1)))))) go2) gt2) gv2) (cnt (PS k).n (x.sePc (PS k)) + cnt (PS (k + 1)).n (x.sePc (PS (k + 1)))))) := hD
  replace hp9 : 0 = r25 := Eq.symm hp9
  subst hp9
  refine lv_iconst (v := 1) hx hb d_V_compact_121 (by decide) ?_
  refine lv_iadd hx hb d_V_compact_122 (tpi (y := 1) (by decide) ?_)
  refine xfV (w1 := VW dA h ad (VS.s_gsize (VS.s_gV (VS.s_gT (VS.s_gO (VS.s_gN (VS.s_gA (VS.s_jch (VS.s_jkept (VS.s_writes (VS.s_cutLeft (VS.s_powered x false) (-1)) (x.wjW + k0)) x.wjK) false) ga2) (capR (capR x.gN 0 (cnt (PS k).n (x.sePc (PS k)))) (cnt (PS k).n (x.sePc (PS k))) (cnt (PS (k + 1)).n (x.sePc (PS (k + 1)))))) go2) gt2) gv2) (cnt (PS k).n (x.sePc (PS k)) + cnt (PS (k + 1)).n (x.sePc (PS (k + 1)))))) (As := [.int 1]) (rest := []) hx hb hml hown hE hK (hN _ _ hS) (v_writeBlocks_x l htr D dA H.size h ad (VS.s_gsize (VS.s_gV (VS.s_gT (VS.s_gO (VS.s_gN (VS.s_gA (VS.s_jch (VS.s_jkept (VS.s_writes (VS.s_cutLeft x x.wjC) x.wjW) x.wjK) false) ga2) (capR (capR x.gN 0 (cnt (PS k).n (x.sePc (PS k)))) (cnt (PS k).n (x.sePc (PS k))) (cnt (PS (k + 1)).n (x.sePc (PS (k + 1)))))) go2) gt2) gv2) (cnt (PS k).n (x.sePc (PS k)) + cnt (PS (k + 1)).n (x.sePc (PS (k + 1))))) 1 k0 (show 1 < 2 ^ 31 from by omega) hk0 hcz hc) (q0 := 0) rfl rfl w1394 w1393 w1395 w1396 w277 rfl rfl ⟨⟨by decide, by decide⟩, rfl⟩ ⟨(Nat.le_of_ble_eq_true rfl), (Nat.le_of_ble_eq_true rfl)⟩ rfl hl.1 rfl (Nat.le_of_ble_eq_true rfl) d_V_compact_123 ⟨(show 0 + 0 + 0 + (3 * (capR x.gN 0 (cnt (PS k).n (x.sePc (PS k))) - x.gN)) + (3 * (capR (capR x.gN 0 (cnt (PS k).n (x.sePc (PS k)))) (cnt (PS k).n (x.sePc (PS k))) (cnt (PS (k + 1)).n (x.sePc (PS (k + 1)))) - (capR x.gN 0 (cnt (PS k).n (x.sePc (PS k)))))) + 0 + 0 + 0 + 0 + 0 + 1 ≤ 3 * (capR (capR x.gN 0 (cnt (PS k).n (x.sePc (PS k)))) (cnt (PS k).n (x.sePc (PS k))) (cnt (PS (k + 1)).n (x.sePc (PS (k + 1)))) - x.gN) + 1 by omega), (show 0 + 0 + 0 + (6 * (capR x.gN 0 (cnt (PS k).n (x.sePc (PS k))) - x.gN)) + (6 * (capR (capR x.gN 0 (cnt (PS k).n (x.sePc (PS k)))) (cnt (PS k).n (x.sePc (PS k))) (cnt (PS (k + 1)).n (x.sePc (PS (k + 1)))) - (capR x.gN 0 (cnt (PS k).n (x.sePc (PS k)))))) + 0 + 0 + 0 + 0 + 0 + 6 ≤ 6 * (capR (capR x.gN 0 (cnt (PS k).n (x.sePc (PS k)))) (cnt (PS k).n (x.sePc (PS k))) (cnt (PS (k + 1)).n (x.sePc (PS (k + 1)))) - x.gN) + 6 by omega)⟩ hP hD hS hA (fun xa27 ce H locs hP hD hS hce hcv hcl => ?_)
  have hP : va_P D vwCl (VW dA h ad (VS.s_gsize (VS.s_gV (VS.s_gT (VS.s_gO (VS.s_gN (VS.s_gA (VS.s_jch (VS.s_jkept (VS.s_writes (VS.s_cutLeft (VS.s_powered x false) (-1)) (x.wjW + k0)) x.wjK) false) ga2) (capR (capR x.gN 0 (cnt (PS k).n (x.sePc (PS k)))) (cnt (PS k).n (x.sePc (PS k))) (cnt (PS (k + 1)).n (x.sePc (PS (k + 1)))))) go2) gt2) gv2) (cnt (PS k).n (x.sePc (PS k)) + cnt (PS (k + 1)).n (x.sePc (PS (k + 1)))))) H := hP
  have hD : va_D A (VW dA h ad (VS.s_gsize (VS.s_gV (VS.s_gT (VS.s_gO (VS.s_gN (VS.s_gA (VS.s_jch (VS.s_jkept (VS.s_writes (VS.s_cutLeft (VS.s_powered x false) (-1)) (x.wjW + k0)) x.wjK) false) ga2) (capR (capR x.gN 0 (cnt (PS k).n (x.sePc (PS k)))) (cnt (PS k).n (x.sePc (PS k))) (cnt (PS (k + 1)).n (x.sePc (PS (k + 1)))))) go2) gt2) gv2) (cnt (PS k).n (x.sePc (PS k)) + cnt (PS (k + 1)).n (x.sePc (PS (k + 1)))))) := hD
  exact xOut hno hlk hce hcv hcl (fun t ht => xkE (VS.s_gsize (VS.s_gV (VS.s_gT (VS.s_gO (VS.s_gN (VS.s_gA (VS.s_jch (VS.s_jkept (VS.s_writes (VS.s_cutLeft (VS.s_powered x false) (-1)) (x.wjW + k0)) x.wjK) false) ga2) (capR (capR x.gN 0 (cnt (PS k).n (x.sePc (PS k)))) (cnt (PS k).n (x.sePc (PS k))) (cnt (PS (k + 1)).n (x.sePc (PS (k + 1)))))) go2) gt2) gv2) (cnt (PS k).n (x.sePc (PS k)) + cnt (PS (k + 1)).n (x.sePc (PS (k + 1))))) ⟨ga2, go2, gt2, gv2, rfl⟩ hP hD hS t (by rw [ht]; exact Nat.le_refl _) (fun q _ => by rw [ht])) hS.2.2 (show 0 + 0 + 0 + (3 * (capR x.gN 0 (cnt (PS k).n (x.sePc (PS k))) - x.gN)) + (3 * (capR (capR x.gN 0 (cnt (PS k).n (x.sePc (PS k)))) (cnt (PS k).n (x.sePc (PS k))) (cnt (PS (k + 1)).n (x.sePc (PS (k + 1)))) - (capR x.gN 0 (cnt (PS k).n (x.sePc (PS k)))))) + 0 + 0 + 0 + 0 + 0 + 1 ≤ 3 * (capR (capR x.gN 0 (cnt (PS k).n (x.sePc (PS k)))) (cnt (PS k).n (x.sePc (PS k))) (cnt (PS (k + 1)).n (x.sePc (PS (k + 1)))) - x.gN) + 1 by omega) (show 0 + 0 + 0 + (6 * (capR x.gN 0 (cnt (PS k).n (x.sePc (PS k))) - x.gN)) + (6 * (capR (capR x.gN 0 (cnt (PS k).n (x.sePc (PS k)))) (cnt (PS k).n (x.sePc (PS k))) (cnt (PS (k + 1)).n (x.sePc (PS (k + 1)))) - (capR x.gN 0 (cnt (PS k).n (x.sePc (PS k)))))) + 0 + 0 + 0 + 0 + 0 + 6 ≤ 6 * (capR (capR x.gN 0 (cnt (PS k).n (x.sePc (PS k)))) (cnt (PS k).n (x.sePc (PS k))) (cnt (PS (k + 1)).n (x.sePc (PS (k + 1)))) - x.gN) + 6 by omega)
end
