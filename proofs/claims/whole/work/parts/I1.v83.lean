/-! What the series' reader says, by its value. -/
theorem rd_inl {x y : VS} {len : Nat} {r9 kf : Int32} {pf : Nat} (hrd : rdC x.tape len 7 0 0 x.rS x.rE x.rV = .inl (kf, pf)) (h : (∃ (kf : Int32) (pf c : Nat) (S E V : Nat → Nat), rdC x.tape len 7 0 0 x.rS x.rE x.rV = .inl (kf, pf) ∧ r9 = 0 ∧ y = (x.lbS c S E V).rfS kf pf) ∨ (∃ (c : Nat) (S E V : Nat → Nat), rdC x.tape len 7 0 0 x.rS x.rE x.rV = .inr (c, S, E, V) ∧ lbOk len c S E V ∧ c ≤ 6 ∧ 0 < c ∧ r9 = 1 ∧ y = x.lbS c S E V)) : ∃ (c : Nat) (S E V : Nat → Nat), r9 = 0 ∧ y = (x.lbS c S E V).rfS kf pf := by
  rw [hrd] at h
  rcases h with ⟨kf1, pf1, c, S, E, V, h1, h2, h3⟩ | ⟨c, S, E, V, h1, _⟩
  · injection h1 with h1
    injection h1 with h4 h5
    subst h4 h5
    exact ⟨c, S, E, V, h2, h3⟩
  · cases h1
theorem rd_inr {x y : VS} {len : Nat} {r9 : Int32} {n : Nat} {fS fE fV : Nat → Nat} (hrd : rdC x.tape len 7 0 0 x.rS x.rE x.rV = .inr (n, fS, fE, fV)) (h : (∃ (kf : Int32) (pf c : Nat) (S E V : Nat → Nat), rdC x.tape len 7 0 0 x.rS x.rE x.rV = .inl (kf, pf) ∧ r9 = 0 ∧ y = (x.lbS c S E V).rfS kf pf) ∨ (∃ (c : Nat) (S E V : Nat → Nat), rdC x.tape len 7 0 0 x.rS x.rE x.rV = .inr (c, S, E, V) ∧ lbOk len c S E V ∧ c ≤ 6 ∧ 0 < c ∧ r9 = 1 ∧ y = x.lbS c S E V)) : lbOk len n fS fE fV ∧ n ≤ 6 ∧ 0 < n ∧ r9 = 1 ∧ y = x.lbS n fS fE fV := by
  rw [hrd] at h
  rcases h with ⟨kf1, pf1, c, S, E, V, h1, _⟩ | ⟨c, S, E, V, h1, h2⟩
  · cases h1
  · injection h1 with h1
    injection h1 with h4 h1
    injection h1 with h5 h1
    injection h1 with h6 h7
    subst h4 h5 h6 h7
    exact h2
def VS.sbS (x : VS) (nl : Nat) (fS fE fV : Nat → Nat) (pl1 : va_W) : VS := VS.s_pl (VS.s_rlab (VS.s_rV (VS.s_rE (VS.s_rS x fS) fE) fV) nl) pl1
def VS.soS (x : VS) (nl : Nat) (fS fE fV : Nat → Nat) (pl1 : va_W) : VS := VS.s_pl (VS.s_rlab (VS.s_rV (VS.s_rE (VS.s_rS (VS.s_faultPlace (VS.s_faultCode (VS.s_tapeLength x 0) 0) 0) fS) fE) fV) nl) pl1
def VS.sfS (x : VS) (nl : Nat) (fS fE fV : Nat → Nat) (kf : Int32) (pf : Nat) : VS := VS.s_rplace (VS.s_rcode (VS.s_rlab (VS.s_rV (VS.s_rE (VS.s_rS (VS.s_faultPlace (VS.s_faultCode (VS.s_tapeLength x 0) kf) (nI pf)) fS) fE) fV) nl) kf) (nI pf)
def VS.ft0 (x : VS) : VS := VS.s_faultPlace (VS.s_faultCode (VS.s_tapeLength x 0) 0) 0
def VS.off1 (x : VS) : VS := VS.s_cutLeft (VS.s_powered x false) (-1)
set_option maxHeartbeats 4000000 in
set_option maxRecDepth 100000 in
theorem v_series_x (l : Launch) (htr : l.stackTraces = false) (D : va_G) (dA : Nat → ClassId) (sz : Nat) (h : Nat) (ad : Nat → Nat) (x : VS) (ho : x.powered = false) : mX l ⟨"SeriesVault", "series", "()I"⟩ [Cond.code ⟨"SeriesVault", "series", "()I"⟩ prog_1_method_23_code 3 (some FieldType.int)] { frames := 7, cells := 1, slots := 6, locals := 101 } (pC D dA [.ref h] (VW dA h ad x) sz) "java/lang/IllegalStateException" (fun st9 t9 => va_F (va_A (VW dA h ad x) sz) st9 t9 ∧ bW D (va_A (VW dA h ad x) sz) (VW dA h ad x) t9) 1 6 (va_A (VW dA h ad x) sz) := by
  refine mkX (y := ⟨"SeriesVault", "series", "()I"⟩) (cc := prog_1_method_23_code) (maxL := 3) (av := [.ref h]) (ws := VW dA h ad x) (sz := sz) (B := fun A => (fun st9 t9 => va_F A st9 t9 ∧ bW D A (VW dA h ad x) t9)) (by decide) (Nat.le_of_ble_eq_true rfl) ?_
  intro A p e s m below meth c ls hsz hno hB
  obtain ⟨hx, hb, hr, hml, hown, hin, hlk, hE, hK, hP, hD, hS, hA, hN, hl⟩ := hB
  have hown : s.vm.findClass "SeriesVault" = some m.cls := hown
  have hl : lv_has ls 3 [(0, .ref h)] := hl
  obtain ⟨H, hH⟩ : ∃ z, z = s.heap := ⟨_, rfl⟩
  have hP : va_P D vwCl (VW dA h ad x) H := by rw [hH]; exact hP
  have hS : va_S A s.heap H [] := by rw [hH]; exact hS
  rw [← hH]
  refine lv_aload_n hx hb d_V_series_0 rfl (lv_at hl 0 rfl) ?_
  refine xfV (w1 := VW dA h ad x) (As := []) (rest := []) hx hb hml hown hE hK (hN _ _ hS) (v_checkPower_x l htr D dA H.size h ad x ho) (q0 := 0) rfl rfl w278 w276 w279 w280 w277 rfl rfl ⟨⟨by decide, by decide⟩, rfl⟩ ⟨(Nat.le_of_ble_eq_true rfl), (Nat.le_of_ble_eq_true rfl)⟩ rfl hl.1 rfl (Nat.le_of_ble_eq_true rfl) d_V_series_1 ⟨(Nat.le_of_ble_eq_true rfl), (Nat.le_of_ble_eq_true rfl)⟩ hP hD hS hA (fun xa1 ce H locs hP hD hS hce hcv hcl => ?_)
  exact xOut hno hlk hce hcv hcl (fun t ht => xEndV hP hD hS t (by rw [ht]; exact Nat.le_refl _) (fun q _ => by rw [ht])) hS.2.2 (Nat.le_of_ble_eq_true rfl) (Nat.le_of_ble_eq_true rfl)
set_option maxHeartbeats 4000000 in
set_option maxRecDepth 100000 in
theorem v_series_f (l : Launch) (D : va_G) (dA : Nat → ClassId) (sz : Nat) (h : Nat) (ad : Nat → Nat) (x : VS) (kf : Int32) (pf : Nat) (ho : x.powered = true) (hby : byteF x.tape) (htl : x.tapeLength ≤ x.tpN) (h3 : x.tpN ≤ 131072) (hrd : rdC x.tape x.tapeLength 7 0 0 x.rS x.rE x.rV = .inl (kf, pf)) : Met l ⟨"SeriesVault", "series", "()I"⟩ [Cond.code ⟨"SeriesVault", "series", "()I"⟩ prog_1_method_23_code 3 (some FieldType.int)] { frames := 5, cells := 0, slots := 0, locals := 98 } (pC D dA [.ref h] (VW dA h ad x) sz) (va_Qi (fun (r9 : Int32) (u9 : VS) => r9 = (-1) ∧ (∃ (nl : Nat) (fS fE fV : Nat → Nat), u9 = x.sfS nl fS fE fV kf pf)) (fun (u9 : VS) t9 => bW D (va_A (VW dA h ad x) sz) (VW dA h ad u9) t9) (va_A (VW dA h ad x) sz)) 0 0 (va_A (VW dA h ad x) sz) := by
  refine mkC (y := ⟨"SeriesVault", "series", "()I"⟩) (cc := prog_1_method_23_code) (maxL := 3) (av := [.ref h]) (ws := VW dA h ad x) (sz := sz) (Qc := fun A => va_Qi (fun (r9 : Int32) (u9 : VS) => r9 = (-1) ∧ (∃ (nl : Nat) (fS fE fV : Nat → Nat), u9 = x.sfS nl fS fE fV kf pf)) (fun (u9 : VS) t9 => bW D A (VW dA h ad u9) t9) A) (by decide) (Nat.le_of_ble_eq_true rfl) ?_
  intro A p e s m below meth c ls hsz hB
  obtain ⟨hx, hb, hr, hml, hown, hin, hlk, hE, hK, hP, hD, hS, hA, hN, hl⟩ := hB
  have hown : s.vm.findClass "SeriesVault" = some m.cls := hown
  have hl : lv_has ls 3 [(0, .ref h)] := hl
  obtain ⟨H, hH⟩ : ∃ z, z = s.heap := ⟨_, rfl⟩
  have hP : va_P D vwCl (VW dA h ad x) H := by rw [hH]; exact hP
  have hS : va_S A s.heap H [] := by rw [hH]; exact hS
  rw [← hH]
  refine lv_aload_n hx hb d_V_series_0 rfl (lv_at hl 0 rfl) ?_
  refine jkV (wr := []) (rnV (As := []) (rest := []) hx hb hml hown hE hK (hN _ _ hS) hP hD (v_checkPower l D dA H.size h ad x ho) (q0 := 0) rfl rfl w278 w276 w279 w280 w277 rfl rfl ⟨⟨by decide, by decide⟩, rfl⟩ ⟨(Nat.le_of_ble_eq_true rfl), (Nat.le_of_ble_eq_true rfl)⟩ rfl hl.1 rfl (Nat.le_of_ble_eq_true rfl) d_V_series_1 ⟨(Nat.le_of_ble_eq_true rfl), (Nat.le_of_ble_eq_true rfl)⟩) hP hD hS hA (fun u2 H locs hp9 hP hD hS => ?_)
  have hP : va_P D vwCl (VW dA h ad x) H := hP
  have hD : va_D A (VW dA h ad x) := hD
  refine lv_aload_n hx hb d_V_series_4 rfl (lv_at hl 0 rfl) ?_
  refine gF (v := .ref (ad 18)) hx hb hown hE hK hP 0 rfl rfl layV 14 (by decide) w608 rfl d_V_series_5 ?_
  refine lv_aload_n hx hb d_V_series_8 rfl (lv_at hl 0 rfl) ?_
  refine gF (v := .ref x.tpA) hx hb hown hE hK hP 0 rfl rfl layV 0 (by decide) w539 rfl d_V_series_9 ?_
  refine lv_aload_n hx hb d_V_series_12 rfl (lv_at hl 0 rfl) ?_
  refine gF (v := .int (nI x.tapeLength)) hx hb hown hE hK hP 0 rfl rfl layV 1 (by decide) w259 rfl d_V_series_13 ?_
  refine jkI (wr := []) (rnV (As := [.ref x.tpA, .int (nI x.tapeLength)]) (rest := []) hx hb hml hown hE hK (hN _ _ hS) hP hD (v_read l D dA H.size h ad x x.tapeLength htl h3) (q0 := 32) rfl rfl w610 w609 w611 w612 w596 rfl rfl ⟨⟨by decide, by decide⟩, rfl⟩ ⟨(Nat.le_of_ble_eq_true rfl), (Nat.le_of_ble_eq_true rfl)⟩ rfl hl.1 rfl (Nat.le_of_ble_eq_true rfl) d_V_series_16 ⟨(Nat.le_of_ble_eq_true rfl), (Nat.le_of_ble_eq_true rfl)⟩) hP hD hS hA (fun r3 u4 H locs hp9 hP hD hS => ?_)
  obtain ⟨y5, h9u⟩ : ∃ z9, z9 = u4 := ⟨_, rfl⟩
  subst h9u
  have hP : va_P D vwCl (VW dA h ad y5) H := hP
  have hD : va_D A (VW dA h ad y5) := hD
  have f_r_6 := hp9
  obtain ⟨nl, fS, fE, fV, e9, ey⟩ := rd_inl hrd f_r_6
  subst e9
  subst ey
  have hP : va_P D vwCl (VW dA h ad (VS.s_rplace (VS.s_rcode (VS.s_rlab (VS.s_rV (VS.s_rE (VS.s_rS x fS) fE) fV) nl) kf) (nI pf))) H := hP
  have hD : va_D A (VW dA h ad (VS.s_rplace (VS.s_rcode (VS.s_rlab (VS.s_rV (VS.s_rE (VS.s_rS x fS) fE) fV) nl) kf) (nI pf))) := hD
  refine lv_if_ne hx hb d_V_series_19 (tgt := 47) rfl (fun h9 => absurd (by decide) h9) (fun _ => ?_)
  refine lv_aload_n hx hb d_V_series_22 rfl (lv_at hl 0 rfl) ?_
  refine lv_iconst (v := 0) hx hb d_V_series_23 (by decide) ?_
  refine pF (v := .int (nI 0)) hx hb hown hE hK hP hD hS 0 rfl rfl layV tyV tokV nmV 1 (by decide) w259 rfl rfl rfl (Nat.le_of_ble_eq_true rfl) d_V_series_24 (fun H locs hP hD hS => ?_)
  have hP : va_P D vwCl (VW dA h ad (VS.s_rplace (VS.s_rcode (VS.s_rlab (VS.s_rV (VS.s_rE (VS.s_rS (VS.s_tapeLength x 0) fS) fE) fV) nl) kf) (nI pf))) H := hP
  have hD : va_D A (VW dA h ad (VS.s_rplace (VS.s_rcode (VS.s_rlab (VS.s_rV (VS.s_rE (VS.s_rS (VS.s_tapeLength x 0) fS) fE) fV) nl) kf) (nI pf))) := hD
  refine lv_aload_n hx hb d_V_series_27 rfl (lv_at hl 0 rfl) ?_
  refine lv_aload_n hx hb d_V_series_28 rfl (lv_at hl 0 rfl) ?_
  refine gF (v := .ref (ad 18)) hx hb hown hE hK hP 0 rfl rfl layV 14 (by decide) w608 rfl d_V_series_29 ?_
  refine gFN (v := .int kf) hx hb hown hE hK hP 32 rfl rfl layR 4 (by decide) w613 rfl d_V_series_32 ?_
  refine lv_aload_n hx hb d_V_series_35 rfl (lv_at hl 0 rfl) ?_
  refine gF (v := .ref (ad 18)) hx hb hown hE hK hP 0 rfl rfl layV 14 (by decide) w608 rfl d_V_series_36 ?_
  refine gFN (v := .int (nI pf)) hx hb hown hE hK hP 32 rfl rfl layR 5 (by decide) w614 rfl d_V_series_39 ?_
  refine jkV (wr := []) (rnV (As := [.int kf, .int (nI pf)]) (rest := []) hx hb hml hown hE hK (hN _ _ hS) hP hD (v_setFault l D dA H.size h ad (VS.s_rplace (VS.s_rcode (VS.s_rlab (VS.s_rV (VS.s_rE (VS.s_rS (VS.s_tapeLength x 0) fS) fE) fV) nl) kf) (nI pf)) kf (nI pf)) (q0 := 0) rfl rfl w616 w615 w617 w618 w277 rfl rfl ⟨⟨by decide, by decide⟩, rfl⟩ ⟨(Nat.le_of_ble_eq_true rfl), (Nat.le_of_ble_eq_true rfl)⟩ rfl hl.1 rfl (Nat.le_of_ble_eq_true rfl) d_V_series_42 ⟨(Nat.le_of_ble_eq_true rfl), (Nat.le_of_ble_eq_true rfl)⟩) hP hD hS hA (fun u8 H locs hp9 hP hD hS => ?_)
  have hP : va_P D vwCl (VW dA h ad (VS.s_rplace (VS.s_rcode (VS.s_rlab (VS.s_rV (VS.s_rE (VS.s_rS (VS.s_faultPlace (VS.s_faultCode (VS.s_tapeLength x 0) kf) (nI pf)) fS) fE) fV) nl) kf) (nI pf))) H := hP
  have hD : va_D A (VW dA h ad (VS.s_rplace (VS.s_rcode (VS.s_rlab (VS.s_rV (VS.s_rE (VS.s_rS (VS.s_faultPlace (VS.s_faultCode (VS.s_tapeLength x 0) kf) (nI pf)) fS) fE) fV) nl) kf) (nI pf))) := hD
  refine lv_iconst (v := (-1)) hx hb d_V_series_45 (by decide) ?_
  exact rfI hx hb hr hlk hS (VS.s_rplace (VS.s_rcode (VS.s_rlab (VS.s_rV (VS.s_rE (VS.s_rS (VS.s_faultPlace (VS.s_faultCode (VS.s_tapeLength x 0) kf) (nI pf)) fS) fE) fV) nl) kf) (nI pf)) ⟨rfl, nl, fS, fE, fV, rfl⟩ hP hD (Nat.le_of_ble_eq_true rfl) (Nat.le_of_ble_eq_true rfl) d_V_series_46
theorem d_V_series_47 : decode prog_1_method_23_code 47 = .ok (.aload_n 0, 1) := by decide +kernel
theorem d_V_series_48 : decode prog_1_method_23_code 48 = .ok (.getfield 49, 3) := by decide +kernel
theorem d_V_series_51 : decode prog_1_method_23_code 51 = .ok (.aload_n 0, 1) := by decide +kernel
theorem d_V_series_52 : decode prog_1_method_23_code 52 = .ok (.getfield 7, 3) := by decide +kernel
theorem d_V_series_55 : decode prog_1_method_23_code 55 = .ok (.invokevirtual 213, 3) := by decide +kernel
theorem d_V_series_58 : decode prog_1_method_23_code 58 = .ok (.astore_n 1, 1) := by decide +kernel
theorem d_V_series_59 : decode prog_1_method_23_code 59 = .ok (.aload_n 0, 1) := by decide +kernel
theorem d_V_series_60 : decode prog_1_method_23_code 60 = .ok (.aload_n 1, 1) := by decide +kernel
theorem d_V_series_61 : decode prog_1_method_23_code 61 = .ok (.invokevirtual 217, 3) := by decide +kernel
theorem d_V_series_64 : decode prog_1_method_23_code 64 = .ok (.istore_n 2, 1) := by decide +kernel
theorem d_V_series_65 : decode prog_1_method_23_code 65 = .ok (.iload_n 2, 1) := by decide +kernel
theorem d_V_series_66 : decode prog_1_method_23_code 66 = .ok (.aload_n 0, 1) := by decide +kernel
theorem d_V_series_67 : decode prog_1_method_23_code 67 = .ok (.getfield 33, 3) := by decide +kernel
theorem d_V_series_70 : decode prog_1_method_23_code 70 = .ok (.getfield 130, 3) := by decide +kernel
theorem d_V_series_73 : decode prog_1_method_23_code 73 = .ok (.if_icmp .ne 8, 3) := by decide +kernel
theorem d_V_series_81 : decode prog_1_method_23_code 81 = .ok (.aload_n 0, 1) := by decide +kernel
theorem d_V_series_82 : decode prog_1_method_23_code 82 = .ok (.iconst 0, 1) := by decide +kernel
theorem d_V_series_83 : decode prog_1_method_23_code 83 = .ok (.putfield 71, 3) := by decide +kernel
theorem d_V_series_86 : decode prog_1_method_23_code 86 = .ok (.aload_n 0, 1) := by decide +kernel
theorem d_V_series_87 : decode prog_1_method_23_code 87 = .ok (.iconst 0, 1) := by decide +kernel
theorem d_V_series_88 : decode prog_1_method_23_code 88 = .ok (.iconst 0, 1) := by decide +kernel
theorem d_V_series_89 : decode prog_1_method_23_code 89 = .ok (.invokevirtual 210, 3) := by decide +kernel
theorem d_V_series_92 : decode prog_1_method_23_code 92 = .ok (.iload_n 2, 1) := by decide +kernel
theorem d_V_series_93 : decode prog_1_method_23_code 93 = .ok (.ireturn, 1) := by decide +kernel
theorem w1734 : Cond.methodLink "SeriesVault" 213 ⟨"SeriesVault$SeriesReader", "made", "([B)LSeriesVault$Series;"⟩ ∈ aW := aw_of (tb_3 (List.mem_of_getElem? (i := 222) rfl)) rfl
theorem w1735 : Cond.code ⟨"SeriesVault$SeriesReader", "made", "([B)LSeriesVault$Series;"⟩ prog_8_method_9_code 7 (some (FieldType.object "SeriesVault$Series")) ∈ aW := aw_of (tb_3 (List.mem_of_getElem? (i := 225) rfl)) rfl
theorem w1736 : Cond.instanceMethod ⟨"SeriesVault$SeriesReader", "made", "([B)LSeriesVault$Series;"⟩ ∈ aW := aw_of (tb_3 (List.mem_of_getElem? (i := 223) rfl)) rfl
theorem w1737 : Cond.selects "SeriesVault$SeriesReader" ⟨"SeriesVault$SeriesReader", "made", "([B)LSeriesVault$Series;"⟩ ⟨"SeriesVault$SeriesReader", "made", "([B)LSeriesVault$Series;"⟩ ∈ aW := aw_of (tb_3 (List.mem_of_getElem? (i := 224) rfl)) rfl
theorem w1738 : Cond.methodLink "SeriesVault" 217 ⟨"SeriesVault", "numberOf", "(LSeriesVault$Series;)I"⟩ ∈ aW := aw_of (tb_5 (List.mem_of_getElem? (i := 18) rfl)) rfl
theorem w1739 : Cond.code ⟨"SeriesVault", "numberOf", "(LSeriesVault$Series;)I"⟩ prog_1_method_24_code 3 (some FieldType.int) ∈ aW := aw_of (tb_5 (List.mem_of_getElem? (i := 21) rfl)) rfl
theorem w1740 : Cond.instanceMethod ⟨"SeriesVault", "numberOf", "(LSeriesVault$Series;)I"⟩ ∈ aW := aw_of (tb_5 (List.mem_of_getElem? (i := 20) rfl)) rfl
theorem w1741 : Cond.selects "SeriesVault" ⟨"SeriesVault", "numberOf", "(LSeriesVault$Series;)I"⟩ ⟨"SeriesVault", "numberOf", "(LSeriesVault$Series;)I"⟩ ∈ aW := aw_pr (List.mem_map.mpr ⟨_, pv_1 (List.mem_of_getElem? (i := 11) rfl), rfl⟩) rfl
set_option maxHeartbeats 4000000 in
set_option maxRecDepth 100000 in
theorem v_series_o (l : Launch) (D : va_G) (dA : Nat → ClassId) (sz : Nat) (h : Nat) (ad : Nat → Nat) (x : VS) (SS : Nat → List LB) (nl : Nat) (fS : Nat → Nat) (fE : Nat → Nat) (fV : Nat → Nat) (ho : x.powered = true) (hby : byteF x.tape) (htl : x.tapeLength ≤ x.tpN) (h3 : x.tpN ≤ 131072) (hkn : knOk dA x.kn x.nser x.pl SS) (hn : x.nser ≤ 256) (hrd : rdC x.tape x.tapeLength 7 0 0 x.rS x.rE x.rV = .inr (nl, fS, fE, fV)) (hnu : nuN SS (srtL x.tape fS fE fV nl) x.nser < x.nser) : Met l ⟨"SeriesVault", "series", "()I"⟩ [Cond.code ⟨"SeriesVault", "series", "()I"⟩ prog_1_method_23_code 3 (some FieldType.int)] { frames := 7, cells := 32, slots := 930, locals := 158 } (pC D dA [.ref h] (VW dA h ad x) sz) (va_Qi (fun (r9 : Int32) (u9 : VS) => r9 = nI (nuN SS (srtL x.tape fS fE fV nl) x.nser) ∧ ∃ pl1 : va_W, (∀ c, c ∈ x.pl → c ∈ pl1) ∧ u9 = x.soS nl fS fE fV pl1) (fun (u9 : VS) t9 => bW D (va_A (VW dA h ad x) sz) (VW dA h ad u9) t9) (va_A (VW dA h ad x) sz)) 32 930 (va_A (VW dA h ad x) sz) := by
  refine mkC (y := ⟨"SeriesVault", "series", "()I"⟩) (cc := prog_1_method_23_code) (maxL := 3) (av := [.ref h]) (ws := VW dA h ad x) (sz := sz) (Qc := fun A => va_Qi (fun (r9 : Int32) (u9 : VS) => r9 = nI (nuN SS (srtL x.tape fS fE fV nl) x.nser) ∧ ∃ pl1 : va_W, (∀ c, c ∈ x.pl → c ∈ pl1) ∧ u9 = x.soS nl fS fE fV pl1) (fun (u9 : VS) t9 => bW D A (VW dA h ad u9) t9) A) (by decide) (Nat.le_of_ble_eq_true rfl) ?_
  intro A p e s m below meth c ls hsz hB
  obtain ⟨hx, hb, hr, hml, hown, hin, hlk, hE, hK, hP, hD, hS, hA, hN, hl⟩ := hB
  have hown : s.vm.findClass "SeriesVault" = some m.cls := hown
  have hl : lv_has ls 3 [(0, .ref h)] := hl
  obtain ⟨H, hH⟩ : ∃ z, z = s.heap := ⟨_, rfl⟩
  have hP : va_P D vwCl (VW dA h ad x) H := by rw [hH]; exact hP
  have hS : va_S A s.heap H [] := by rw [hH]; exact hS
  rw [← hH]
  refine lv_aload_n hx hb d_V_series_0 rfl (lv_at hl 0 rfl) ?_
  refine jkV (wr := []) (rnV (As := []) (rest := []) hx hb hml hown hE hK (hN _ _ hS) hP hD (v_checkPower l D dA H.size h ad x ho) (q0 := 0) rfl rfl w278 w276 w279 w280 w277 rfl rfl ⟨⟨by decide, by decide⟩, rfl⟩ ⟨(Nat.le_of_ble_eq_true rfl), (Nat.le_of_ble_eq_true rfl)⟩ rfl hl.1 rfl (Nat.le_of_ble_eq_true rfl) d_V_series_1 ⟨(show 0 + 0 ≤ 32 by omega), (show 0 + 0 ≤ 930 by omega)⟩) hP hD hS hA (fun u2 H locs hp9 hP hD hS => ?_)
  have hP : va_P D vwCl (VW dA h ad x) H := hP
  have hD : va_D A (VW dA h ad x) := hD
  refine lv_aload_n hx hb d_V_series_4 rfl (lv_at hl 0 rfl) ?_
  refine gF (v := .ref (ad 18)) hx hb hown hE hK hP 0 rfl rfl layV 14 (by decide) w608 rfl d_V_series_5 ?_
  refine lv_aload_n hx hb d_V_series_8 rfl (lv_at hl 0 rfl) ?_
  refine gF (v := .ref x.tpA) hx hb hown hE hK hP 0 rfl rfl layV 0 (by decide) w539 rfl d_V_series_9 ?_
  refine lv_aload_n hx hb d_V_series_12 rfl (lv_at hl 0 rfl) ?_
  refine gF (v := .int (nI x.tapeLength)) hx hb hown hE hK hP 0 rfl rfl layV 1 (by decide) w259 rfl d_V_series_13 ?_
  refine jkI (wr := []) (rnV (As := [.ref x.tpA, .int (nI x.tapeLength)]) (rest := []) hx hb hml hown hE hK (hN _ _ hS) hP hD (v_read l D dA H.size h ad x x.tapeLength htl h3) (q0 := 32) rfl rfl w610 w609 w611 w612 w596 rfl rfl ⟨⟨by decide, by decide⟩, rfl⟩ ⟨(Nat.le_of_ble_eq_true rfl), (Nat.le_of_ble_eq_true rfl)⟩ rfl hl.1 rfl (Nat.le_of_ble_eq_true rfl) d_V_series_16 ⟨(show 0 + 0 + 0 ≤ 32 by omega), (show 0 + 0 + 0 ≤ 930 by omega)⟩) hP hD hS hA (fun r3 u4 H locs hp9 hP hD hS => ?_)
  obtain ⟨y5, h9u⟩ : ∃ z9, z9 = u4 := ⟨_, rfl⟩
  subst h9u
  have hP : va_P D vwCl (VW dA h ad y5) H := hP
  have hD : va_D A (VW dA h ad y5) := hD
  have f_r_6 := hp9
  obtain ⟨hlb, hl6, hl0, e9, ey⟩ := rd_inr hrd f_r_6
  subst e9
  subst ey
  have hP : va_P D vwCl (VW dA h ad (VS.s_rlab (VS.s_rV (VS.s_rE (VS.s_rS x fS) fE) fV) nl)) H := hP
  have hD : va_D A (VW dA h ad (VS.s_rlab (VS.s_rV (VS.s_rE (VS.s_rS x fS) fE) fV) nl)) := hD
  refine lv_if_ne hx hb d_V_series_19 (tgt := 47) rfl (fun _ => ?_) (fun h9 => absurd h9 (by decide))
  refine lv_aload_n hx hb d_V_series_47 rfl (lv_at hl 0 rfl) ?_
  refine gF (v := .ref (ad 18)) hx hb hown hE hK hP 0 rfl rfl layV 14 (by decide) w608 rfl d_V_series_48 ?_
  refine lv_aload_n hx hb d_V_series_51 rfl (lv_at hl 0 rfl) ?_
  refine gF (v := .ref x.tpA) hx hb hown hE hK hP 0 rfl rfl layV 0 (by decide) w539 rfl d_V_series_52 ?_
  refine jkR (wr := []) (rnV (As := [.ref x.tpA]) (rest := []) hx hb hml hown hE hK (hN _ _ hS) hP hD (v_made l D dA H.size h ad (VS.s_rlab (VS.s_rV (VS.s_rE (VS.s_rS x fS) fE) fV) nl) x.tapeLength hby htl h3 hl6 hlb) (q0 := 32) rfl rfl w1735 w1734 w1736 w1737 w596 rfl rfl ⟨⟨by decide, by decide⟩, rfl⟩ ⟨(Nat.le_of_ble_eq_true rfl), (Nat.le_of_ble_eq_true rfl)⟩ rfl hl.1 rfl (Nat.le_of_ble_eq_true rfl) d_V_series_55 ⟨(show 0 + 0 + 0 + 32 ≤ 32 by omega), (show 0 + 0 + 0 + 930 ≤ 930 by omega)⟩) hP hD hS hA (fun u7 mp H locs hp9 hP hD hS => ?_)
  obtain ⟨y8, h9u⟩ : ∃ z9, z9 = u7 := ⟨_, rfl⟩
  subst h9u
  have hP : va_P D vwCl (VW dA h ad y8) H := hP
  have hD : va_D A (VW dA h ad y8) := hD
  obtain ⟨f_k_9, f_w_10⟩ := hp9
  obtain ⟨hy, hsub⟩ := f_k_9
  have hsr := f_w_10
  obtain ⟨pl1, epl⟩ : ∃ z, z = y8.pl := ⟨_, rfl⟩
  rw [← epl] at hy hsub hsr
  subst hy
  have hP : va_P D vwCl (VW dA h ad (VS.s_pl (VS.s_rlab (VS.s_rV (VS.s_rE (VS.s_rS x fS) fE) fV) nl) pl1)) H := hP
  have hD : va_D A (VW dA h ad (VS.s_pl (VS.s_rlab (VS.s_rV (VS.s_rE (VS.s_rS x fS) fE) fV) nl) pl1)) := hD
  have hso : serOk (srtL x.tape fS fE fV nl) := srt_sOk hlb hl6
  have hkn1 := knOk_m hsub hkn
  refine lv_astore_n hx hb d_V_series_58 rfl hl (by decide) rfl (fun ls hl => ?_)
  have hl : lv_has ls 3 [(1, .ref mp), (0, .ref h)] := hl
  refine lv_aload_n hx hb d_V_series_59 rfl (lv_at hl 1 rfl) ?_
  refine lv_aload_n hx hb d_V_series_60 rfl (lv_at hl 0 rfl) ?_
  refine jkI (wr := []) (rnV (As := [.ref mp]) (rest := []) hx hb hml hown hE hK (hN _ _ hS) hP hD (v_numberOf l D dA H.size h ad (VS.s_pl (VS.s_rlab (VS.s_rV (VS.s_rE (VS.s_rS x fS) fE) fV) nl) pl1) SS mp (srtL x.tape fS fE fV nl) hkn1 (show x.nser ≤ 256 from by omega) hsr hso) (q0 := 0) rfl rfl w1739 w1738 w1740 w1741 w277 rfl rfl ⟨⟨by decide, by decide⟩, rfl⟩ ⟨(Nat.le_of_ble_eq_true rfl), (Nat.le_of_ble_eq_true rfl)⟩ rfl hl.1 rfl (Nat.le_of_ble_eq_true rfl) d_V_series_61 ⟨(show 0 + 0 + 0 + 32 + 0 ≤ 32 by omega), (show 0 + 0 + 0 + 930 + 0 ≤ 930 by omega)⟩) hP hD hS hA (fun r11 u12 H locs hp9 hP hD hS => ?_)
  have hP : va_P D vwCl (VW dA h ad (VS.s_pl (VS.s_rlab (VS.s_rV (VS.s_rE (VS.s_rS x fS) fE) fV) nl) pl1)) H := hP
  have hD : va_D A (VW dA h ad (VS.s_pl (VS.s_rlab (VS.s_rV (VS.s_rE (VS.s_rS x fS) fE) fV) nl) pl1)) := hD
  replace hp9 : nI (nuN SS (srtL x.tape fS fE fV nl) x.nser) = r11 := Eq.symm hp9
  subst hp9
  refine lv_istore_n hx hb d_V_series_64 rfl hl (by decide) rfl (fun ls hl => ?_)
  have hl : lv_has ls 3 [(2, .int (nI (nuN SS (srtL x.tape fS fE fV nl) x.nser))), (1, .ref mp), (0, .ref h)] := hl
  refine lv_iload_n hx hb d_V_series_65 rfl (lv_at hl 0 rfl) ?_
  refine lv_aload_n hx hb d_V_series_66 rfl (lv_at hl 2 rfl) ?_
  refine gF (v := .ref (ad 3)) hx hb hown hE hK hP 0 rfl rfl layV 11 (by decide) w297 rfl d_V_series_67 ?_
  refine gFN (v := .int (nI x.nser)) hx hb hown hE hK hP 17 rfl rfl layH 8 (by decide) w298 rfl d_V_series_70 ?_
  refine lv_icmp_ne hx hb d_V_series_73 (tgt := 81) rfl (fun g13 => ?_) (fun g13 => ?_)
  rotate_left
  · have g13 := (nI_eq (a := nuN SS (srtL x.tape fS fE fV nl) x.nser) (b := x.nser) (by omega) (by omega)).mp g13; exfalso; omega
  have g13 := mt (nI_eq (a := nuN SS (srtL x.tape fS fE fV nl) x.nser) (b := x.nser) (by omega) (by omega)).mpr g13
  refine lv_aload_n hx hb d_V_series_81 rfl (lv_at hl 2 rfl) ?_
  refine lv_iconst (v := 0) hx hb d_V_series_82 (by decide) ?_
  refine pF (v := .int (nI 0)) hx hb hown hE hK hP hD hS 0 rfl rfl layV tyV tokV nmV 1 (by decide) w259 rfl rfl rfl (Nat.le_of_ble_eq_true rfl) d_V_series_83 (fun H locs hP hD hS => ?_)
  have hP : va_P D vwCl (VW dA h ad (VS.s_pl (VS.s_rlab (VS.s_rV (VS.s_rE (VS.s_rS (VS.s_tapeLength x 0) fS) fE) fV) nl) pl1)) H := hP
  have hD : va_D A (VW dA h ad (VS.s_pl (VS.s_rlab (VS.s_rV (VS.s_rE (VS.s_rS (VS.s_tapeLength x 0) fS) fE) fV) nl) pl1)) := hD
  refine lv_aload_n hx hb d_V_series_86 rfl (lv_at hl 2 rfl) ?_
  refine lv_iconst (v := 0) hx hb d_V_series_87 (by decide) ?_
  refine lv_iconst (v := 0) hx hb d_V_series_88 (by decide) ?_
  refine jkV (wr := []) (rnV (As := [.int 0, .int 0]) (rest := []) hx hb hml hown hE hK (hN _ _ hS) hP hD (v_setFault l D dA H.size h ad (VS.s_pl (VS.s_rlab (VS.s_rV (VS.s_rE (VS.s_rS (VS.s_tapeLength x 0) fS) fE) fV) nl) pl1) 0 0) (q0 := 0) rfl rfl w616 w615 w617 w618 w277 rfl rfl ⟨⟨by decide, by decide⟩, rfl⟩ ⟨(Nat.le_of_ble_eq_true rfl), (Nat.le_of_ble_eq_true rfl)⟩ rfl hl.1 rfl (Nat.le_of_ble_eq_true rfl) d_V_series_89 ⟨(show 0 + 0 + 0 + 32 + 0 + 0 ≤ 32 by omega), (show 0 + 0 + 0 + 930 + 0 + 0 ≤ 930 by omega)⟩) hP hD hS hA (fun u15 H locs hp9 hP hD hS => ?_)
  have hP : va_P D vwCl (VW dA h ad (VS.s_pl (VS.s_rlab (VS.s_rV (VS.s_rE (VS.s_rS (VS.s_faultPlace (VS.s_faultCode (VS.s_tapeLength x 0) 0) 0) fS) fE) fV) nl) pl1)) H := hP
  have hD : va_D A (VW dA h ad (VS.s_pl (VS.s_rlab (VS.s_rV (VS.s_rE (VS.s_rS (VS.s_faultPlace (VS.s_faultCode (VS.s_tapeLength x 0) 0) 0) fS) fE) fV) nl) pl1)) := hD
  refine lv_iload_n hx hb d_V_series_92 rfl (lv_at hl 0 rfl) ?_
  exact rfI hx hb hr hlk hS (VS.s_pl (VS.s_rlab (VS.s_rV (VS.s_rE (VS.s_rS (VS.s_faultPlace (VS.s_faultCode (VS.s_tapeLength x 0) 0) 0) fS) fE) fV) nl) pl1) ⟨rfl, pl1, hsub, rfl⟩ hP hD (show 0 + 0 + 0 + 32 + 0 + 0 ≤ 32 by omega) (show 0 + 0 + 0 + 930 + 0 + 0 ≤ 930 by omega) d_V_series_93
theorem d_V_series_76 : decode prog_1_method_23_code 76 = .ok (.aload_n 0, 1) := by decide +kernel
theorem d_V_series_77 : decode prog_1_method_23_code 77 = .ok (.aload_n 1, 1) := by decide +kernel
theorem d_V_series_78 : decode prog_1_method_23_code 78 = .ok (.invokevirtual 221, 3) := by decide +kernel
theorem w1742 : Cond.methodLink "SeriesVault" 221 ⟨"SeriesVault", "addNewSeries", "(LSeriesVault$Series;)V"⟩ ∈ aW := aw_of (tb_5 (List.mem_of_getElem? (i := 26) rfl)) rfl
theorem w1743 : Cond.code ⟨"SeriesVault", "addNewSeries", "(LSeriesVault$Series;)V"⟩ prog_1_method_25_code 3 none ∈ aW := aw_of (tb_5 (List.mem_of_getElem? (i := 29) rfl)) rfl
theorem w1744 : Cond.instanceMethod ⟨"SeriesVault", "addNewSeries", "(LSeriesVault$Series;)V"⟩ ∈ aW := aw_of (tb_5 (List.mem_of_getElem? (i := 28) rfl)) rfl
theorem w1745 : Cond.selects "SeriesVault" ⟨"SeriesVault", "addNewSeries", "(LSeriesVault$Series;)V"⟩ ⟨"SeriesVault", "addNewSeries", "(LSeriesVault$Series;)V"⟩ ∈ aW := aw_pr (List.mem_map.mpr ⟨_, pv_1 (List.mem_of_getElem? (i := 12) rfl), rfl⟩) rfl
set_option maxHeartbeats 4000000 in
set_option maxRecDepth 100000 in
theorem v_series_n (l : Launch) (D : va_G) (dA : Nat → ClassId) (sz : Nat) (h : Nat) (ad : Nat → Nat) (x : VS) (SS : Nat → List LB) (nl : Nat) (fS : Nat → Nat) (fE : Nat → Nat) (fV : Nat → Nat) (ho : x.powered = true) (hby : byteF x.tape) (htl : x.tapeLength ≤ x.tpN) (h3 : x.tpN ≤ 131072) (hkn : knOk dA x.kn x.nser x.pl SS) (hn : x.nser ≤ 256) (hrd : rdC x.tape x.tapeLength 7 0 0 x.rS x.rE x.rV = .inr (nl, fS, fE, fV)) (hnu : nuN SS (srtL x.tape fS fE fV nl) x.nser = x.nser) (hbu : x.jblock + 1 < 2 ^ 31) (hlu : x.jlimit < 2 ^ 31) (hfl : x.jfill ≤ 126) (hs1 : x.jsize ≤ x.jN) (hs2 : 0 < x.jN) (hs3 : x.jN ≤ 65536) (hx0 : x.nser < 256) (hro : x.room (1 + ((joinT (srtL x.tape fS fE fV nl)).length + 32 - 1) / 32) = true) (hcr : x.jfill + (1 + ((joinT (srtL x.tape fS fE fV nl)).length + 32 - 1) / 32) ≤ 126 ∨ x.jch = false ∨ ¬ x.cutLeft = 0) : Met l ⟨"SeriesVault", "series", "()I"⟩ [Cond.code ⟨"SeriesVault", "series", "()I"⟩ prog_1_method_23_code 3 (some FieldType.int)] { frames := 7, cells := 32 + 6 * (x.jcap - x.jN), slots := 930 + 12 * (x.jcap - x.jN), locals := 158 } (pC D dA [.ref h] (VW dA h ad x) sz) (va_Qi (fun (r9 : Int32) (u9 : VS) => r9 = nI x.nser ∧ (∃ (pl1 : va_W) (mp : Nat) (ja : Nat → Nat), (∀ c, c ∈ x.pl → c ∈ pl1) ∧ isSer dA pl1 mp (srtL x.tape fS fE fV nl) ∧ u9 = (((x.sbS nl fS fE fV pl1).wrF ja 0 x.nser (1 + ((joinT (srtL x.tape fS fE fV nl)).length + 32 - 1) / 32) 0 0).anS mp).ft0)) (fun (u9 : VS) t9 => bW D (va_A (VW dA h ad x) sz) (VW dA h ad u9) t9) (va_A (VW dA h ad x) sz)) (32 + 6 * (x.jcap - x.jN)) (930 + 12 * (x.jcap - x.jN)) (va_A (VW dA h ad x) sz) := by
  refine mkC (y := ⟨"SeriesVault", "series", "()I"⟩) (cc := prog_1_method_23_code) (maxL := 3) (av := [.ref h]) (ws := VW dA h ad x) (sz := sz) (Qc := fun A => va_Qi (fun (r9 : Int32) (u9 : VS) => r9 = nI x.nser ∧ (∃ (pl1 : va_W) (mp : Nat) (ja : Nat → Nat), (∀ c, c ∈ x.pl → c ∈ pl1) ∧ isSer dA pl1 mp (srtL x.tape fS fE fV nl) ∧ u9 = (((x.sbS nl fS fE fV pl1).wrF ja 0 x.nser (1 + ((joinT (srtL x.tape fS fE fV nl)).length + 32 - 1) / 32) 0 0).anS mp).ft0)) (fun (u9 : VS) t9 => bW D A (VW dA h ad u9) t9) A) (by decide) (Nat.le_of_ble_eq_true rfl) ?_
  intro A p e s m below meth c ls hsz hB
  obtain ⟨hx, hb, hr, hml, hown, hin, hlk, hE, hK, hP, hD, hS, hA, hN, hl⟩ := hB
  have hown : s.vm.findClass "SeriesVault" = some m.cls := hown
  have hl : lv_has ls 3 [(0, .ref h)] := hl
  obtain ⟨H, hH⟩ : ∃ z, z = s.heap := ⟨_, rfl⟩
  have hP : va_P D vwCl (VW dA h ad x) H := by rw [hH]; exact hP
  have hS : va_S A s.heap H [] := by rw [hH]; exact hS
  rw [← hH]
  refine lv_aload_n hx hb d_V_series_0 rfl (lv_at hl 0 rfl) ?_
  refine jkV (wr := []) (rnV (As := []) (rest := []) hx hb hml hown hE hK (hN _ _ hS) hP hD (v_checkPower l D dA H.size h ad x ho) (q0 := 0) rfl rfl w278 w276 w279 w280 w277 rfl rfl ⟨⟨by decide, by decide⟩, rfl⟩ ⟨(Nat.le_of_ble_eq_true rfl), (Nat.le_of_ble_eq_true rfl)⟩ rfl hl.1 rfl (Nat.le_of_ble_eq_true rfl) d_V_series_1 ⟨(show 0 + 0 ≤ 32 + 6 * (x.jcap - x.jN) by omega), (show 0 + 0 ≤ 930 + 12 * (x.jcap - x.jN) by omega)⟩) hP hD hS hA (fun u2 H locs hp9 hP hD hS => ?_)
  have hP : va_P D vwCl (VW dA h ad x) H := hP
  have hD : va_D A (VW dA h ad x) := hD
  refine lv_aload_n hx hb d_V_series_4 rfl (lv_at hl 0 rfl) ?_
  refine gF (v := .ref (ad 18)) hx hb hown hE hK hP 0 rfl rfl layV 14 (by decide) w608 rfl d_V_series_5 ?_
  refine lv_aload_n hx hb d_V_series_8 rfl (lv_at hl 0 rfl) ?_
  refine gF (v := .ref x.tpA) hx hb hown hE hK hP 0 rfl rfl layV 0 (by decide) w539 rfl d_V_series_9 ?_
  refine lv_aload_n hx hb d_V_series_12 rfl (lv_at hl 0 rfl) ?_
  refine gF (v := .int (nI x.tapeLength)) hx hb hown hE hK hP 0 rfl rfl layV 1 (by decide) w259 rfl d_V_series_13 ?_
  refine jkI (wr := []) (rnV (As := [.ref x.tpA, .int (nI x.tapeLength)]) (rest := []) hx hb hml hown hE hK (hN _ _ hS) hP hD (v_read l D dA H.size h ad x x.tapeLength htl h3) (q0 := 32) rfl rfl w610 w609 w611 w612 w596 rfl rfl ⟨⟨by decide, by decide⟩, rfl⟩ ⟨(Nat.le_of_ble_eq_true rfl), (Nat.le_of_ble_eq_true rfl)⟩ rfl hl.1 rfl (Nat.le_of_ble_eq_true rfl) d_V_series_16 ⟨(show 0 + 0 + 0 ≤ 32 + 6 * (x.jcap - x.jN) by omega), (show 0 + 0 + 0 ≤ 930 + 12 * (x.jcap - x.jN) by omega)⟩) hP hD hS hA (fun r3 u4 H locs hp9 hP hD hS => ?_)
  obtain ⟨y5, h9u⟩ : ∃ z9, z9 = u4 := ⟨_, rfl⟩
  subst h9u
  have hP : va_P D vwCl (VW dA h ad y5) H := hP
  have hD : va_D A (VW dA h ad y5) := hD
  have f_r_6 := hp9
  obtain ⟨hlb, hl6, hl0, e9, ey⟩ := rd_inr hrd f_r_6
  subst e9
  subst ey
  have hP : va_P D vwCl (VW dA h ad (VS.s_rlab (VS.s_rV (VS.s_rE (VS.s_rS x fS) fE) fV) nl)) H := hP
  have hD : va_D A (VW dA h ad (VS.s_rlab (VS.s_rV (VS.s_rE (VS.s_rS x fS) fE) fV) nl)) := hD
  refine lv_if_ne hx hb d_V_series_19 (tgt := 47) rfl (fun _ => ?_) (fun h9 => absurd h9 (by decide))
  refine lv_aload_n hx hb d_V_series_47 rfl (lv_at hl 0 rfl) ?_
  refine gF (v := .ref (ad 18)) hx hb hown hE hK hP 0 rfl rfl layV 14 (by decide) w608 rfl d_V_series_48 ?_
  refine lv_aload_n hx hb d_V_series_51 rfl (lv_at hl 0 rfl) ?_
  refine gF (v := .ref x.tpA) hx hb hown hE hK hP 0 rfl rfl layV 0 (by decide) w539 rfl d_V_series_52 ?_
  refine jkR (wr := []) (rnV (As := [.ref x.tpA]) (rest := []) hx hb hml hown hE hK (hN _ _ hS) hP hD (v_made l D dA H.size h ad (VS.s_rlab (VS.s_rV (VS.s_rE (VS.s_rS x fS) fE) fV) nl) x.tapeLength hby htl h3 hl6 hlb) (q0 := 32) rfl rfl w1735 w1734 w1736 w1737 w596 rfl rfl ⟨⟨by decide, by decide⟩, rfl⟩ ⟨(Nat.le_of_ble_eq_true rfl), (Nat.le_of_ble_eq_true rfl)⟩ rfl hl.1 rfl (Nat.le_of_ble_eq_true rfl) d_V_series_55 ⟨(show 0 + 0 + 0 + 32 ≤ 32 + 6 * (x.jcap - x.jN) by omega), (show 0 + 0 + 0 + 930 ≤ 930 + 12 * (x.jcap - x.jN) by omega)⟩) hP hD hS hA (fun u7 mp H locs hp9 hP hD hS => ?_)
  obtain ⟨y8, h9u⟩ : ∃ z9, z9 = u7 := ⟨_, rfl⟩
  subst h9u
  have hP : va_P D vwCl (VW dA h ad y8) H := hP
  have hD : va_D A (VW dA h ad y8) := hD
  obtain ⟨f_k_9, f_w_10⟩ := hp9
  obtain ⟨hy, hsub⟩ := f_k_9
  have hsr := f_w_10
  obtain ⟨pl1, epl⟩ : ∃ z, z = y8.pl := ⟨_, rfl⟩
  rw [← epl] at hy hsub hsr
  subst hy
  have hP : va_P D vwCl (VW dA h ad (VS.s_pl (VS.s_rlab (VS.s_rV (VS.s_rE (VS.s_rS x fS) fE) fV) nl) pl1)) H := hP
  have hD : va_D A (VW dA h ad (VS.s_pl (VS.s_rlab (VS.s_rV (VS.s_rE (VS.s_rS x fS) fE) fV) nl) pl1)) := hD
  have hso : serOk (srtL x.tape fS fE fV nl) := srt_sOk hlb hl6
  have hkn1 := knOk_m hsub hkn
  refine lv_astore_n hx hb d_V_series_58 rfl hl (by decide) rfl (fun ls hl => ?_)
  have hl : lv_has ls 3 [(1, .ref mp), (0, .ref h)] := hl
  refine lv_aload_n hx hb d_V_series_59 rfl (lv_at hl 1 rfl) ?_
  refine lv_aload_n hx hb d_V_series_60 rfl (lv_at hl 0 rfl) ?_
  refine jkI (wr := []) (rnV (As := [.ref mp]) (rest := []) hx hb hml hown hE hK (hN _ _ hS) hP hD (v_numberOf l D dA H.size h ad (VS.s_pl (VS.s_rlab (VS.s_rV (VS.s_rE (VS.s_rS x fS) fE) fV) nl) pl1) SS mp (srtL x.tape fS fE fV nl) hkn1 (show x.nser ≤ 256 from by omega) hsr hso) (q0 := 0) rfl rfl w1739 w1738 w1740 w1741 w277 rfl rfl ⟨⟨by decide, by decide⟩, rfl⟩ ⟨(Nat.le_of_ble_eq_true rfl), (Nat.le_of_ble_eq_true rfl)⟩ rfl hl.1 rfl (Nat.le_of_ble_eq_true rfl) d_V_series_61 ⟨(show 0 + 0 + 0 + 32 + 0 ≤ 32 + 6 * (x.jcap - x.jN) by omega), (show 0 + 0 + 0 + 930 + 0 ≤ 930 + 12 * (x.jcap - x.jN) by omega)⟩) hP hD hS hA (fun r11 u12 H locs hp9 hP hD hS => ?_)
  have hP : va_P D vwCl (VW dA h ad (VS.s_pl (VS.s_rlab (VS.s_rV (VS.s_rE (VS.s_rS x fS) fE) fV) nl) pl1)) H := hP
  have hD : va_D A (VW dA h ad (VS.s_pl (VS.s_rlab (VS.s_rV (VS.s_rE (VS.s_rS x fS) fE) fV) nl) pl1)) := hD
  replace hp9 : nI (nuN SS (srtL x.tape fS fE fV nl) x.nser) = r11 := Eq.symm hp9
  subst hp9
  refine tpi (y := nI x.nser) (by rw [hnu]) ?_
  refine lv_istore_n hx hb d_V_series_64 rfl hl (by decide) rfl (fun ls hl => ?_)
  have hl : lv_has ls 3 [(2, .int (nI x.nser)), (1, .ref mp), (0, .ref h)] := hl
  refine lv_iload_n hx hb d_V_series_65 rfl (lv_at hl 0 rfl) ?_
  refine lv_aload_n hx hb d_V_series_66 rfl (lv_at hl 2 rfl) ?_
  refine gF (v := .ref (ad 3)) hx hb hown hE hK hP 0 rfl rfl layV 11 (by decide) w297 rfl d_V_series_67 ?_
  refine gFN (v := .int (nI x.nser)) hx hb hown hE hK hP 17 rfl rfl layH 8 (by decide) w298 rfl d_V_series_70 ?_
  refine lv_icmp_ne hx hb d_V_series_73 (tgt := 81) rfl (fun g13 => ?_) (fun g13 => ?_)
  · have g13 := mt (nI_eq (a := x.nser) (b := x.nser) (by omega) (by omega)).mpr g13; exfalso; omega
  have g13 := (nI_eq (a := x.nser) (b := x.nser) (by omega) (by omega)).mp g13
  refine lv_aload_n hx hb d_V_series_76 rfl (lv_at hl 2 rfl) ?_
  refine lv_aload_n hx hb d_V_series_77 rfl (lv_at hl 1 rfl) ?_
  refine jkV (wr := []) (rnV (As := [.ref mp]) (rest := []) hx hb hml hown hE hK (hN _ _ hS) hP hD (v_addNewSeries l D dA H.size h ad (VS.s_pl (VS.s_rlab (VS.s_rV (VS.s_rE (VS.s_rS x fS) fE) fV) nl) pl1) mp (srtL x.tape fS fE fV nl) hsr hso (show x.jblock + 1 < 2 ^ 31 from by omega) (show x.jlimit < 2 ^ 31 from by omega) (show x.jfill ≤ 126 from by omega) (show x.jsize ≤ x.jN from by omega) (show 0 < x.jN from by omega) (show x.jN ≤ 65536 from by omega) (show x.nser < 256 from by omega) hro hcr) (q0 := 0) rfl rfl w1743 w1742 w1744 w1745 w277 rfl rfl ⟨⟨by decide, by decide⟩, rfl⟩ ⟨(Nat.le_of_ble_eq_true rfl), (Nat.le_of_ble_eq_true rfl)⟩ rfl hl.1 rfl (Nat.le_of_ble_eq_true rfl) d_V_series_78 ⟨(show 0 + 0 + 0 + 32 + 0 + (6 * (x.jcap - x.jN)) ≤ 32 + 6 * (x.jcap - x.jN) by omega), (show 0 + 0 + 0 + 930 + 0 + (12 * (x.jcap - x.jN)) ≤ 930 + 12 * (x.jcap - x.jN) by omega)⟩) hP hD hS hA (fun u15 H locs hp9 hP hD hS => ?_)
  obtain ⟨y16, h9u⟩ : ∃ z9, z9 = u15 := ⟨_, rfl⟩
  subst h9u
  have hP : va_P D vwCl (VW dA h ad y16) H := hP
  have hD : va_D A (VW dA h ad y16) := hD
  have f_e_17 := hp9
  obtain ⟨ja, eja⟩ := f_e_17
  refine lv_aload_n hx hb d_V_series_81 rfl (lv_at hl 2 rfl) ?_
  refine lv_iconst (v := 0) hx hb d_V_series_82 (by decide) ?_
  refine pF (v := .int (nI 0)) hx hb hown hE hK hP hD hS 0 rfl rfl layV tyV tokV nmV 1 (by decide) w259 rfl rfl rfl (Nat.le_of_ble_eq_true rfl) d_V_series_83 (fun H locs hP hD hS => ?_)
  have hP : va_P D vwCl (VW dA h ad (VS.s_tapeLength y16 0)) H := hP
  have hD : va_D A (VW dA h ad (VS.s_tapeLength y16 0)) := hD
  refine lv_aload_n hx hb d_V_series_86 rfl (lv_at hl 2 rfl) ?_
  refine lv_iconst (v := 0) hx hb d_V_series_87 (by decide) ?_
  refine lv_iconst (v := 0) hx hb d_V_series_88 (by decide) ?_
  refine jkV (wr := []) (rnV (As := [.int 0, .int 0]) (rest := []) hx hb hml hown hE hK (hN _ _ hS) hP hD (v_setFault l D dA H.size h ad (VS.s_tapeLength y16 0) 0 0) (q0 := 0) rfl rfl w616 w615 w617 w618 w277 rfl rfl ⟨⟨by decide, by decide⟩, rfl⟩ ⟨(Nat.le_of_ble_eq_true rfl), (Nat.le_of_ble_eq_true rfl)⟩ rfl hl.1 rfl (Nat.le_of_ble_eq_true rfl) d_V_series_89 ⟨(show 0 + 0 + 0 + 32 + 0 + (6 * (x.jcap - x.jN)) + 0 ≤ 32 + 6 * (x.jcap - x.jN) by omega), (show 0 + 0 + 0 + 930 + 0 + (12 * (x.jcap - x.jN)) + 0 ≤ 930 + 12 * (x.jcap - x.jN) by omega)⟩) hP hD hS hA (fun u19 H locs hp9 hP hD hS => ?_)
  have hP : va_P D vwCl (VW dA h ad (VS.s_faultPlace (VS.s_faultCode (VS.s_tapeLength y16 0) 0) 0)) H := hP
  have hD : va_D A (VW dA h ad (VS.s_faultPlace (VS.s_faultCode (VS.s_tapeLength y16 0) 0) 0)) := hD
  refine lv_iload_n hx hb d_V_series_92 rfl (lv_at hl 0 rfl) ?_
  exact rfI hx hb hr hlk hS (VS.s_faultPlace (VS.s_faultCode (VS.s_tapeLength y16 0) 0) 0) ⟨rfl, pl1, mp, ja, hsub, hsr, by rw [eja]; rfl⟩ hP hD (show 0 + 0 + 0 + 32 + 0 + (6 * (x.jcap - x.jN)) + 0 ≤ 32 + 6 * (x.jcap - x.jN) by omega) (show 0 + 0 + 0 + 930 + 0 + (12 * (x.jcap - x.jN)) + 0 ≤ 930 + 12 * (x.jcap - x.jN) by omega) d_V_series_93
set_option maxHeartbeats 4000000 in
set_option maxRecDepth 100000 in
theorem v_series_u (l : Launch) (htr : l.stackTraces = false) (D : va_G) (dA : Nat → ClassId) (sz : Nat) (h : Nat) (ad : Nat → Nat) (x : VS) (SS : Nat → List LB) (nl : Nat) (fS : Nat → Nat) (fE : Nat → Nat) (fV : Nat → Nat) (ho : x.powered = true) (hby : byteF x.tape) (htl : x.tapeLength ≤ x.tpN) (h3 : x.tpN ≤ 131072) (hkn : knOk dA x.kn x.nser x.pl SS) (hn : x.nser ≤ 256) (hrd : rdC x.tape x.tapeLength 7 0 0 x.rS x.rE x.rV = .inr (nl, fS, fE, fV)) (hnu : nuN SS (srtL x.tape fS fE fV nl) x.nser = x.nser) (hbu : x.jblock + 1 < 2 ^ 31) (hlu : x.jlimit < 2 ^ 31) (hfl : x.jfill ≤ 126) (hro : x.nser < 256 → x.room (1 + ((joinT (srtL x.tape fS fE fV nl)).length + 32 - 1) / 32) = false) : mX l ⟨"SeriesVault", "series", "()I"⟩ [Cond.code ⟨"SeriesVault", "series", "()I"⟩ prog_1_method_23_code 3 (some FieldType.int)] { frames := 7, cells := 33, slots := 936, locals := 158 } (pC D dA [.ref h] (VW dA h ad x) sz) "java/lang/UnsupportedOperationException" (fun st9 t9 => va_F (va_A (VW dA h ad x) sz) st9 t9 ∧ ∃ u9 : VS, ((∃ pl1 : va_W, (∀ c, c ∈ x.pl → c ∈ pl1) ∧ u9 = x.sbS nl fS fE fV pl1)) ∧ bW D (va_A (VW dA h ad x) sz) (VW dA h ad u9) t9) 33 936 (va_A (VW dA h ad x) sz) := by
  refine mkX (y := ⟨"SeriesVault", "series", "()I"⟩) (cc := prog_1_method_23_code) (maxL := 3) (av := [.ref h]) (ws := VW dA h ad x) (sz := sz) (B := fun A => (fun st9 t9 => va_F A st9 t9 ∧ ∃ u9 : VS, ((∃ pl1 : va_W, (∀ c, c ∈ x.pl → c ∈ pl1) ∧ u9 = x.sbS nl fS fE fV pl1)) ∧ bW D A (VW dA h ad u9) t9)) (by decide) (Nat.le_of_ble_eq_true rfl) ?_
  intro A p e s m below meth c ls hsz hno hB
  obtain ⟨hx, hb, hr, hml, hown, hin, hlk, hE, hK, hP, hD, hS, hA, hN, hl⟩ := hB
  have hown : s.vm.findClass "SeriesVault" = some m.cls := hown
  have hl : lv_has ls 3 [(0, .ref h)] := hl
  obtain ⟨H, hH⟩ : ∃ z, z = s.heap := ⟨_, rfl⟩
  have hP : va_P D vwCl (VW dA h ad x) H := by rw [hH]; exact hP
  have hS : va_S A s.heap H [] := by rw [hH]; exact hS
  rw [← hH]
  refine lv_aload_n hx hb d_V_series_0 rfl (lv_at hl 0 rfl) ?_
  refine jkV (wr := []) (rnV (As := []) (rest := []) hx hb hml hown hE hK (hN _ _ hS) hP hD (v_checkPower l D dA H.size h ad x ho) (q0 := 0) rfl rfl w278 w276 w279 w280 w277 rfl rfl ⟨⟨by decide, by decide⟩, rfl⟩ ⟨(Nat.le_of_ble_eq_true rfl), (Nat.le_of_ble_eq_true rfl)⟩ rfl hl.1 rfl (Nat.le_of_ble_eq_true rfl) d_V_series_1 ⟨(show 0 + 0 ≤ 33 by omega), (show 0 + 0 ≤ 936 by omega)⟩) hP hD hS hA (fun u2 H locs hp9 hP hD hS => ?_)
  have hP : va_P D vwCl (VW dA h ad x) H := hP
  have hD : va_D A (VW dA h ad x) := hD
  refine lv_aload_n hx hb d_V_series_4 rfl (lv_at hl 0 rfl) ?_
  refine gF (v := .ref (ad 18)) hx hb hown hE hK hP 0 rfl rfl layV 14 (by decide) w608 rfl d_V_series_5 ?_
  refine lv_aload_n hx hb d_V_series_8 rfl (lv_at hl 0 rfl) ?_
  refine gF (v := .ref x.tpA) hx hb hown hE hK hP 0 rfl rfl layV 0 (by decide) w539 rfl d_V_series_9 ?_
  refine lv_aload_n hx hb d_V_series_12 rfl (lv_at hl 0 rfl) ?_
  refine gF (v := .int (nI x.tapeLength)) hx hb hown hE hK hP 0 rfl rfl layV 1 (by decide) w259 rfl d_V_series_13 ?_
  refine jkI (wr := []) (rnV (As := [.ref x.tpA, .int (nI x.tapeLength)]) (rest := []) hx hb hml hown hE hK (hN _ _ hS) hP hD (v_read l D dA H.size h ad x x.tapeLength htl h3) (q0 := 32) rfl rfl w610 w609 w611 w612 w596 rfl rfl ⟨⟨by decide, by decide⟩, rfl⟩ ⟨(Nat.le_of_ble_eq_true rfl), (Nat.le_of_ble_eq_true rfl)⟩ rfl hl.1 rfl (Nat.le_of_ble_eq_true rfl) d_V_series_16 ⟨(show 0 + 0 + 0 ≤ 33 by omega), (show 0 + 0 + 0 ≤ 936 by omega)⟩) hP hD hS hA (fun r3 u4 H locs hp9 hP hD hS => ?_)
  obtain ⟨y5, h9u⟩ : ∃ z9, z9 = u4 := ⟨_, rfl⟩
  subst h9u
  have hP : va_P D vwCl (VW dA h ad y5) H := hP
  have hD : va_D A (VW dA h ad y5) := hD
  have f_r_6 := hp9
  obtain ⟨hlb, hl6, hl0, e9, ey⟩ := rd_inr hrd f_r_6
  subst e9
  subst ey
  have hP : va_P D vwCl (VW dA h ad (VS.s_rlab (VS.s_rV (VS.s_rE (VS.s_rS x fS) fE) fV) nl)) H := hP
  have hD : va_D A (VW dA h ad (VS.s_rlab (VS.s_rV (VS.s_rE (VS.s_rS x fS) fE) fV) nl)) := hD
  refine lv_if_ne hx hb d_V_series_19 (tgt := 47) rfl (fun _ => ?_) (fun h9 => absurd h9 (by decide))
  refine lv_aload_n hx hb d_V_series_47 rfl (lv_at hl 0 rfl) ?_
  refine gF (v := .ref (ad 18)) hx hb hown hE hK hP 0 rfl rfl layV 14 (by decide) w608 rfl d_V_series_48 ?_
  refine lv_aload_n hx hb d_V_series_51 rfl (lv_at hl 0 rfl) ?_
  refine gF (v := .ref x.tpA) hx hb hown hE hK hP 0 rfl rfl layV 0 (by decide) w539 rfl d_V_series_52 ?_
  refine jkR (wr := []) (rnV (As := [.ref x.tpA]) (rest := []) hx hb hml hown hE hK (hN _ _ hS) hP hD (v_made l D dA H.size h ad (VS.s_rlab (VS.s_rV (VS.s_rE (VS.s_rS x fS) fE) fV) nl) x.tapeLength hby htl h3 hl6 hlb) (q0 := 32) rfl rfl w1735 w1734 w1736 w1737 w596 rfl rfl ⟨⟨by decide, by decide⟩, rfl⟩ ⟨(Nat.le_of_ble_eq_true rfl), (Nat.le_of_ble_eq_true rfl)⟩ rfl hl.1 rfl (Nat.le_of_ble_eq_true rfl) d_V_series_55 ⟨(show 0 + 0 + 0 + 32 ≤ 33 by omega), (show 0 + 0 + 0 + 930 ≤ 936 by omega)⟩) hP hD hS hA (fun u7 mp H locs hp9 hP hD hS => ?_)
  obtain ⟨y8, h9u⟩ : ∃ z9, z9 = u7 := ⟨_, rfl⟩
  subst h9u
  have hP : va_P D vwCl (VW dA h ad y8) H := hP
  have hD : va_D A (VW dA h ad y8) := hD
  obtain ⟨f_k_9, f_w_10⟩ := hp9
  obtain ⟨hy, hsub⟩ := f_k_9
  have hsr := f_w_10
  obtain ⟨pl1, epl⟩ : ∃ z, z = y8.pl := ⟨_, rfl⟩
  rw [← epl] at hy hsub hsr
  subst hy
  have hP : va_P D vwCl (VW dA h ad (VS.s_pl (VS.s_rlab (VS.s_rV (VS.s_rE (VS.s_rS x fS) fE) fV) nl) pl1)) H := hP
  have hD : va_D A (VW dA h ad (VS.s_pl (VS.s_rlab (VS.s_rV (VS.s_rE (VS.s_rS x fS) fE) fV) nl) pl1)) := hD
  have hso : serOk (srtL x.tape fS fE fV nl) := srt_sOk hlb hl6
  have hkn1 := knOk_m hsub hkn
  refine lv_astore_n hx hb d_V_series_58 rfl hl (by decide) rfl (fun ls hl => ?_)
  have hl : lv_has ls 3 [(1, .ref mp), (0, .ref h)] := hl
  refine lv_aload_n hx hb d_V_series_59 rfl (lv_at hl 1 rfl) ?_
  refine lv_aload_n hx hb d_V_series_60 rfl (lv_at hl 0 rfl) ?_
  refine jkI (wr := []) (rnV (As := [.ref mp]) (rest := []) hx hb hml hown hE hK (hN _ _ hS) hP hD (v_numberOf l D dA H.size h ad (VS.s_pl (VS.s_rlab (VS.s_rV (VS.s_rE (VS.s_rS x fS) fE) fV) nl) pl1) SS mp (srtL x.tape fS fE fV nl) hkn1 (show x.nser ≤ 256 from by omega) hsr hso) (q0 := 0) rfl rfl w1739 w1738 w1740 w1741 w277 rfl rfl ⟨⟨by decide, by decide⟩, rfl⟩ ⟨(Nat.le_of_ble_eq_true rfl), (Nat.le_of_ble_eq_true rfl)⟩ rfl hl.1 rfl (Nat.le_of_ble_eq_true rfl) d_V_series_61 ⟨(show 0 + 0 + 0 + 32 + 0 ≤ 33 by omega), (show 0 + 0 + 0 + 930 + 0 ≤ 936 by omega)⟩) hP hD hS hA (fun r11 u12 H locs hp9 hP hD hS => ?_)
  have hP : va_P D vwCl (VW dA h ad (VS.s_pl (VS.s_rlab (VS.s_rV (VS.s_rE (VS.s_rS x fS) fE) fV) nl) pl1)) H := hP
  have hD : va_D A (VW dA h ad (VS.s_pl (VS.s_rlab (VS.s_rV (VS.s_rE (VS.s_rS x fS) fE) fV) nl) pl1)) := hD
  replace hp9 : nI (nuN SS (srtL x.tape fS fE fV nl) x.nser) = r11 := Eq.symm hp9
  subst hp9
  refine tpi (y := nI x.nser) (by rw [hnu]) ?_
  refine lv_istore_n hx hb d_V_series_64 rfl hl (by decide) rfl (fun ls hl => ?_)
  have hl : lv_has ls 3 [(2, .int (nI x.nser)), (1, .ref mp), (0, .ref h)] := hl
  refine lv_iload_n hx hb d_V_series_65 rfl (lv_at hl 0 rfl) ?_
  refine lv_aload_n hx hb d_V_series_66 rfl (lv_at hl 2 rfl) ?_
  refine gF (v := .ref (ad 3)) hx hb hown hE hK hP 0 rfl rfl layV 11 (by decide) w297 rfl d_V_series_67 ?_
  refine gFN (v := .int (nI x.nser)) hx hb hown hE hK hP 17 rfl rfl layH 8 (by decide) w298 rfl d_V_series_70 ?_
  refine lv_icmp_ne hx hb d_V_series_73 (tgt := 81) rfl (fun g13 => ?_) (fun g13 => ?_)
  · have g13 := mt (nI_eq (a := x.nser) (b := x.nser) (by omega) (by omega)).mpr g13; exfalso; omega
  have g13 := (nI_eq (a := x.nser) (b := x.nser) (by omega) (by omega)).mp g13
  refine lv_aload_n hx hb d_V_series_76 rfl (lv_at hl 2 rfl) ?_
  refine lv_aload_n hx hb d_V_series_77 rfl (lv_at hl 1 rfl) ?_
  refine xkV (wr := []) (As := [.ref mp]) (rest := []) hx hb hml hown hE hK (hN _ _ hS) (v_addNewSeries_u l htr D dA H.size h ad (VS.s_pl (VS.s_rlab (VS.s_rV (VS.s_rE (VS.s_rS x fS) fE) fV) nl) pl1) mp (srtL x.tape fS fE fV nl) hsr hso (show x.jblock + 1 < 2 ^ 31 from by omega) (show x.jlimit < 2 ^ 31 from by omega) (show x.jfill ≤ 126 from by omega) (show x.nser ≤ 256 from by omega) hro) (q0 := 0) rfl rfl w1743 w1742 w1744 w1745 w277 rfl rfl ⟨⟨by decide, by decide⟩, rfl⟩ ⟨(Nat.le_of_ble_eq_true rfl), (Nat.le_of_ble_eq_true rfl)⟩ rfl hl.1 rfl (Nat.le_of_ble_eq_true rfl) d_V_series_78 ⟨(show 0 + 0 + 0 + 32 + 0 + 1 ≤ 33 by omega), (show 0 + 0 + 0 + 930 + 0 + 6 ≤ 936 by omega)⟩ hP hD hS hA (fun u15 xa14 ce H locs hp9 hP hD hS hce hcv hcl => ?_)
  have hP : va_P D vwCl (VW dA h ad (VS.s_pl (VS.s_rlab (VS.s_rV (VS.s_rE (VS.s_rS x fS) fE) fV) nl) pl1)) H := hP
  have hD : va_D A (VW dA h ad (VS.s_pl (VS.s_rlab (VS.s_rV (VS.s_rE (VS.s_rS x fS) fE) fV) nl) pl1)) := hD
  exact xOut hno hlk hce hcv hcl (fun t ht => xkE (VS.s_pl (VS.s_rlab (VS.s_rV (VS.s_rE (VS.s_rS x fS) fE) fV) nl) pl1) ⟨pl1, hsub, rfl⟩ hP hD hS t (by rw [ht]; exact Nat.le_refl _) (fun q _ => by rw [ht])) hS.2.2 (show 0 + 0 + 0 + 32 + 0 + 1 ≤ 33 by omega) (show 0 + 0 + 0 + 930 + 0 + 6 ≤ 936 by omega)
set_option maxHeartbeats 4000000 in
set_option maxRecDepth 100000 in
theorem v_series_i (l : Launch) (htr : l.stackTraces = false) (D : va_G) (dA : Nat → ClassId) (sz : Nat) (h : Nat) (ad : Nat → Nat) (x : VS) (SS : Nat → List LB) (nl : Nat) (fS : Nat → Nat) (fE : Nat → Nat) (fV : Nat → Nat) (ho : x.powered = true) (hby : byteF x.tape) (htl : x.tapeLength ≤ x.tpN) (h3 : x.tpN ≤ 131072) (hkn : knOk dA x.kn x.nser x.pl SS) (hn : x.nser ≤ 256) (hrd : rdC x.tape x.tapeLength 7 0 0 x.rS x.rE x.rV = .inr (nl, fS, fE, fV)) (hnu : nuN SS (srtL x.tape fS fE fV nl) x.nser = x.nser) (hbu : x.jblock + 1 < 2 ^ 31) (hlu : x.jlimit < 2 ^ 31) (hfl : x.jfill ≤ 126) (hx0 : x.nser < 256) (hro : x.room (1 + ((joinT (srtL x.tape fS fE fV nl)).length + 32 - 1) / 32) = true) (c1 : 126 < x.jfill + (1 + ((joinT (srtL x.tape fS fE fV nl)).length + 32 - 1) / 32)) (hc2 : x.jch = true) (hc : x.cutLeft = 0) : mX l ⟨"SeriesVault", "series", "()I"⟩ [Cond.code ⟨"SeriesVault", "series", "()I"⟩ prog_1_method_23_code 3 (some FieldType.int)] { frames := 10, cells := 33, slots := 936, locals := 170 } (pC D dA [.ref h] (VW dA h ad x) sz) "java/lang/IllegalStateException" (fun st9 t9 => va_F (va_A (VW dA h ad x) sz) st9 t9 ∧ ∃ u9 : VS, ((∃ pl1 : va_W, (∀ c, c ∈ x.pl → c ∈ pl1) ∧ u9 = (x.sbS nl fS fE fV pl1).off1)) ∧ bW D (va_A (VW dA h ad x) sz) (VW dA h ad u9) t9) 33 936 (va_A (VW dA h ad x) sz) := by
  refine mkX (y := ⟨"SeriesVault", "series", "()I"⟩) (cc := prog_1_method_23_code) (maxL := 3) (av := [.ref h]) (ws := VW dA h ad x) (sz := sz) (B := fun A => (fun st9 t9 => va_F A st9 t9 ∧ ∃ u9 : VS, ((∃ pl1 : va_W, (∀ c, c ∈ x.pl → c ∈ pl1) ∧ u9 = (x.sbS nl fS fE fV pl1).off1)) ∧ bW D A (VW dA h ad u9) t9)) (by decide) (Nat.le_of_ble_eq_true rfl) ?_
  intro A p e s m below meth c ls hsz hno hB
  obtain ⟨hx, hb, hr, hml, hown, hin, hlk, hE, hK, hP, hD, hS, hA, hN, hl⟩ := hB
  have hown : s.vm.findClass "SeriesVault" = some m.cls := hown
  have hl : lv_has ls 3 [(0, .ref h)] := hl
  obtain ⟨H, hH⟩ : ∃ z, z = s.heap := ⟨_, rfl⟩
  have hP : va_P D vwCl (VW dA h ad x) H := by rw [hH]; exact hP
  have hS : va_S A s.heap H [] := by rw [hH]; exact hS
  rw [← hH]
  refine lv_aload_n hx hb d_V_series_0 rfl (lv_at hl 0 rfl) ?_
  refine jkV (wr := []) (rnV (As := []) (rest := []) hx hb hml hown hE hK (hN _ _ hS) hP hD (v_checkPower l D dA H.size h ad x ho) (q0 := 0) rfl rfl w278 w276 w279 w280 w277 rfl rfl ⟨⟨by decide, by decide⟩, rfl⟩ ⟨(Nat.le_of_ble_eq_true rfl), (Nat.le_of_ble_eq_true rfl)⟩ rfl hl.1 rfl (Nat.le_of_ble_eq_true rfl) d_V_series_1 ⟨(show 0 + 0 ≤ 33 by omega), (show 0 + 0 ≤ 936 by omega)⟩) hP hD hS hA (fun u2 H locs hp9 hP hD hS => ?_)
  have hP : va_P D vwCl (VW dA h ad x) H := hP
  have hD : va_D A (VW dA h ad x) := hD
  refine lv_aload_n hx hb d_V_series_4 rfl (lv_at hl 0 rfl) ?_
  refine gF (v := .ref (ad 18)) hx hb hown hE hK hP 0 rfl rfl layV 14 (by decide) w608 rfl d_V_series_5 ?_
  refine lv_aload_n hx hb d_V_series_8 rfl (lv_at hl 0 rfl) ?_
  refine gF (v := .ref x.tpA) hx hb hown hE hK hP 0 rfl rfl layV 0 (by decide) w539 rfl d_V_series_9 ?_
  refine lv_aload_n hx hb d_V_series_12 rfl (lv_at hl 0 rfl) ?_
  refine gF (v := .int (nI x.tapeLength)) hx hb hown hE hK hP 0 rfl rfl layV 1 (by decide) w259 rfl d_V_series_13 ?_
  refine jkI (wr := []) (rnV (As := [.ref x.tpA, .int (nI x.tapeLength)]) (rest := []) hx hb hml hown hE hK (hN _ _ hS) hP hD (v_read l D dA H.size h ad x x.tapeLength htl h3) (q0 := 32) rfl rfl w610 w609 w611 w612 w596 rfl rfl ⟨⟨by decide, by decide⟩, rfl⟩ ⟨(Nat.le_of_ble_eq_true rfl), (Nat.le_of_ble_eq_true rfl)⟩ rfl hl.1 rfl (Nat.le_of_ble_eq_true rfl) d_V_series_16 ⟨(show 0 + 0 + 0 ≤ 33 by omega), (show 0 + 0 + 0 ≤ 936 by omega)⟩) hP hD hS hA (fun r3 u4 H locs hp9 hP hD hS => ?_)
  obtain ⟨y5, h9u⟩ : ∃ z9, z9 = u4 := ⟨_, rfl⟩
  subst h9u
  have hP : va_P D vwCl (VW dA h ad y5) H := hP
  have hD : va_D A (VW dA h ad y5) := hD
  have f_r_6 := hp9
  obtain ⟨hlb, hl6, hl0, e9, ey⟩ := rd_inr hrd f_r_6
  subst e9
  subst ey
  have hP : va_P D vwCl (VW dA h ad (VS.s_rlab (VS.s_rV (VS.s_rE (VS.s_rS x fS) fE) fV) nl)) H := hP
  have hD : va_D A (VW dA h ad (VS.s_rlab (VS.s_rV (VS.s_rE (VS.s_rS x fS) fE) fV) nl)) := hD
  refine lv_if_ne hx hb d_V_series_19 (tgt := 47) rfl (fun _ => ?_) (fun h9 => absurd h9 (by decide))
  refine lv_aload_n hx hb d_V_series_47 rfl (lv_at hl 0 rfl) ?_
  refine gF (v := .ref (ad 18)) hx hb hown hE hK hP 0 rfl rfl layV 14 (by decide) w608 rfl d_V_series_48 ?_
  refine lv_aload_n hx hb d_V_series_51 rfl (lv_at hl 0 rfl) ?_
  refine gF (v := .ref x.tpA) hx hb hown hE hK hP 0 rfl rfl layV 0 (by decide) w539 rfl d_V_series_52 ?_
  refine jkR (wr := []) (rnV (As := [.ref x.tpA]) (rest := []) hx hb hml hown hE hK (hN _ _ hS) hP hD (v_made l D dA H.size h ad (VS.s_rlab (VS.s_rV (VS.s_rE (VS.s_rS x fS) fE) fV) nl) x.tapeLength hby htl h3 hl6 hlb) (q0 := 32) rfl rfl w1735 w1734 w1736 w1737 w596 rfl rfl ⟨⟨by decide, by decide⟩, rfl⟩ ⟨(Nat.le_of_ble_eq_true rfl), (Nat.le_of_ble_eq_true rfl)⟩ rfl hl.1 rfl (Nat.le_of_ble_eq_true rfl) d_V_series_55 ⟨(show 0 + 0 + 0 + 32 ≤ 33 by omega), (show 0 + 0 + 0 + 930 ≤ 936 by omega)⟩) hP hD hS hA (fun u7 mp H locs hp9 hP hD hS => ?_)
  obtain ⟨y8, h9u⟩ : ∃ z9, z9 = u7 := ⟨_, rfl⟩
  subst h9u
  have hP : va_P D vwCl (VW dA h ad y8) H := hP
  have hD : va_D A (VW dA h ad y8) := hD
  obtain ⟨f_k_9, f_w_10⟩ := hp9
  obtain ⟨hy, hsub⟩ := f_k_9
  have hsr := f_w_10
  obtain ⟨pl1, epl⟩ : ∃ z, z = y8.pl := ⟨_, rfl⟩
  rw [← epl] at hy hsub hsr
  subst hy
  have hP : va_P D vwCl (VW dA h ad (VS.s_pl (VS.s_rlab (VS.s_rV (VS.s_rE (VS.s_rS x fS) fE) fV) nl) pl1)) H := hP
  have hD : va_D A (VW dA h ad (VS.s_pl (VS.s_rlab (VS.s_rV (VS.s_rE (VS.s_rS x fS) fE) fV) nl) pl1)) := hD
  have hso : serOk (srtL x.tape fS fE fV nl) := srt_sOk hlb hl6
  have hkn1 := knOk_m hsub hkn
  refine lv_astore_n hx hb d_V_series_58 rfl hl (by decide) rfl (fun ls hl => ?_)
  have hl : lv_has ls 3 [(1, .ref mp), (0, .ref h)] := hl
  refine lv_aload_n hx hb d_V_series_59 rfl (lv_at hl 1 rfl) ?_
  refine lv_aload_n hx hb d_V_series_60 rfl (lv_at hl 0 rfl) ?_
  refine jkI (wr := []) (rnV (As := [.ref mp]) (rest := []) hx hb hml hown hE hK (hN _ _ hS) hP hD (v_numberOf l D dA H.size h ad (VS.s_pl (VS.s_rlab (VS.s_rV (VS.s_rE (VS.s_rS x fS) fE) fV) nl) pl1) SS mp (srtL x.tape fS fE fV nl) hkn1 (show x.nser ≤ 256 from by omega) hsr hso) (q0 := 0) rfl rfl w1739 w1738 w1740 w1741 w277 rfl rfl ⟨⟨by decide, by decide⟩, rfl⟩ ⟨(Nat.le_of_ble_eq_true rfl), (Nat.le_of_ble_eq_true rfl)⟩ rfl hl.1 rfl (Nat.le_of_ble_eq_true rfl) d_V_series_61 ⟨(show 0 + 0 + 0 + 32 + 0 ≤ 33 by omega), (show 0 + 0 + 0 + 930 + 0 ≤ 936 by omega)⟩) hP hD hS hA (fun r11 u12 H locs hp9 hP hD hS => ?_)
  have hP : va_P D vwCl (VW dA h ad (VS.s_pl (VS.s_rlab (VS.s_rV (VS.s_rE (VS.s_rS x fS) fE) fV) nl) pl1)) H := hP
  have hD : va_D A (VW dA h ad (VS.s_pl (VS.s_rlab (VS.s_rV (VS.s_rE (VS.s_rS x fS) fE) fV) nl) pl1)) := hD
  replace hp9 : nI (nuN SS (srtL x.tape fS fE fV nl) x.nser) = r11 := Eq.symm hp9
  subst hp9
  refine tpi (y := nI x.nser) (by rw [hnu]) ?_
  refine lv_istore_n hx hb d_V_series_64 rfl hl (by decide) rfl (fun ls hl => ?_)
  have hl : lv_has ls 3 [(2, .int (nI x.nser)), (1, .ref mp), (0, .ref h)] := hl
  refine lv_iload_n hx hb d_V_series_65 rfl (lv_at hl 0 rfl) ?_
  refine lv_aload_n hx hb d_V_series_66 rfl (lv_at hl 2 rfl) ?_
  refine gF (v := .ref (ad 3)) hx hb hown hE hK hP 0 rfl rfl layV 11 (by decide) w297 rfl d_V_series_67 ?_
  refine gFN (v := .int (nI x.nser)) hx hb hown hE hK hP 17 rfl rfl layH 8 (by decide) w298 rfl d_V_series_70 ?_
  refine lv_icmp_ne hx hb d_V_series_73 (tgt := 81) rfl (fun g13 => ?_) (fun g13 => ?_)
  · have g13 := mt (nI_eq (a := x.nser) (b := x.nser) (by omega) (by omega)).mpr g13; exfalso; omega
  have g13 := (nI_eq (a := x.nser) (b := x.nser) (by omega) (by omega)).mp g13
  refine lv_aload_n hx hb d_V_series_76 rfl (lv_at hl 2 rfl) ?_
  refine lv_aload_n hx hb d_V_series_77 rfl (lv_at hl 1 rfl) ?_
  refine xkV (wr := []) (As := [.ref mp]) (rest := []) hx hb hml hown hE hK (hN _ _ hS) (v_addNewSeries_i l htr D dA H.size h ad (VS.s_pl (VS.s_rlab (VS.s_rV (VS.s_rE (VS.s_rS x fS) fE) fV) nl) pl1) mp (srtL x.tape fS fE fV nl) hsr hso (show x.jblock + 1 < 2 ^ 31 from by omega) (show x.jlimit < 2 ^ 31 from by omega) (show x.jfill ≤ 126 from by omega) (show x.nser < 256 from by omega) hro c1 hc2 hc) (q0 := 0) rfl rfl w1743 w1742 w1744 w1745 w277 rfl rfl ⟨⟨by decide, by decide⟩, rfl⟩ ⟨(Nat.le_of_ble_eq_true rfl), (Nat.le_of_ble_eq_true rfl)⟩ rfl hl.1 rfl (Nat.le_of_ble_eq_true rfl) d_V_series_78 ⟨(show 0 + 0 + 0 + 32 + 0 + 1 ≤ 33 by omega), (show 0 + 0 + 0 + 930 + 0 + 6 ≤ 936 by omega)⟩ hP hD hS hA (fun u15 xa14 ce H locs hp9 hP hD hS hce hcv hcl => ?_)
  have hP : va_P D vwCl (VW dA h ad (VS.s_pl (VS.s_rlab (VS.s_rV (VS.s_rE (VS.s_rS (VS.s_cutLeft (VS.s_powered x false) (-1)) fS) fE) fV) nl) pl1)) H := hP
  have hD : va_D A (VW dA h ad (VS.s_pl (VS.s_rlab (VS.s_rV (VS.s_rE (VS.s_rS (VS.s_cutLeft (VS.s_powered x false) (-1)) fS) fE) fV) nl) pl1)) := hD
  exact xOut hno hlk hce hcv hcl (fun t ht => xkE (VS.s_pl (VS.s_rlab (VS.s_rV (VS.s_rE (VS.s_rS (VS.s_cutLeft (VS.s_powered x false) (-1)) fS) fE) fV) nl) pl1) ⟨pl1, hsub, rfl⟩ hP hD hS t (by rw [ht]; exact Nat.le_refl _) (fun q _ => by rw [ht])) hS.2.2 (show 0 + 0 + 0 + 32 + 0 + 1 ≤ 33 by omega) (show 0 + 0 + 0 + 930 + 0 + 6 ≤ 936 by omega)
