def VS.at1 (x : VS) : VS := VS.s_hasTable (VS.s_faultPlace (VS.s_faultCode x 0) 0) true
def VS.at5 (x : VS) (z : Int32) : VS := VS.s_faultPlace (VS.s_faultCode x 5) z
theorem d_V_ask_98 : decode prog_1_method_45_code 98 = .ok (.aload_n 0, 1) := by decide +kernel
theorem d_V_ask_99 : decode prog_1_method_45_code 99 = .ok (.getfield 63, 3) := by decide +kernel
theorem d_V_ask_102 : decode prog_1_method_45_code 102 = .ok (.aload_n 0, 1) := by decide +kernel
theorem d_V_ask_103 : decode prog_1_method_45_code 103 = .ok (.getfield 56, 3) := by decide +kernel
theorem d_V_ask_106 : decode prog_1_method_45_code 106 = .ok (.aload_n 0, 1) := by decide +kernel
theorem d_V_ask_107 : decode prog_1_method_45_code 107 = .ok (.getfield 42, 3) := by decide +kernel
theorem d_V_ask_110 : decode prog_1_method_45_code 110 = .ok (.aload_n 0, 1) := by decide +kernel
theorem d_V_ask_111 : decode prog_1_method_45_code 111 = .ok (.getfield 33, 3) := by decide +kernel
theorem d_V_ask_114 : decode prog_1_method_45_code 114 = .ok (.aload_n 0, 1) := by decide +kernel
theorem d_V_ask_115 : decode prog_1_method_45_code 115 = .ok (.getfield 23, 3) := by decide +kernel
theorem d_V_ask_118 : decode prog_1_method_45_code 118 = .ok (.lload_n 1, 1) := by decide +kernel
theorem d_V_ask_119 : decode prog_1_method_45_code 119 = .ok (.lload_n 3, 1) := by decide +kernel
theorem d_V_ask_120 : decode prog_1_method_45_code 120 = .ok (.iload 5, 2) := by decide +kernel
theorem d_V_ask_122 : decode prog_1_method_45_code 122 = .ok (.invokevirtual 382, 3) := by decide +kernel
theorem d_V_ask_125 : decode prog_1_method_45_code 125 = .ok (.istore 7, 2) := by decide +kernel
theorem d_V_ask_127 : decode prog_1_method_45_code 127 = .ok (.iload 7, 2) := by decide +kernel
theorem d_V_ask_129 : decode prog_1_method_45_code 129 = .ok (.iconst (-1), 1) := by decide +kernel
theorem d_V_ask_130 : decode prog_1_method_45_code 130 = .ok (.if_icmp .eq 12, 3) := by decide +kernel
theorem d_V_ask_142 : decode prog_1_method_45_code 142 = .ok (.aload_n 0, 1) := by decide +kernel
theorem d_V_ask_143 : decode prog_1_method_45_code 143 = .ok (.iconst 0, 1) := by decide +kernel
theorem d_V_ask_144 : decode prog_1_method_45_code 144 = .ok (.iconst 0, 1) := by decide +kernel
theorem d_V_ask_145 : decode prog_1_method_45_code 145 = .ok (.invokevirtual 210, 3) := by decide +kernel
theorem d_V_ask_148 : decode prog_1_method_45_code 148 = .ok (.aload_n 0, 1) := by decide +kernel
theorem d_V_ask_149 : decode prog_1_method_45_code 149 = .ok (.iconst 1, 1) := by decide +kernel
theorem d_V_ask_150 : decode prog_1_method_45_code 150 = .ok (.putfield 114, 3) := by decide +kernel
theorem d_V_ask_153 : decode prog_1_method_45_code 153 = .ok (.aload_n 0, 1) := by decide +kernel
theorem d_V_ask_154 : decode prog_1_method_45_code 154 = .ok (.getfield 63, 3) := by decide +kernel
theorem d_V_ask_157 : decode prog_1_method_45_code 157 = .ok (.invokevirtual 386, 3) := by decide +kernel
theorem d_V_ask_160 : decode prog_1_method_45_code 160 = .ok (.getfield 390, 3) := by decide +kernel
theorem d_V_ask_163 : decode prog_1_method_45_code 163 = .ok (.ireturn, 1) := by decide +kernel
theorem w1787 : Cond.methodLink "SeriesVault" 382 ⟨"SeriesVault$Answers", "work", "(LSeriesVault$Question;[LSeriesVault$Series;LSeriesVault$Shelf;LSeriesVault$Points;JJI)I"⟩ ∈ aW := aw_of (tb_7 (List.mem_of_getElem? (i := 130) rfl)) rfl
theorem w1788 : Cond.code ⟨"SeriesVault$Answers", "work", "(LSeriesVault$Question;[LSeriesVault$Series;LSeriesVault$Shelf;LSeriesVault$Points;JJI)I"⟩ prog_2_method_3_code 12 (some FieldType.int) ∈ aW := aw_of (tb_7 (List.mem_of_getElem? (i := 133) rfl)) rfl
theorem w1789 : Cond.instanceMethod ⟨"SeriesVault$Answers", "work", "(LSeriesVault$Question;[LSeriesVault$Series;LSeriesVault$Shelf;LSeriesVault$Points;JJI)I"⟩ ∈ aW := aw_of (tb_7 (List.mem_of_getElem? (i := 131) rfl)) rfl
theorem w1790 : Cond.selects "SeriesVault$Answers" ⟨"SeriesVault$Answers", "work", "(LSeriesVault$Question;[LSeriesVault$Series;LSeriesVault$Shelf;LSeriesVault$Points;JJI)I"⟩ ⟨"SeriesVault$Answers", "work", "(LSeriesVault$Question;[LSeriesVault$Series;LSeriesVault$Shelf;LSeriesVault$Points;JJI)I"⟩ ∈ aW := aw_of (tb_7 (List.mem_of_getElem? (i := 132) rfl)) rfl
set_option maxHeartbeats 4000000 in
set_option maxRecDepth 100000 in
theorem v_ask (l : Launch) (D : va_G) (dA : Nat → ClassId) (sz : Nat) (e0 mi : Nat) (kA vA : Nat → Nat) (fm : Nat) (h : Nat) (ad : Nat → Nat) (sa : Nat) (g : LI) (r : va_W) (x : VS) (fr : Int64) (wd : Int64) (nw : Nat) (la : Nat → Nat) (gk : LI) (AT : Nat → Nat → Nat) (T : Nat → TB) (S : List SP1) (tk9 : TKQ) (SS : Nat → List LB) (PS : Nat → PT) (cC : Nat → Nat) (cS : Nat → Nat) (k : Nat) (ho : x.powered = true) (t1 : isTm fr = true) (t2 : 1 ≤ wd) (t3 : wd ≤ 1099511627775) (t4 : 1 ≤ nw) (t5 : nw ≤ 64) (hsa : sa = ad 23) (hll : x.ll = LqW dA sa g ++ r) (hst : stL e0 x.pl g) (hn : x.tapeLength ≤ 16384) (h2 : x.tapeLength ≤ x.tpN) (h3 : x.tpN ≤ 131072) (hby : byteF x.tape) (hR : qRd (pQ x.tape x.tapeLength (x.t0 x.tapeLength)) = (true, tk9, S)) (hS0 : 0 < S.length) (hk : skP dA ad ([] : va_W) (VS.s_ll x r) la gk AT T) (hkn : knOk dA x.kn x.nser x.pl SS) (hps : psOk dA x.nP x.npc x.pl PS) (hpn : x.npc ≤ 32) (hs1 : x.nsc ≤ 64) (hs7 : ∀ q : Nat, q < x.nsc → x.nsO q < 2 ^ 31) (hns : x.nser ≤ 256) (hpo : ∀ k : Nat, k < x.npc → ∀ i : Nat, i < (PS k).n → (PS k).o i < x.nser ∧ wOk fr wd nw ((PS k).t i)) (hho : ∀ i : Nat, i < x.hsize → x.hO i < x.nser ∧ wOk fr wd nw (x.hT i)) (hhz : x.hsize ≤ x.hN) (hhN : x.hN ≤ 65536) (hkS : k ≤ S.length) (hcC : ∀ i : Nat, i ≤ k → cC i ≤ cC k ∧ cS i ≤ cS k) (hgo : ∀ (w : VS) (i : Nat) (a : SKT), x.aq x.tapeLength r w → plF w.pl → i < k → wkR dA ad ([] : va_W) la PS SS nw S (w.wk0 fr wd nw, gk, AT, T) i a → wkO dA ad ([] : va_W) la SS (S.getD i (spO 0 0 0)) (cC i) (cC (i + 1)) (cS i) (cS (i + 1)) a) (hxx : ∀ (w : VS) (a : SKT), x.aq x.tapeLength r w → plF w.pl → k < S.length → wkR dA ad ([] : va_W) la PS SS nw S (w.wk0 fr wd nw, gk, AT, T) k a → wkX dA (S.getD k (spO 0 0 0)) a) (hkl : k = S.length) (hfin : ∀ (w : VS) (a : SKT), x.aq x.tapeLength r w → plF w.pl → wkR dA ad ([] : va_W) la PS SS nw S (w.wk0 fr wd nw, gk, AT, T) S.length a → 0 < a.2.1.sz) : Met l ⟨"SeriesVault", "ask", "(JJI)I"⟩ [Cond.code ⟨"SeriesVault", "ask", "(JJI)I"⟩ prog_1_method_45_code 8 (some FieldType.int)] { frames := 274, cells := 8 * x.tapeLength + cC k, slots := 64 * x.tapeLength + 4 * (cpR g.eN 0 (pQ x.tape x.tapeLength (x.t0 x.tapeLength)).2.2.length - g.eN) + cS k, locals := 6670 } (pCs D dA e0 mi kA vA fm [.ref h, .long fr, .long wd, .int (nI nw)] (VW dA h ad x) sz) (va_Qi (fun (r9 : Int32) (u9 : VS × LI × VS × VS × VS × VS × LI × (Nat → Nat → Nat) × (Nat → TB)) => r9 = nI (u9.2.2.2.2.2.2.2.2 0).rc ∧ (x.r0 x.tapeLength).qr u9.2.2.2.1 ∧ VS.pq dA e0 sa r u9.2.2.1 (LI.s_el (LI.s_mc (LI.s_sz g 0) (g.mc + 1)) (clF g.el g.sz)) (qRd (pQ x.tape x.tapeLength (x.t0 x.tapeLength))) u9.2.2.2.1 u9.2.1 ∧ u9.2.2.2.2.1 = VS.s_ll u9.2.2.2.1.aq0 r ∧ plF u9.2.2.2.2.1.pl ∧ wkR dA ad ([] : va_W) la PS SS nw S (u9.2.2.2.2.1.wk0 fr wd nw, gk, AT, T) S.length (u9.2.2.2.2.2.1, u9.2.2.2.2.2.2.1, u9.2.2.2.2.2.2.2.1, u9.2.2.2.2.2.2.2.2) ∧ u9.1 = VS.s_ll u9.2.2.2.2.2.1.at1 (LqW dA sa u9.2.1 ++ u9.2.2.2.2.2.1.ll)) (fun (u9 : VS × LI × VS × VS × VS × VS × LI × (Nat → Nat → Nat) × (Nat → TB)) t9 => bW D (va_A (VW dA h ad x) sz) (VW dA h ad u9.1) t9) (va_A (VW dA h ad x) sz)) (8 * x.tapeLength + cC k) (64 * x.tapeLength + 4 * (cpR g.eN 0 (pQ x.tape x.tapeLength (x.t0 x.tapeLength)).2.2.length - g.eN) + cS k) (va_A (VW dA h ad x) sz) := by
  refine mkS (y := ⟨"SeriesVault", "ask", "(JJI)I"⟩) (cc := prog_1_method_45_code) (maxL := 8) (av := [.ref h, .long fr, .long wd, .int (nI nw)]) (ws := VW dA h ad x) (sz := sz) (Qc := fun A => va_Qi (fun (r9 : Int32) (u9 : VS × LI × VS × VS × VS × VS × LI × (Nat → Nat → Nat) × (Nat → TB)) => r9 = nI (u9.2.2.2.2.2.2.2.2 0).rc ∧ (x.r0 x.tapeLength).qr u9.2.2.2.1 ∧ VS.pq dA e0 sa r u9.2.2.1 (LI.s_el (LI.s_mc (LI.s_sz g 0) (g.mc + 1)) (clF g.el g.sz)) (qRd (pQ x.tape x.tapeLength (x.t0 x.tapeLength))) u9.2.2.2.1 u9.2.1 ∧ u9.2.2.2.2.1 = VS.s_ll u9.2.2.2.1.aq0 r ∧ plF u9.2.2.2.2.1.pl ∧ wkR dA ad ([] : va_W) la PS SS nw S (u9.2.2.2.2.1.wk0 fr wd nw, gk, AT, T) S.length (u9.2.2.2.2.2.1, u9.2.2.2.2.2.2.1, u9.2.2.2.2.2.2.2.1, u9.2.2.2.2.2.2.2.2) ∧ u9.1 = VS.s_ll u9.2.2.2.2.2.1.at1 (LqW dA sa u9.2.1 ++ u9.2.2.2.2.2.1.ll)) (fun (u9 : VS × LI × VS × VS × VS × VS × LI × (Nat → Nat → Nat) × (Nat → TB)) t9 => bW D A (VW dA h ad u9.1) t9) A) (by decide) (Nat.le_of_ble_eq_true rfl) ?_
  intro A p e s m below meth c ls hsz hZ hT hM hQ hB
  obtain ⟨hx, hb, hr, hml, hown, hin, hlk, hE, hK, hP, hD, hS, hA, hN, hl⟩ := hB
  have hown : s.vm.findClass "SeriesVault" = some m.cls := hown
  have hl : lv_has ls 8 [(0, .ref h), (1, .long fr), (3, .long wd), (5, .int (nI nw))] := hl
  obtain ⟨H, hH⟩ : ∃ z, z = s.heap := ⟨_, rfl⟩
  have hP : va_P D vwCl (VW dA h ad x) H := by rw [hH]; exact hP
  have hS : va_S A s.heap H [] := by rw [hH]; exact hS
  rw [← hH]
  refine lv_aload_n hx hb d_V_ask_0 rfl (lv_at hl 0 rfl) ?_
  refine jkV (wr := []) (rnV (As := []) (rest := []) hx hb hml hown hE hK (hN _ _ hS) hP hD (v_checkPower l D dA H.size h ad x ho) (q0 := 0) rfl rfl w278 w276 w279 w280 w277 rfl rfl ⟨⟨by decide, by decide⟩, rfl⟩ ⟨(Nat.le_of_ble_eq_true rfl), (Nat.le_of_ble_eq_true rfl)⟩ rfl hl.1 rfl (Nat.le_of_ble_eq_true rfl) d_V_ask_1 ⟨(show 0 + 0 ≤ 8 * x.tapeLength + cC k by omega), (show 0 + 0 ≤ 64 * x.tapeLength + 4 * (cpR g.eN 0 (pQ x.tape x.tapeLength (x.t0 x.tapeLength)).2.2.length - g.eN) + cS k by omega)⟩) hP hD hS hA (fun u2 H locs hp9 hP hD hS => ?_)
  have hP : va_P D vwCl (VW dA h ad x) H := hP
  have hD : va_D A (VW dA h ad x) := hD
  refine lv_lload_n hx hb d_V_ask_4 rfl (lv_at hl 1 rfl) ?_
  have hPc := hP.sub (ws' := []) [] rfl
  have hDc := hD.sub (ws' := []) [] (by decide) rfl
  refine jpI (rnS (As := [.long fr]) (rest := []) hx hb hml hown hE hK (hN _ _ hS) hPc hDc (v_isTime l D dA H.size fr) w693 w692 w694 w277 rfl rfl ⟨⟨by decide, by decide⟩, rfl⟩ ⟨(Nat.le_of_ble_eq_true rfl), (Nat.le_of_ble_eq_true rfl)⟩ rfl hl.1 rfl (Nat.le_of_ble_eq_true rfl) d_V_ask_5 ⟨(show 0 + 0 + 0 ≤ 8 * x.tapeLength + cC k by omega), (show 0 + 0 + 0 ≤ 64 * x.tapeLength + 4 * (cpR g.eN 0 (pQ x.tape x.tapeLength (x.t0 x.tapeLength)).2.2.length - g.eN) + cS k by omega)⟩) hP hD hS hA (fun r3 u9 H locs hp9 hP hD hS => ?_)
  have hP : va_P D vwCl (VW dA h ad x) H := hP
  have hD : va_D A (VW dA h ad x) := hD
  replace hp9 : bI (isTm fr) = r3 := Eq.symm hp9
  subst hp9
  refine lv_if_eq hx hb d_V_ask_8 (tgt := 38) rfl (fun h9 => absurd h9 (by rw [t1]; decide)) (fun _ => ?_)
  refine lv_lload_n hx hb d_V_ask_11 rfl (lv_at hl 2 rfl) ?_
  refine lv_lconst (v := 1) hx hb d_V_ask_12 (by decide) ?_
  refine W.lcmp hx hb d_V_ask_13 ?_
  refine lv_if_lt hx hb d_V_ask_14 (tgt := 38) rfl (fun h9 => absurd h9 (mt (lg_cmp_lt _ _).mp (Int64.not_lt.mpr t2))) (fun _ => ?_)
  refine lv_lload_n hx hb d_V_ask_17 rfl (lv_at hl 2 rfl) ?_
  refine lv_ldc2 (v := 1099511627775) hx hb hown (hE.t w653 rfl) d_V_ask_18 ?_
  refine W.lcmp hx hb d_V_ask_21 ?_
  refine lv_if_gt hx hb d_V_ask_22 (tgt := 38) rfl (fun h9 => absurd h9 (mt (lg_cmp_gt _ _).mp (Int64.not_lt.mpr t3))) (fun _ => ?_)
  refine lv_iload hx hb d_V_ask_25 (lv_at hl 3 rfl) ?_
  refine lv_iconst (v := 1) hx hb d_V_ask_27 (by decide) ?_
  refine lv_icmp_lt hx hb d_V_ask_28 (tgt := 38) rfl (fun h9 => absurd h9 (mt (nI_ltI (a := nw) (b := 1) (by omega) (by omega)).mp (Nat.not_lt.mpr t4))) (fun _ => ?_)
  refine lv_iload hx hb d_V_ask_31 (lv_at hl 3 rfl) ?_
  refine lv_bipush (v := 64) hx hb d_V_ask_33 (by decide) ?_
  refine lv_icmp_le hx hb d_V_ask_35 (tgt := 46) rfl (fun _ => ?_) (fun h9 => absurd ((nI_leI (a := nw) (b := 64) (by omega) (by omega)).mpr t5) h9)
  refine lv_aload_n hx hb d_V_ask_46 rfl (lv_at hl 0 rfl) ?_
  refine gF (v := .ref (ad 22)) hx hb hown hE hK hP 0 rfl rfl layV 15 (by decide) w695 rfl d_V_ask_47 ?_
  refine lv_aload_n hx hb d_V_ask_50 rfl (lv_at hl 0 rfl) ?_
  refine gF (v := .ref x.tpA) hx hb hown hE hK hP 0 rfl rfl layV 0 (by decide) w539 rfl d_V_ask_51 ?_
  refine lv_aload_n hx hb d_V_ask_54 rfl (lv_at hl 0 rfl) ?_
  refine gF (v := .int (nI x.tapeLength)) hx hb hown hE hK hP 0 rfl rfl layV 1 (by decide) w259 rfl d_V_ask_55 ?_
  refine jkI (wr := []) (rnVs (As := [.ref x.tpA, .int (nI x.tapeLength)]) (rest := []) hx hb hml hown hE hK hZ hT hM hQ hS (hN _ _ hS) hP hD (v_Qread l D dA H.size e0 mi kA vA fm h ad sa g r x x.tapeLength hsa hll hst hn h2 h3 hby) (q0 := 36) rfl rfl w697 w696 w698 w699 w665 rfl rfl ⟨⟨by decide, by decide⟩, rfl⟩ ⟨(Nat.le_of_ble_eq_true rfl), (Nat.le_of_ble_eq_true rfl)⟩ rfl hl.1 rfl (Nat.le_of_ble_eq_true rfl) d_V_ask_58 ⟨(show 0 + 0 + 0 + (8 * x.tapeLength) ≤ 8 * x.tapeLength + cC k by omega), (show 0 + 0 + 0 + (64 * x.tapeLength + 4 * (cpR g.eN 0 (pQ x.tape x.tapeLength (x.t0 x.tapeLength)).2.2.length - g.eN)) ≤ 64 * x.tapeLength + 4 * (cpR g.eN 0 (pQ x.tape x.tapeLength (x.t0 x.tapeLength)).2.2.length - g.eN) + cS k by omega)⟩) hP hD hS hA (fun r5 u6 H locs hp9 hP hD hS => ?_)
  obtain ⟨y0, gq, y1⟩ := u6
  have hP : va_P D vwCl (VW dA h ad y0) H := hP
  have hD : va_D A (VW dA h ad y0) := hD
  obtain ⟨hp9, f_q_7, f_p_8⟩ := hp9
  replace hp9 : bI (qRd (pQ x.tape x.tapeLength (x.t0 x.tapeLength))).1 = r5 := Eq.symm hp9
  subst hp9
  refine tpi (y := 1) (by rw [hR]; rfl) ?_
  refine lv_istore hx hb d_V_ask_61 hl (by decide) rfl (fun ls hl => ?_)
  have hl : lv_has ls 8 [(6, .int 1), (0, .ref h), (1, .long fr), (3, .long wd), (5, .int (nI nw))] := hl
  refine lv_aload_n hx hb d_V_ask_63 rfl (lv_at hl 1 rfl) ?_
  refine lv_iconst (v := 0) hx hb d_V_ask_64 (by decide) ?_
  refine pF (v := .int (nI 0)) hx hb hown hE hK hP hD hS 0 rfl rfl layV tyV tokV nmV 1 (by decide) w259 rfl rfl rfl (Nat.le_of_ble_eq_true rfl) d_V_ask_65 (fun H locs hP hD hS => ?_)
  have hP : va_P D vwCl (VW dA h ad (VS.s_tapeLength y0 0)) H := hP
  have hD : va_D A (VW dA h ad (VS.s_tapeLength y0 0)) := hD
  refine lv_aload_n hx hb d_V_ask_68 rfl (lv_at hl 1 rfl) ?_
  refine lv_iconst (v := 0) hx hb d_V_ask_69 (by decide) ?_
  refine pF (v := .int (bI false)) hx hb hown hE hK hP hD hS 0 rfl rfl layV tyV tokV nmV 17 (by decide) w210 rfl (bI_nar false) (bI_fit false) (Nat.le_of_ble_eq_true rfl) d_V_ask_70 (fun H locs hP hD hS => ?_)
  have hP : va_P D vwCl (VW dA h ad (VS.s_hasTable (VS.s_tapeLength y0 0) false)) H := hP
  have hD : va_D A (VW dA h ad (VS.s_hasTable (VS.s_tapeLength y0 0) false)) := hD
  refine lv_iload hx hb d_V_ask_73 (lv_at hl 0 rfl) ?_
  refine lv_if_ne hx hb d_V_ask_75 (tgt := 98) rfl (fun _ => ?_) (fun h9 => absurd h9 (by decide))
  have hpp := f_p_8
  obtain ⟨pa1, pa2, pa3, pa4, pa5, pa6, pa7⟩ := hpp
  rw [hR] at pa4 pa7
  have gz : gq.sz = S.length := pa4.trans (Nat.zero_add _)
  have gst : stps dA y0.pl gq 0 S := pa7 rfl
  have hl0 : y0.ll = LqW dA sa gq ++ r := pa3.2.1
  have lq := pa3.2.2.1.1
  have lq1 : gq.sz ≤ gq.eN := lq.2.1
  have gne : ¬ gq.eN = 0 := by omega
  have hP := pmP (show List.Perm (α := Nat × va_E) (VW dA h ad (VS.s_hasTable (VS.s_tapeLength y0 0) false)) (LqW dA sa gq ++ (VW dA h ad (VS.s_ll (VS.s_hasTable (VS.s_tapeLength y0 0) false) r))) from llP (dA := dA) (h := h) (ad := ad) (x := (VS.s_hasTable (VS.s_tapeLength y0 0) false)) (L := LqW dA sa gq) (r := r) hl0) hP
  have hD := pmD (show List.Perm (α := Nat × va_E) (VW dA h ad (VS.s_hasTable (VS.s_tapeLength y0 0) false)) (LqW dA sa gq ++ (VW dA h ad (VS.s_ll (VS.s_hasTable (VS.s_tapeLength y0 0) false) r))) from llP (dA := dA) (h := h) (ad := ad) (x := (VS.s_hasTable (VS.s_tapeLength y0 0) false)) (L := LqW dA sa gq) (r := r) hl0) hD
  have hP : va_P D vwCl (LqW dA sa gq ++ (VW dA h ad (VS.s_ll (VS.s_hasTable (VS.s_tapeLength y0 0) false) r))) H := hP
  have hD : va_D A (LqW dA sa gq ++ (VW dA h ad (VS.s_ll (VS.s_hasTable (VS.s_tapeLength y0 0) false) r))) := hD
  obtain ⟨w0, e_w0⟩ : ∃ w9, w9 = VS.s_ll (VS.s_hasTable (VS.s_tapeLength y0 0) false) r := ⟨_, rfl⟩
  rw [← e_w0] at hP hD
  have hP : va_P D vwCl (LqW dA sa gq ++ (VW dA h ad w0)) H := hP
  have hD : va_D A (LqW dA sa gq ++ (VW dA h ad w0)) := hD
  have haq : x.aq x.tapeLength r w0 := ⟨y0, f_q_7, by rw [e_w0]; rfl⟩
  rw [LqW_1 gne] at hP hD
  obtain ⟨lb, elb⟩ : ∃ f9 : Nat → Nat, f9 = (fun _ => sa) := ⟨_, rfl⟩
  rw [← elb] at hP hD
  have hlb : lb 0 = ad 23 := by rw [elb]; exact hsa
  have hP : va_P D vwCl (LiW dA lb gq ++ (VW dA h ad w0)) H := hP
  have hD : va_D A (LiW dA lb gq ++ (VW dA h ad w0)) := hD
  obtain ⟨kn_w0, nser_w0, nP_w0, npc_w0, nsc_w0, nsO_w0, hsize_w0, hN_w0, hO_w0, hT_w0, ll_w0, sub_w0⟩ := aq_f haq
  have hpf : plF w0.pl := plF_s (fun c hc => List.mem_append_right _ (plm hc)) (plF_of hD)
  have hkw : skP dA ad ([] : va_W) w0 la gk AT T := skP_x (x := VS.s_ll x r) ll_w0 hk
  refine lv_aload_n hx hb d_V_ask_98 rfl (lv_at hl 1 rfl) ?_
  refine gF (v := .ref (ad 24)) hx hb hown hE hK hP 2 rfl rfl layV 16 (by decide) w850 rfl d_V_ask_99 ?_
  refine lv_aload_n hx hb d_V_ask_102 rfl (lv_at hl 1 rfl) ?_
  refine gF (v := .ref (ad 22)) hx hb hown hE hK hP 2 rfl rfl layV 15 (by decide) w695 rfl d_V_ask_103 ?_
  refine lv_aload_n hx hb d_V_ask_106 rfl (lv_at hl 1 rfl) ?_
  refine gF (v := .ref (ad 17)) hx hb hown hE hK hP 2 rfl rfl layV 13 (by decide) w833 rfl d_V_ask_107 ?_
  refine lv_aload_n hx hb d_V_ask_110 rfl (lv_at hl 1 rfl) ?_
  refine gF (v := .ref (ad 3)) hx hb hown hE hK hP 2 rfl rfl layV 11 (by decide) w297 rfl d_V_ask_111 ?_
  refine lv_aload_n hx hb d_V_ask_114 rfl (lv_at hl 1 rfl) ?_
  refine gF (v := .ref (ad 1)) hx hb hown hE hK hP 2 rfl rfl layV 9 (by decide) w576 rfl d_V_ask_115 ?_
  refine lv_lload_n hx hb d_V_ask_118 rfl (lv_at hl 2 rfl) ?_
  refine lv_lload_n hx hb d_V_ask_119 rfl (lv_at hl 3 rfl) ?_
  refine lv_iload hx hb d_V_ask_120 (lv_at hl 4 rfl) ?_
  refine jkI (wr := []) (rnVy (As := [.ref (ad 22), .ref (ad 17), .ref (ad 3), .ref (ad 1), .long fr, .long wd, .int (nI nw)]) (rest := []) hx hb hml hown hE hK hZ hT hM hS (hN _ _ hS) hP hD (v_work l D dA H.size e0 mi h ad lb gq w0 fr wd nw la gk AT T ([] : va_W) S SS PS cC cS k hlb lq.2.1 lq.2.2 gz (by rw [e_w0]; exact gst) hkw t5 (by rw [kn_w0, nser_w0]; exact knOk_m sub_w0 hkn) (by rw [nP_w0, npc_w0]; exact psOk_m sub_w0 hps) (by rw [npc_w0]; exact hpn) (by rw [nsc_w0]; exact hs1) (by rw [nsc_w0, nsO_w0]; exact hs7) (by rw [nser_w0]; exact hns) (by rw [npc_w0, nser_w0]; exact hpo) (by rw [hsize_w0, hO_w0, nser_w0, hT_w0]; exact hho) (by rw [hsize_w0, hN_w0]; exact hhz) (by rw [hN_w0]; exact hhN) hkS hcC (fun i a => hgo w0 i a haq hpf) (fun a => hxx w0 a haq hpf)) (q0 := 39) rfl rfl w1788 w1787 w1789 w1790 w846 rfl rfl ⟨⟨by decide, by decide⟩, rfl⟩ ⟨(Nat.le_of_ble_eq_true rfl), (Nat.le_of_ble_eq_true rfl)⟩ rfl hl.1 rfl (Nat.le_of_ble_eq_true rfl) d_V_ask_122 ⟨(show 0 + 0 + 0 + (8 * x.tapeLength) + (cC k) ≤ 8 * x.tapeLength + cC k by omega), (show 0 + 0 + 0 + (64 * x.tapeLength + 4 * (cpR g.eN 0 (pQ x.tape x.tapeLength (x.t0 x.tapeLength)).2.2.length - g.eN)) + (cS k) ≤ 64 * x.tapeLength + 4 * (cpR g.eN 0 (pQ x.tape x.tapeLength (x.t0 x.tapeLength)).2.2.length - g.eN) + cS k by omega)⟩) hP hD hS hA (fun rv9 u9 H locs hp9 hP hD hS => ?_)
  obtain ⟨w1, gq2, Aq, Tq⟩ := u9
  have hP : va_P D vwCl (LiW dA lb gq ++ (VW dA h ad w1)) H := hP
  have hD : va_D A (LiW dA lb gq ++ (VW dA h ad w1)) := hD
  have f_w_10 := hp9
  obtain ⟨e9, hwr⟩ : rv9 = (-1) ∧ wkR dA ad ([] : va_W) la PS SS nw S (w0.wk0 fr wd nw, gk, AT, T) S.length (w1, gq2, Aq, Tq) := by rcases f_w_10 with ⟨a1, a2, a3⟩ | ⟨a1, -⟩; (rw [a1] at a3; exact ⟨a2, a3⟩); omega
  subst e9
  have hk2 : skP dA ad ([] : va_W) w1 la gq2 Aq Tq := (wk_k (show skQ dA ad ([] : va_W) la (w0.wk0 fr wd nw, gk, AT, T) from hkw) hwr).2
  have hz2 : 0 < gq2.sz := hfin w0 (w1, gq2, Aq, Tq) haq hpf hwr
  have mt9 := sk_t hk2 hz2
  refine lv_istore hx hb d_V_ask_125 hl (by decide) rfl (fun ls hl => ?_)
  have hl : lv_has ls 8 [(7, .int (-1)), (6, .int 1), (0, .ref h), (1, .long fr), (3, .long wd), (5, .int (nI nw))] := hl
  refine lv_iload hx hb d_V_ask_127 (lv_at hl 0 rfl) ?_
  refine lv_iconst (v := (-1)) hx hb d_V_ask_129 (by decide) ?_
  refine lv_icmp_eq hx hb d_V_ask_130 (tgt := 142) rfl (fun _ => ?_) (fun h9 => absurd rfl h9)
  refine lv_aload_n hx hb d_V_ask_142 rfl (lv_at hl 2 rfl) ?_
  refine lv_iconst (v := 0) hx hb d_V_ask_143 (by decide) ?_
  refine lv_iconst (v := 0) hx hb d_V_ask_144 (by decide) ?_
  have hPc : va_P D vwCl (VW dA h ad w1) H := spP (wr := LiW dA lb gq) hP
  have hDc : va_D A (VW dA h ad w1) := spD (wr := LiW dA lb gq) hD
  refine jkV (wr := LiW dA lb gq) (rnV (As := [.int 0, .int 0]) (rest := []) hx hb hml hown hE hK (hN _ _ hS) hPc hDc (v_setFault l D dA H.size h ad w1 0 0) (q0 := 0) rfl rfl w616 w615 w617 w618 w277 rfl rfl ⟨⟨by decide, by decide⟩, rfl⟩ ⟨(Nat.le_of_ble_eq_true rfl), (Nat.le_of_ble_eq_true rfl)⟩ rfl hl.1 rfl (Nat.le_of_ble_eq_true rfl) d_V_ask_145 ⟨(show 0 + 0 + 0 + (8 * x.tapeLength) + (cC k) + 0 ≤ 8 * x.tapeLength + cC k by omega), (show 0 + 0 + 0 + (64 * x.tapeLength + 4 * (cpR g.eN 0 (pQ x.tape x.tapeLength (x.t0 x.tapeLength)).2.2.length - g.eN)) + (cS k) + 0 ≤ 64 * x.tapeLength + 4 * (cpR g.eN 0 (pQ x.tape x.tapeLength (x.t0 x.tapeLength)).2.2.length - g.eN) + cS k by omega)⟩) hP hD hS hA (fun u12 H locs hp9 hP hD hS => ?_)
  have hP : va_P D vwCl (LiW dA lb gq ++ (VW dA h ad (VS.s_faultPlace (VS.s_faultCode w1 0) 0))) H := hP
  have hD : va_D A (LiW dA lb gq ++ (VW dA h ad (VS.s_faultPlace (VS.s_faultCode w1 0) 0))) := hD
  refine lv_aload_n hx hb d_V_ask_148 rfl (lv_at hl 2 rfl) ?_
  refine lv_iconst (v := 1) hx hb d_V_ask_149 (by decide) ?_
  refine pF (v := .int (bI true)) hx hb hown hE hK hP hD hS 2 rfl rfl layV tyV tokV nmV 17 (by decide) w210 rfl (bI_nar true) (bI_fit true) (Nat.le_of_ble_eq_true rfl) d_V_ask_150 (fun H locs hP hD hS => ?_)
  have hP : va_P D vwCl (LiW dA lb gq ++ (VW dA h ad (VS.s_hasTable (VS.s_faultPlace (VS.s_faultCode w1 0) 0) true))) H := hP
  have hD : va_D A (LiW dA lb gq ++ (VW dA h ad (VS.s_hasTable (VS.s_faultPlace (VS.s_faultCode w1 0) 0) true))) := hD
  refine lv_aload_n hx hb d_V_ask_153 rfl (lv_at hl 2 rfl) ?_
  refine gF (v := .ref (ad 24)) hx hb hown hE hK hP 2 rfl rfl layV 16 (by decide) w850 rfl d_V_ask_154 ?_
  have hPc : va_P D vwCl (VW dA h ad (VS.s_hasTable (VS.s_faultPlace (VS.s_faultCode w1 0) 0) true)) H := spP (wr := LiW dA lb gq) hP
  have hDc : va_D A (VW dA h ad (VS.s_hasTable (VS.s_faultPlace (VS.s_faultCode w1 0) 0) true)) := spD (wr := LiW dA lb gq) hD
  refine jkR (wr := LiW dA lb gq) (rnV (As := []) (rest := []) hx hb hml hown hE hK (hN _ _ hS) hPc hDc (v_tableW l D dA H.size h ad (VS.s_hasTable (VS.s_faultPlace (VS.s_faultCode w1 0) 0) true) la gq2 Aq Tq ([] : va_W) (skP_x (x := w1) rfl hk2) hz2) (q0 := 37) rfl rfl w1722 w1721 w1723 w1724 w846 rfl rfl ⟨⟨by decide, by decide⟩, rfl⟩ ⟨(Nat.le_of_ble_eq_true rfl), (Nat.le_of_ble_eq_true rfl)⟩ rfl hl.1 rfl (Nat.le_of_ble_eq_true rfl) d_V_ask_157 ⟨(show 0 + 0 + 0 + (8 * x.tapeLength) + (cC k) + 0 + 0 ≤ 8 * x.tapeLength + cC k by omega), (show 0 + 0 + 0 + (64 * x.tapeLength + 4 * (cpR g.eN 0 (pQ x.tape x.tapeLength (x.t0 x.tapeLength)).2.2.length - g.eN)) + (cS k) + 0 + 0 ≤ 64 * x.tapeLength + 4 * (cpR g.eN 0 (pQ x.tape x.tapeLength (x.t0 x.tapeLength)).2.2.length - g.eN) + cS k by omega)⟩) hP hD hS hA (fun u14 r13 H locs hp9 hP hD hS => ?_)
  have hP : va_P D vwCl (LiW dA lb gq ++ (VW dA h ad (VS.s_hasTable (VS.s_faultPlace (VS.s_faultCode w1 0) 0) true))) H := hP
  have hD : va_D A (LiW dA lb gq ++ (VW dA h ad (VS.s_hasTable (VS.s_faultPlace (VS.s_faultCode w1 0) 0) true))) := hD
  have f_e_15 := hp9
  have e9 := f_e_15
  subst e9
  obtain ⟨qp16, ep17⟩ := List.getElem?_of_mem (show ((Aq 0 0, .inr (8, [.ref (Aq 0 1), .int (nI (Tq 0).nc), .int (nI (Tq 0).wi), .int (nI (Tq 0).rc), .ref (Aq 0 2), .ref (Aq 0 3), .ref ((Tq 0).cA)])) : Nat × va_E) ∈ LiW dA lb gq ++ (VW dA h ad (VS.s_hasTable (VS.s_faultPlace (VS.s_faultCode w1 0) 0) true)) from (List.mem_append_right _ (llm mt9)))
  refine gFN (v := .int (nI (Tq 0).rc)) hx hb hown hE hK hP qp16 ep17 rfl layT 3 (by decide) w1726 rfl d_V_ask_160 ?_
  rw [elb, ← LqW_1 (dA := dA) (a := sa) gne] at hP hD
  have hP : va_P D vwCl (LqW dA sa gq ++ (VW dA h ad (VS.s_hasTable (VS.s_faultPlace (VS.s_faultCode w1 0) 0) true))) H := hP
  have hD : va_D A (LqW dA sa gq ++ (VW dA h ad (VS.s_hasTable (VS.s_faultPlace (VS.s_faultCode w1 0) 0) true))) := hD
  have hP := pmP (show List.Perm (α := Nat × va_E) (LqW dA sa gq ++ (VW dA h ad (VS.s_hasTable (VS.s_faultPlace (VS.s_faultCode w1 0) 0) true))) (VW dA h ad (VS.s_ll (VS.s_hasTable (VS.s_faultPlace (VS.s_faultCode w1 0) 0) true) (LqW dA sa gq ++ w1.ll))) from ((llT (dA := dA) (h := h) (ad := ad) (VS.s_hasTable (VS.s_faultPlace (VS.s_faultCode w1 0) 0) true) (LqW dA sa gq)).symm).symm) hP
  have hD := pmD (show List.Perm (α := Nat × va_E) (LqW dA sa gq ++ (VW dA h ad (VS.s_hasTable (VS.s_faultPlace (VS.s_faultCode w1 0) 0) true))) (VW dA h ad (VS.s_ll (VS.s_hasTable (VS.s_faultPlace (VS.s_faultCode w1 0) 0) true) (LqW dA sa gq ++ w1.ll))) from ((llT (dA := dA) (h := h) (ad := ad) (VS.s_hasTable (VS.s_faultPlace (VS.s_faultCode w1 0) 0) true) (LqW dA sa gq)).symm).symm) hD
  have hP : va_P D vwCl (VW dA h ad (VS.s_ll (VS.s_hasTable (VS.s_faultPlace (VS.s_faultCode w1 0) 0) true) (LqW dA sa gq ++ w1.ll))) H := hP
  have hD : va_D A (VW dA h ad (VS.s_ll (VS.s_hasTable (VS.s_faultPlace (VS.s_faultCode w1 0) 0) true) (LqW dA sa gq ++ w1.ll))) := hD
  exact rfI hx hb hr hlk hS (⟨VS.s_ll (VS.s_hasTable (VS.s_faultPlace (VS.s_faultCode w1 0) 0) true) (LqW dA sa gq ++ w1.ll), gq, y1, y0, w0, w1, gq2, Aq, Tq⟩) ⟨rfl, f_q_7, f_p_8, by rw [e_w0]; rfl, hpf, hwr, rfl⟩ hP hD (show 0 + 0 + 0 + (8 * x.tapeLength) + (cC k) + 0 + 0 ≤ 8 * x.tapeLength + cC k by omega) (show 0 + 0 + 0 + (64 * x.tapeLength + 4 * (cpR g.eN 0 (pQ x.tape x.tapeLength (x.t0 x.tapeLength)).2.2.length - g.eN)) + (cS k) + 0 + 0 ≤ 64 * x.tapeLength + 4 * (cpR g.eN 0 (pQ x.tape x.tapeLength (x.t0 x.tapeLength)).2.2.length - g.eN) + cS k by omega) d_V_ask_163
theorem d_V_ask_133 : decode prog_1_method_45_code 133 = .ok (.aload_n 0, 1) := by decide +kernel
theorem d_V_ask_134 : decode prog_1_method_45_code 134 = .ok (.iconst 5, 1) := by decide +kernel
theorem d_V_ask_135 : decode prog_1_method_45_code 135 = .ok (.iload 7, 2) := by decide +kernel
theorem d_V_ask_137 : decode prog_1_method_45_code 137 = .ok (.invokevirtual 210, 3) := by decide +kernel
theorem d_V_ask_140 : decode prog_1_method_45_code 140 = .ok (.iconst (-1), 1) := by decide +kernel
theorem d_V_ask_141 : decode prog_1_method_45_code 141 = .ok (.ireturn, 1) := by decide +kernel
set_option maxHeartbeats 4000000 in
set_option maxRecDepth 100000 in
theorem v_ask_g (l : Launch) (D : va_G) (dA : Nat → ClassId) (sz : Nat) (e0 mi : Nat) (kA vA : Nat → Nat) (fm : Nat) (h : Nat) (ad : Nat → Nat) (sa : Nat) (g : LI) (r : va_W) (x : VS) (fr : Int64) (wd : Int64) (nw : Nat) (la : Nat → Nat) (gk : LI) (AT : Nat → Nat → Nat) (T : Nat → TB) (S : List SP1) (tk9 : TKQ) (SS : Nat → List LB) (PS : Nat → PT) (cC : Nat → Nat) (cS : Nat → Nat) (k : Nat) (ho : x.powered = true) (t1 : isTm fr = true) (t2 : 1 ≤ wd) (t3 : wd ≤ 1099511627775) (t4 : 1 ≤ nw) (t5 : nw ≤ 64) (hsa : sa = ad 23) (hll : x.ll = LqW dA sa g ++ r) (hst : stL e0 x.pl g) (hn : x.tapeLength ≤ 16384) (h2 : x.tapeLength ≤ x.tpN) (h3 : x.tpN ≤ 131072) (hby : byteF x.tape) (hR : qRd (pQ x.tape x.tapeLength (x.t0 x.tapeLength)) = (true, tk9, S)) (hS0 : 0 < S.length) (hk : skP dA ad ([] : va_W) (VS.s_ll x r) la gk AT T) (hkn : knOk dA x.kn x.nser x.pl SS) (hps : psOk dA x.nP x.npc x.pl PS) (hpn : x.npc ≤ 32) (hs1 : x.nsc ≤ 64) (hs7 : ∀ q : Nat, q < x.nsc → x.nsO q < 2 ^ 31) (hns : x.nser ≤ 256) (hpo : ∀ k : Nat, k < x.npc → ∀ i : Nat, i < (PS k).n → (PS k).o i < x.nser ∧ wOk fr wd nw ((PS k).t i)) (hho : ∀ i : Nat, i < x.hsize → x.hO i < x.nser ∧ wOk fr wd nw (x.hT i)) (hhz : x.hsize ≤ x.hN) (hhN : x.hN ≤ 65536) (hkS : k ≤ S.length) (hcC : ∀ i : Nat, i ≤ k → cC i ≤ cC k ∧ cS i ≤ cS k) (hgo : ∀ (w : VS) (i : Nat) (a : SKT), x.aq x.tapeLength r w → plF w.pl → i < k → wkR dA ad ([] : va_W) la PS SS nw S (w.wk0 fr wd nw, gk, AT, T) i a → wkO dA ad ([] : va_W) la SS (S.getD i (spO 0 0 0)) (cC i) (cC (i + 1)) (cS i) (cS (i + 1)) a) (hxx : ∀ (w : VS) (a : SKT), x.aq x.tapeLength r w → plF w.pl → k < S.length → wkR dA ad ([] : va_W) la PS SS nw S (w.wk0 fr wd nw, gk, AT, T) k a → wkX dA (S.getD k (spO 0 0 0)) a) (hkl : k < S.length) (hpl : (S.getD k (spO 0 0 0)).2.1 < 2 ^ 31) : Met l ⟨"SeriesVault", "ask", "(JJI)I"⟩ [Cond.code ⟨"SeriesVault", "ask", "(JJI)I"⟩ prog_1_method_45_code 8 (some FieldType.int)] { frames := 274, cells := 8 * x.tapeLength + cC k, slots := 64 * x.tapeLength + 4 * (cpR g.eN 0 (pQ x.tape x.tapeLength (x.t0 x.tapeLength)).2.2.length - g.eN) + cS k, locals := 6670 } (pCs D dA e0 mi kA vA fm [.ref h, .long fr, .long wd, .int (nI nw)] (VW dA h ad x) sz) (va_Qi (fun (r9 : Int32) (u9 : VS × LI × VS × VS × VS × VS × LI × (Nat → Nat → Nat) × (Nat → TB)) => r9 = (-1) ∧ (x.r0 x.tapeLength).qr u9.2.2.2.1 ∧ VS.pq dA e0 sa r u9.2.2.1 (LI.s_el (LI.s_mc (LI.s_sz g 0) (g.mc + 1)) (clF g.el g.sz)) (qRd (pQ x.tape x.tapeLength (x.t0 x.tapeLength))) u9.2.2.2.1 u9.2.1 ∧ u9.2.2.2.2.1 = VS.s_ll u9.2.2.2.1.aq0 r ∧ plF u9.2.2.2.2.1.pl ∧ (∃ (a : SKT) (NL NR : Nat → List Int32) (RS RU : Nat → List LB) (wi : Nat), wkR dA ad ([] : va_W) la PS SS nw S (u9.2.2.2.2.1.wk0 fr wd nw, gk, AT, T) k a ∧ tbK dA a.1.pl wi (a.2.2.2 (a.1.adep - 2)) NL RS ∧ tbK dA a.1.pl wi (a.2.2.2 (a.1.adep - 1)) NR RU ∧ jnC NL NR (a.2.2.2 (a.1.adep - 2)) (a.2.2.2 (a.1.adep - 1)) = 3 ∧ jnZ dA ad ([] : va_W) la (S.getD k (spO 0 0 0)).1 NL NR RS RU a.1 a.2.1 a.2.2.1 a.2.2.2 u9.2.2.2.2.2.1 u9.2.2.2.2.2.2.1 u9.2.2.2.2.2.2.2.1 u9.2.2.2.2.2.2.2.2) ∧ u9.1 = VS.s_ll (u9.2.2.2.2.2.1.at5 (nI (S.getD k (spO 0 0 0)).2.1)) (LqW dA sa u9.2.1 ++ u9.2.2.2.2.2.1.ll)) (fun (u9 : VS × LI × VS × VS × VS × VS × LI × (Nat → Nat → Nat) × (Nat → TB)) t9 => bW D (va_A (VW dA h ad x) sz) (VW dA h ad u9.1) t9) (va_A (VW dA h ad x) sz)) (8 * x.tapeLength + cC k) (64 * x.tapeLength + 4 * (cpR g.eN 0 (pQ x.tape x.tapeLength (x.t0 x.tapeLength)).2.2.length - g.eN) + cS k) (va_A (VW dA h ad x) sz) := by
  refine mkS (y := ⟨"SeriesVault", "ask", "(JJI)I"⟩) (cc := prog_1_method_45_code) (maxL := 8) (av := [.ref h, .long fr, .long wd, .int (nI nw)]) (ws := VW dA h ad x) (sz := sz) (Qc := fun A => va_Qi (fun (r9 : Int32) (u9 : VS × LI × VS × VS × VS × VS × LI × (Nat → Nat → Nat) × (Nat → TB)) => r9 = (-1) ∧ (x.r0 x.tapeLength).qr u9.2.2.2.1 ∧ VS.pq dA e0 sa r u9.2.2.1 (LI.s_el (LI.s_mc (LI.s_sz g 0) (g.mc + 1)) (clF g.el g.sz)) (qRd (pQ x.tape x.tapeLength (x.t0 x.tapeLength))) u9.2.2.2.1 u9.2.1 ∧ u9.2.2.2.2.1 = VS.s_ll u9.2.2.2.1.aq0 r ∧ plF u9.2.2.2.2.1.pl ∧ (∃ (a : SKT) (NL NR : Nat → List Int32) (RS RU : Nat → List LB) (wi : Nat), wkR dA ad ([] : va_W) la PS SS nw S (u9.2.2.2.2.1.wk0 fr wd nw, gk, AT, T) k a ∧ tbK dA a.1.pl wi (a.2.2.2 (a.1.adep - 2)) NL RS ∧ tbK dA a.1.pl wi (a.2.2.2 (a.1.adep - 1)) NR RU ∧ jnC NL NR (a.2.2.2 (a.1.adep - 2)) (a.2.2.2 (a.1.adep - 1)) = 3 ∧ jnZ dA ad ([] : va_W) la (S.getD k (spO 0 0 0)).1 NL NR RS RU a.1 a.2.1 a.2.2.1 a.2.2.2 u9.2.2.2.2.2.1 u9.2.2.2.2.2.2.1 u9.2.2.2.2.2.2.2.1 u9.2.2.2.2.2.2.2.2) ∧ u9.1 = VS.s_ll (u9.2.2.2.2.2.1.at5 (nI (S.getD k (spO 0 0 0)).2.1)) (LqW dA sa u9.2.1 ++ u9.2.2.2.2.2.1.ll)) (fun (u9 : VS × LI × VS × VS × VS × VS × LI × (Nat → Nat → Nat) × (Nat → TB)) t9 => bW D A (VW dA h ad u9.1) t9) A) (by decide) (Nat.le_of_ble_eq_true rfl) ?_
  intro A p e s m below meth c ls hsz hZ hT hM hQ hB
  obtain ⟨hx, hb, hr, hml, hown, hin, hlk, hE, hK, hP, hD, hS, hA, hN, hl⟩ := hB
  have hown : s.vm.findClass "SeriesVault" = some m.cls := hown
  have hl : lv_has ls 8 [(0, .ref h), (1, .long fr), (3, .long wd), (5, .int (nI nw))] := hl
  obtain ⟨H, hH⟩ : ∃ z, z = s.heap := ⟨_, rfl⟩
  have hP : va_P D vwCl (VW dA h ad x) H := by rw [hH]; exact hP
  have hS : va_S A s.heap H [] := by rw [hH]; exact hS
  rw [← hH]
  refine lv_aload_n hx hb d_V_ask_0 rfl (lv_at hl 0 rfl) ?_
  refine jkV (wr := []) (rnV (As := []) (rest := []) hx hb hml hown hE hK (hN _ _ hS) hP hD (v_checkPower l D dA H.size h ad x ho) (q0 := 0) rfl rfl w278 w276 w279 w280 w277 rfl rfl ⟨⟨by decide, by decide⟩, rfl⟩ ⟨(Nat.le_of_ble_eq_true rfl), (Nat.le_of_ble_eq_true rfl)⟩ rfl hl.1 rfl (Nat.le_of_ble_eq_true rfl) d_V_ask_1 ⟨(show 0 + 0 ≤ 8 * x.tapeLength + cC k by omega), (show 0 + 0 ≤ 64 * x.tapeLength + 4 * (cpR g.eN 0 (pQ x.tape x.tapeLength (x.t0 x.tapeLength)).2.2.length - g.eN) + cS k by omega)⟩) hP hD hS hA (fun u2 H locs hp9 hP hD hS => ?_)
  have hP : va_P D vwCl (VW dA h ad x) H := hP
  have hD : va_D A (VW dA h ad x) := hD
  refine lv_lload_n hx hb d_V_ask_4 rfl (lv_at hl 1 rfl) ?_
  have hPc := hP.sub (ws' := []) [] rfl
  have hDc := hD.sub (ws' := []) [] (by decide) rfl
  refine jpI (rnS (As := [.long fr]) (rest := []) hx hb hml hown hE hK (hN _ _ hS) hPc hDc (v_isTime l D dA H.size fr) w693 w692 w694 w277 rfl rfl ⟨⟨by decide, by decide⟩, rfl⟩ ⟨(Nat.le_of_ble_eq_true rfl), (Nat.le_of_ble_eq_true rfl)⟩ rfl hl.1 rfl (Nat.le_of_ble_eq_true rfl) d_V_ask_5 ⟨(show 0 + 0 + 0 ≤ 8 * x.tapeLength + cC k by omega), (show 0 + 0 + 0 ≤ 64 * x.tapeLength + 4 * (cpR g.eN 0 (pQ x.tape x.tapeLength (x.t0 x.tapeLength)).2.2.length - g.eN) + cS k by omega)⟩) hP hD hS hA (fun r3 u9 H locs hp9 hP hD hS => ?_)
  have hP : va_P D vwCl (VW dA h ad x) H := hP
  have hD : va_D A (VW dA h ad x) := hD
  replace hp9 : bI (isTm fr) = r3 := Eq.symm hp9
  subst hp9
  refine lv_if_eq hx hb d_V_ask_8 (tgt := 38) rfl (fun h9 => absurd h9 (by rw [t1]; decide)) (fun _ => ?_)
  refine lv_lload_n hx hb d_V_ask_11 rfl (lv_at hl 2 rfl) ?_
  refine lv_lconst (v := 1) hx hb d_V_ask_12 (by decide) ?_
  refine W.lcmp hx hb d_V_ask_13 ?_
  refine lv_if_lt hx hb d_V_ask_14 (tgt := 38) rfl (fun h9 => absurd h9 (mt (lg_cmp_lt _ _).mp (Int64.not_lt.mpr t2))) (fun _ => ?_)
  refine lv_lload_n hx hb d_V_ask_17 rfl (lv_at hl 2 rfl) ?_
  refine lv_ldc2 (v := 1099511627775) hx hb hown (hE.t w653 rfl) d_V_ask_18 ?_
  refine W.lcmp hx hb d_V_ask_21 ?_
  refine lv_if_gt hx hb d_V_ask_22 (tgt := 38) rfl (fun h9 => absurd h9 (mt (lg_cmp_gt _ _).mp (Int64.not_lt.mpr t3))) (fun _ => ?_)
  refine lv_iload hx hb d_V_ask_25 (lv_at hl 3 rfl) ?_
  refine lv_iconst (v := 1) hx hb d_V_ask_27 (by decide) ?_
  refine lv_icmp_lt hx hb d_V_ask_28 (tgt := 38) rfl (fun h9 => absurd h9 (mt (nI_ltI (a := nw) (b := 1) (by omega) (by omega)).mp (Nat.not_lt.mpr t4))) (fun _ => ?_)
  refine lv_iload hx hb d_V_ask_31 (lv_at hl 3 rfl) ?_
  refine lv_bipush (v := 64) hx hb d_V_ask_33 (by decide) ?_
  refine lv_icmp_le hx hb d_V_ask_35 (tgt := 46) rfl (fun _ => ?_) (fun h9 => absurd ((nI_leI (a := nw) (b := 64) (by omega) (by omega)).mpr t5) h9)
  refine lv_aload_n hx hb d_V_ask_46 rfl (lv_at hl 0 rfl) ?_
  refine gF (v := .ref (ad 22)) hx hb hown hE hK hP 0 rfl rfl layV 15 (by decide) w695 rfl d_V_ask_47 ?_
  refine lv_aload_n hx hb d_V_ask_50 rfl (lv_at hl 0 rfl) ?_
  refine gF (v := .ref x.tpA) hx hb hown hE hK hP 0 rfl rfl layV 0 (by decide) w539 rfl d_V_ask_51 ?_
  refine lv_aload_n hx hb d_V_ask_54 rfl (lv_at hl 0 rfl) ?_
  refine gF (v := .int (nI x.tapeLength)) hx hb hown hE hK hP 0 rfl rfl layV 1 (by decide) w259 rfl d_V_ask_55 ?_
  refine jkI (wr := []) (rnVs (As := [.ref x.tpA, .int (nI x.tapeLength)]) (rest := []) hx hb hml hown hE hK hZ hT hM hQ hS (hN _ _ hS) hP hD (v_Qread l D dA H.size e0 mi kA vA fm h ad sa g r x x.tapeLength hsa hll hst hn h2 h3 hby) (q0 := 36) rfl rfl w697 w696 w698 w699 w665 rfl rfl ⟨⟨by decide, by decide⟩, rfl⟩ ⟨(Nat.le_of_ble_eq_true rfl), (Nat.le_of_ble_eq_true rfl)⟩ rfl hl.1 rfl (Nat.le_of_ble_eq_true rfl) d_V_ask_58 ⟨(show 0 + 0 + 0 + (8 * x.tapeLength) ≤ 8 * x.tapeLength + cC k by omega), (show 0 + 0 + 0 + (64 * x.tapeLength + 4 * (cpR g.eN 0 (pQ x.tape x.tapeLength (x.t0 x.tapeLength)).2.2.length - g.eN)) ≤ 64 * x.tapeLength + 4 * (cpR g.eN 0 (pQ x.tape x.tapeLength (x.t0 x.tapeLength)).2.2.length - g.eN) + cS k by omega)⟩) hP hD hS hA (fun r5 u6 H locs hp9 hP hD hS => ?_)
  obtain ⟨y0, gq, y1⟩ := u6
  have hP : va_P D vwCl (VW dA h ad y0) H := hP
  have hD : va_D A (VW dA h ad y0) := hD
  obtain ⟨hp9, f_q_7, f_p_8⟩ := hp9
  replace hp9 : bI (qRd (pQ x.tape x.tapeLength (x.t0 x.tapeLength))).1 = r5 := Eq.symm hp9
  subst hp9
  refine tpi (y := 1) (by rw [hR]; rfl) ?_
  refine lv_istore hx hb d_V_ask_61 hl (by decide) rfl (fun ls hl => ?_)
  have hl : lv_has ls 8 [(6, .int 1), (0, .ref h), (1, .long fr), (3, .long wd), (5, .int (nI nw))] := hl
  refine lv_aload_n hx hb d_V_ask_63 rfl (lv_at hl 1 rfl) ?_
  refine lv_iconst (v := 0) hx hb d_V_ask_64 (by decide) ?_
  refine pF (v := .int (nI 0)) hx hb hown hE hK hP hD hS 0 rfl rfl layV tyV tokV nmV 1 (by decide) w259 rfl rfl rfl (Nat.le_of_ble_eq_true rfl) d_V_ask_65 (fun H locs hP hD hS => ?_)
  have hP : va_P D vwCl (VW dA h ad (VS.s_tapeLength y0 0)) H := hP
  have hD : va_D A (VW dA h ad (VS.s_tapeLength y0 0)) := hD
  refine lv_aload_n hx hb d_V_ask_68 rfl (lv_at hl 1 rfl) ?_
  refine lv_iconst (v := 0) hx hb d_V_ask_69 (by decide) ?_
  refine pF (v := .int (bI false)) hx hb hown hE hK hP hD hS 0 rfl rfl layV tyV tokV nmV 17 (by decide) w210 rfl (bI_nar false) (bI_fit false) (Nat.le_of_ble_eq_true rfl) d_V_ask_70 (fun H locs hP hD hS => ?_)
  have hP : va_P D vwCl (VW dA h ad (VS.s_hasTable (VS.s_tapeLength y0 0) false)) H := hP
  have hD : va_D A (VW dA h ad (VS.s_hasTable (VS.s_tapeLength y0 0) false)) := hD
  refine lv_iload hx hb d_V_ask_73 (lv_at hl 0 rfl) ?_
  refine lv_if_ne hx hb d_V_ask_75 (tgt := 98) rfl (fun _ => ?_) (fun h9 => absurd h9 (by decide))
  have hpp := f_p_8
  obtain ⟨pa1, pa2, pa3, pa4, pa5, pa6, pa7⟩ := hpp
  rw [hR] at pa4 pa7
  have gz : gq.sz = S.length := pa4.trans (Nat.zero_add _)
  have gst : stps dA y0.pl gq 0 S := pa7 rfl
  have hl0 : y0.ll = LqW dA sa gq ++ r := pa3.2.1
  have lq := pa3.2.2.1.1
  have lq1 : gq.sz ≤ gq.eN := lq.2.1
  have gne : ¬ gq.eN = 0 := by omega
  have hP := pmP (show List.Perm (α := Nat × va_E) (VW dA h ad (VS.s_hasTable (VS.s_tapeLength y0 0) false)) (LqW dA sa gq ++ (VW dA h ad (VS.s_ll (VS.s_hasTable (VS.s_tapeLength y0 0) false) r))) from llP (dA := dA) (h := h) (ad := ad) (x := (VS.s_hasTable (VS.s_tapeLength y0 0) false)) (L := LqW dA sa gq) (r := r) hl0) hP
  have hD := pmD (show List.Perm (α := Nat × va_E) (VW dA h ad (VS.s_hasTable (VS.s_tapeLength y0 0) false)) (LqW dA sa gq ++ (VW dA h ad (VS.s_ll (VS.s_hasTable (VS.s_tapeLength y0 0) false) r))) from llP (dA := dA) (h := h) (ad := ad) (x := (VS.s_hasTable (VS.s_tapeLength y0 0) false)) (L := LqW dA sa gq) (r := r) hl0) hD
  have hP : va_P D vwCl (LqW dA sa gq ++ (VW dA h ad (VS.s_ll (VS.s_hasTable (VS.s_tapeLength y0 0) false) r))) H := hP
  have hD : va_D A (LqW dA sa gq ++ (VW dA h ad (VS.s_ll (VS.s_hasTable (VS.s_tapeLength y0 0) false) r))) := hD
  obtain ⟨w0, e_w0⟩ : ∃ w9, w9 = VS.s_ll (VS.s_hasTable (VS.s_tapeLength y0 0) false) r := ⟨_, rfl⟩
  rw [← e_w0] at hP hD
  have hP : va_P D vwCl (LqW dA sa gq ++ (VW dA h ad w0)) H := hP
  have hD : va_D A (LqW dA sa gq ++ (VW dA h ad w0)) := hD
  have haq : x.aq x.tapeLength r w0 := ⟨y0, f_q_7, by rw [e_w0]; rfl⟩
  rw [LqW_1 gne] at hP hD
  obtain ⟨lb, elb⟩ : ∃ f9 : Nat → Nat, f9 = (fun _ => sa) := ⟨_, rfl⟩
  rw [← elb] at hP hD
  have hlb : lb 0 = ad 23 := by rw [elb]; exact hsa
  have hP : va_P D vwCl (LiW dA lb gq ++ (VW dA h ad w0)) H := hP
  have hD : va_D A (LiW dA lb gq ++ (VW dA h ad w0)) := hD
  obtain ⟨kn_w0, nser_w0, nP_w0, npc_w0, nsc_w0, nsO_w0, hsize_w0, hN_w0, hO_w0, hT_w0, ll_w0, sub_w0⟩ := aq_f haq
  have hpf : plF w0.pl := plF_s (fun c hc => List.mem_append_right _ (plm hc)) (plF_of hD)
  have hkw : skP dA ad ([] : va_W) w0 la gk AT T := skP_x (x := VS.s_ll x r) ll_w0 hk
  refine lv_aload_n hx hb d_V_ask_98 rfl (lv_at hl 1 rfl) ?_
  refine gF (v := .ref (ad 24)) hx hb hown hE hK hP 2 rfl rfl layV 16 (by decide) w850 rfl d_V_ask_99 ?_
  refine lv_aload_n hx hb d_V_ask_102 rfl (lv_at hl 1 rfl) ?_
  refine gF (v := .ref (ad 22)) hx hb hown hE hK hP 2 rfl rfl layV 15 (by decide) w695 rfl d_V_ask_103 ?_
  refine lv_aload_n hx hb d_V_ask_106 rfl (lv_at hl 1 rfl) ?_
  refine gF (v := .ref (ad 17)) hx hb hown hE hK hP 2 rfl rfl layV 13 (by decide) w833 rfl d_V_ask_107 ?_
  refine lv_aload_n hx hb d_V_ask_110 rfl (lv_at hl 1 rfl) ?_
  refine gF (v := .ref (ad 3)) hx hb hown hE hK hP 2 rfl rfl layV 11 (by decide) w297 rfl d_V_ask_111 ?_
  refine lv_aload_n hx hb d_V_ask_114 rfl (lv_at hl 1 rfl) ?_
  refine gF (v := .ref (ad 1)) hx hb hown hE hK hP 2 rfl rfl layV 9 (by decide) w576 rfl d_V_ask_115 ?_
  refine lv_lload_n hx hb d_V_ask_118 rfl (lv_at hl 2 rfl) ?_
  refine lv_lload_n hx hb d_V_ask_119 rfl (lv_at hl 3 rfl) ?_
  refine lv_iload hx hb d_V_ask_120 (lv_at hl 4 rfl) ?_
  refine jkI (wr := []) (rnVy (As := [.ref (ad 22), .ref (ad 17), .ref (ad 3), .ref (ad 1), .long fr, .long wd, .int (nI nw)]) (rest := []) hx hb hml hown hE hK hZ hT hM hS (hN _ _ hS) hP hD (v_work l D dA H.size e0 mi h ad lb gq w0 fr wd nw la gk AT T ([] : va_W) S SS PS cC cS k hlb lq.2.1 lq.2.2 gz (by rw [e_w0]; exact gst) hkw t5 (by rw [kn_w0, nser_w0]; exact knOk_m sub_w0 hkn) (by rw [nP_w0, npc_w0]; exact psOk_m sub_w0 hps) (by rw [npc_w0]; exact hpn) (by rw [nsc_w0]; exact hs1) (by rw [nsc_w0, nsO_w0]; exact hs7) (by rw [nser_w0]; exact hns) (by rw [npc_w0, nser_w0]; exact hpo) (by rw [hsize_w0, hO_w0, nser_w0, hT_w0]; exact hho) (by rw [hsize_w0, hN_w0]; exact hhz) (by rw [hN_w0]; exact hhN) hkS hcC (fun i a => hgo w0 i a haq hpf) (fun a => hxx w0 a haq hpf)) (q0 := 39) rfl rfl w1788 w1787 w1789 w1790 w846 rfl rfl ⟨⟨by decide, by decide⟩, rfl⟩ ⟨(Nat.le_of_ble_eq_true rfl), (Nat.le_of_ble_eq_true rfl)⟩ rfl hl.1 rfl (Nat.le_of_ble_eq_true rfl) d_V_ask_122 ⟨(show 0 + 0 + 0 + (8 * x.tapeLength) + (cC k) ≤ 8 * x.tapeLength + cC k by omega), (show 0 + 0 + 0 + (64 * x.tapeLength + 4 * (cpR g.eN 0 (pQ x.tape x.tapeLength (x.t0 x.tapeLength)).2.2.length - g.eN)) + (cS k) ≤ 64 * x.tapeLength + 4 * (cpR g.eN 0 (pQ x.tape x.tapeLength (x.t0 x.tapeLength)).2.2.length - g.eN) + cS k by omega)⟩) hP hD hS hA (fun rv9 u9 H locs hp9 hP hD hS => ?_)
  obtain ⟨w1, gq2, Aq, Tq⟩ := u9
  have hP : va_P D vwCl (LiW dA lb gq ++ (VW dA h ad w1)) H := hP
  have hD : va_D A (LiW dA lb gq ++ (VW dA h ad w1)) := hD
  have f_w_10 := hp9
  obtain ⟨e9, hwr⟩ : rv9 = nI (S.getD k (spO 0 0 0)).2.1 ∧ ∃ (a : SKT) (NL NR : Nat → List Int32) (RS RU : Nat → List LB) (wi : Nat), wkR dA ad ([] : va_W) la PS SS nw S (w0.wk0 fr wd nw, gk, AT, T) k a ∧ tbK dA a.1.pl wi (a.2.2.2 (a.1.adep - 2)) NL RS ∧ tbK dA a.1.pl wi (a.2.2.2 (a.1.adep - 1)) NR RU ∧ jnC NL NR (a.2.2.2 (a.1.adep - 2)) (a.2.2.2 (a.1.adep - 1)) = 3 ∧ jnZ dA ad ([] : va_W) la (S.getD k (spO 0 0 0)).1 NL NR RS RU a.1 a.2.1 a.2.2.1 a.2.2.2 w1 gq2 Aq Tq := by rcases f_w_10 with ⟨a1, -⟩ | ⟨-, a2, a3⟩; omega; exact ⟨a2, a3⟩
  subst e9
  refine lv_istore hx hb d_V_ask_125 hl (by decide) rfl (fun ls hl => ?_)
  have hl : lv_has ls 8 [(7, .int (nI (S.getD k (spO 0 0 0)).2.1)), (6, .int 1), (0, .ref h), (1, .long fr), (3, .long wd), (5, .int (nI nw))] := hl
  refine lv_iload hx hb d_V_ask_127 (lv_at hl 0 rfl) ?_
  refine lv_iconst (v := (-1)) hx hb d_V_ask_129 (by decide) ?_
  refine lv_icmp_eq hx hb d_V_ask_130 (tgt := 142) rfl (fun h9 => absurd h9 (nI_nm hpl)) (fun _ => ?_)
  refine lv_aload_n hx hb d_V_ask_133 rfl (lv_at hl 2 rfl) ?_
  refine lv_iconst (v := 5) hx hb d_V_ask_134 (by decide) ?_
  refine lv_iload hx hb d_V_ask_135 (lv_at hl 0 rfl) ?_
  have hPc : va_P D vwCl (VW dA h ad w1) H := spP (wr := LiW dA lb gq) hP
  have hDc : va_D A (VW dA h ad w1) := spD (wr := LiW dA lb gq) hD
  refine jkV (wr := LiW dA lb gq) (rnV (As := [.int 5, .int (nI (S.getD k (spO 0 0 0)).2.1)]) (rest := []) hx hb hml hown hE hK (hN _ _ hS) hPc hDc (v_setFault l D dA H.size h ad w1 5 (nI (S.getD k (spO 0 0 0)).2.1)) (q0 := 0) rfl rfl w616 w615 w617 w618 w277 rfl rfl ⟨⟨by decide, by decide⟩, rfl⟩ ⟨(Nat.le_of_ble_eq_true rfl), (Nat.le_of_ble_eq_true rfl)⟩ rfl hl.1 rfl (Nat.le_of_ble_eq_true rfl) d_V_ask_137 ⟨(show 0 + 0 + 0 + (8 * x.tapeLength) + (cC k) + 0 ≤ 8 * x.tapeLength + cC k by omega), (show 0 + 0 + 0 + (64 * x.tapeLength + 4 * (cpR g.eN 0 (pQ x.tape x.tapeLength (x.t0 x.tapeLength)).2.2.length - g.eN)) + (cS k) + 0 ≤ 64 * x.tapeLength + 4 * (cpR g.eN 0 (pQ x.tape x.tapeLength (x.t0 x.tapeLength)).2.2.length - g.eN) + cS k by omega)⟩) hP hD hS hA (fun u12 H locs hp9 hP hD hS => ?_)
  have hP : va_P D vwCl (LiW dA lb gq ++ (VW dA h ad (VS.s_faultPlace (VS.s_faultCode w1 5) (nI (S.getD k (spO 0 0 0)).2.1)))) H := hP
  have hD : va_D A (LiW dA lb gq ++ (VW dA h ad (VS.s_faultPlace (VS.s_faultCode w1 5) (nI (S.getD k (spO 0 0 0)).2.1)))) := hD
  refine lv_iconst (v := (-1)) hx hb d_V_ask_140 (by decide) ?_
  rw [elb, ← LqW_1 (dA := dA) (a := sa) gne] at hP hD
  have hP : va_P D vwCl (LqW dA sa gq ++ (VW dA h ad (VS.s_faultPlace (VS.s_faultCode w1 5) (nI (S.getD k (spO 0 0 0)).2.1)))) H := hP
  have hD : va_D A (LqW dA sa gq ++ (VW dA h ad (VS.s_faultPlace (VS.s_faultCode w1 5) (nI (S.getD k (spO 0 0 0)).2.1)))) := hD
  have hP := pmP (show List.Perm (α := Nat × va_E) (LqW dA sa gq ++ (VW dA h ad (VS.s_faultPlace (VS.s_faultCode w1 5) (nI (S.getD k (spO 0 0 0)).2.1)))) (VW dA h ad (VS.s_ll (VS.s_faultPlace (VS.s_faultCode w1 5) (nI (S.getD k (spO 0 0 0)).2.1)) (LqW dA sa gq ++ w1.ll))) from ((llT (dA := dA) (h := h) (ad := ad) (VS.s_faultPlace (VS.s_faultCode w1 5) (nI (S.getD k (spO 0 0 0)).2.1)) (LqW dA sa gq)).symm).symm) hP
  have hD := pmD (show List.Perm (α := Nat × va_E) (LqW dA sa gq ++ (VW dA h ad (VS.s_faultPlace (VS.s_faultCode w1 5) (nI (S.getD k (spO 0 0 0)).2.1)))) (VW dA h ad (VS.s_ll (VS.s_faultPlace (VS.s_faultCode w1 5) (nI (S.getD k (spO 0 0 0)).2.1)) (LqW dA sa gq ++ w1.ll))) from ((llT (dA := dA) (h := h) (ad := ad) (VS.s_faultPlace (VS.s_faultCode w1 5) (nI (S.getD k (spO 0 0 0)).2.1)) (LqW dA sa gq)).symm).symm) hD
  have hP : va_P D vwCl (VW dA h ad (VS.s_ll (VS.s_faultPlace (VS.s_faultCode w1 5) (nI (S.getD k (spO 0 0 0)).2.1)) (LqW dA sa gq ++ w1.ll))) H := hP
  have hD : va_D A (VW dA h ad (VS.s_ll (VS.s_faultPlace (VS.s_faultCode w1 5) (nI (S.getD k (spO 0 0 0)).2.1)) (LqW dA sa gq ++ w1.ll))) := hD
  exact rfI hx hb hr hlk hS (⟨VS.s_ll (VS.s_faultPlace (VS.s_faultCode w1 5) (nI (S.getD k (spO 0 0 0)).2.1)) (LqW dA sa gq ++ w1.ll), gq, y1, y0, w0, w1, gq2, Aq, Tq⟩) ⟨rfl, f_q_7, f_p_8, by rw [e_w0]; rfl, hpf, hwr, rfl⟩ hP hD (show 0 + 0 + 0 + (8 * x.tapeLength) + (cC k) + 0 ≤ 8 * x.tapeLength + cC k by omega) (show 0 + 0 + 0 + (64 * x.tapeLength + 4 * (cpR g.eN 0 (pQ x.tape x.tapeLength (x.t0 x.tapeLength)).2.2.length - g.eN)) + (cS k) + 0 ≤ 64 * x.tapeLength + 4 * (cpR g.eN 0 (pQ x.tape x.tapeLength (x.t0 x.tapeLength)).2.2.length - g.eN) + cS k by omega) d_V_ask_141
