theorem d_Q_readOpened_0 : decode prog_6_method_8_code 0 = .ok (.aload_n 0, 1) := by decide +kernel
theorem d_Q_readOpened_1 : decode prog_6_method_8_code 1 = .ok (.getfield 45, 3) := by decide +kernel
theorem d_Q_readOpened_4 : decode prog_6_method_8_code 4 = .ok (.istore_n 2, 1) := by decide +kernel
theorem d_Q_readOpened_5 : decode prog_6_method_8_code 5 = .ok (.aload_n 0, 1) := by decide +kernel
theorem d_Q_readOpened_6 : decode prog_6_method_8_code 6 = .ok (.getfield 48, 3) := by decide +kernel
theorem d_Q_readOpened_9 : decode prog_6_method_8_code 9 = .ok (.istore_n 3, 1) := by decide +kernel
theorem d_Q_readOpened_10 : decode prog_6_method_8_code 10 = .ok (.aload_n 0, 1) := by decide +kernel
theorem d_Q_readOpened_11 : decode prog_6_method_8_code 11 = .ok (.invokevirtual 38, 3) := by decide +kernel
theorem d_Q_readOpened_14 : decode prog_6_method_8_code 14 = .ok (.iload_n 2, 1) := by decide +kernel
theorem d_Q_readOpened_15 : decode prog_6_method_8_code 15 = .ok (.bipush 40, 2) := by decide +kernel
theorem d_Q_readOpened_17 : decode prog_6_method_8_code 17 = .ok (.if_icmp .ne 26, 3) := by decide +kernel
theorem d_Q_readOpened_43 : decode prog_6_method_8_code 43 = .ok (.aload_n 0, 1) := by decide +kernel
theorem d_Q_readOpened_44 : decode prog_6_method_8_code 44 = .ok (.iload_n 1, 1) := by decide +kernel
theorem d_Q_readOpened_45 : decode prog_6_method_8_code 45 = .ok (.invokevirtual 67, 3) := by decide +kernel
theorem d_Q_readOpened_48 : decode prog_6_method_8_code 48 = .ok (.istore 4, 2) := by decide +kernel
theorem d_Q_readOpened_50 : decode prog_6_method_8_code 50 = .ok (.aload_n 0, 1) := by decide +kernel
theorem d_Q_readOpened_51 : decode prog_6_method_8_code 51 = .ok (.getfield 18, 3) := by decide +kernel
theorem d_Q_readOpened_54 : decode prog_6_method_8_code 54 = .ok (.new 58, 3) := by decide +kernel
theorem d_Q_readOpened_57 : decode prog_6_method_8_code 57 = .ok (.dup, 1) := by decide +kernel
theorem d_Q_readOpened_58 : decode prog_6_method_8_code 58 = .ok (.sipush 265, 3) := by decide +kernel
theorem d_Q_readOpened_61 : decode prog_6_method_8_code 61 = .ok (.iload_n 3, 1) := by decide +kernel
theorem d_Q_readOpened_62 : decode prog_6_method_8_code 62 = .ok (.lconst 0, 1) := by decide +kernel
theorem d_Q_readOpened_63 : decode prog_6_method_8_code 63 = .ok (.invokespecial 60, 3) := by decide +kernel
theorem d_Q_readOpened_66 : decode prog_6_method_8_code 66 = .ok (.invokevirtual 63, 3) := by decide +kernel
theorem d_Q_readOpened_69 : decode prog_6_method_8_code 69 = .ok (.pop, 1) := by decide +kernel
theorem d_Q_readOpened_70 : decode prog_6_method_8_code 70 = .ok (.iload 4, 2) := by decide +kernel
theorem d_Q_readOpened_72 : decode prog_6_method_8_code 72 = .ok (.ireturn, 1) := by decide +kernel
theorem d_Q_readOpened_20 : decode prog_6_method_8_code 20 = .ok (.aload_n 0, 1) := by decide +kernel
theorem d_Q_readOpened_21 : decode prog_6_method_8_code 21 = .ok (.iload_n 1, 1) := by decide +kernel
theorem d_Q_readOpened_22 : decode prog_6_method_8_code 22 = .ok (.invokevirtual 41, 3) := by decide +kernel
theorem d_Q_readOpened_25 : decode prog_6_method_8_code 25 = .ok (.ifCond .eq 16, 3) := by decide +kernel
theorem d_Q_readOpened_41 : decode prog_6_method_8_code 41 = .ok (.iconst 0, 1) := by decide +kernel
theorem d_Q_readOpened_42 : decode prog_6_method_8_code 42 = .ok (.ireturn, 1) := by decide +kernel
theorem d_Q_readOpened_28 : decode prog_6_method_8_code 28 = .ok (.aload_n 0, 1) := by decide +kernel
theorem d_Q_readOpened_29 : decode prog_6_method_8_code 29 = .ok (.bipush 41, 2) := by decide +kernel
theorem d_Q_readOpened_31 : decode prog_6_method_8_code 31 = .ok (.invokevirtual 84, 3) := by decide +kernel
theorem d_Q_readOpened_34 : decode prog_6_method_8_code 34 = .ok (.ifCond .eq 7, 3) := by decide +kernel
theorem d_Q_readOpened_37 : decode prog_6_method_8_code 37 = .ok (.iconst 1, 1) := by decide +kernel
theorem d_Q_readOpened_38 : decode prog_6_method_8_code 38 = .ok (.goto 4, 3) := by decide +kernel
theorem w1654 : Cond.methodLink "SeriesVault$Question" 84 ⟨"SeriesVault$Question", "take", "(I)Z"⟩ ∈ aW := aw_of (tb_7 (List.mem_of_getElem? (i := 89) rfl)) rfl
theorem w1655 : Cond.code ⟨"SeriesVault$Question", "take", "(I)Z"⟩ prog_6_method_9_code 2 (some FieldType.boolean) ∈ aW := aw_of (tb_7 (List.mem_of_getElem? (i := 92) rfl)) rfl
theorem w1656 : Cond.instanceMethod ⟨"SeriesVault$Question", "take", "(I)Z"⟩ ∈ aW := aw_of (tb_7 (List.mem_of_getElem? (i := 91) rfl)) rfl
theorem w1657 : Cond.selects "SeriesVault$Question" ⟨"SeriesVault$Question", "take", "(I)Z"⟩ ⟨"SeriesVault$Question", "take", "(I)Z"⟩ ∈ aW := aw_pr (List.mem_map.mpr ⟨_, pv_3 (List.mem_of_getElem? (i := 15) rfl), rfl⟩) rfl
set_option maxHeartbeats 4000000 in
set_option maxRecDepth 100000 in
theorem v_QreadOpened (l : Launch) (D : va_G) (dA : Nat → ClassId) (sz : Nat) (e0 mi : Nat) (kA vA : Nat → Nat) (fm : Nat) (h : Nat) (ad : Nat → Nat) (sa : Nat) (g : LI) (r : va_W) (x : VS) (o : Nat) (F : PF) (fr : Nat) (lo : Nat) (hsa : sa = ad 23) (hw : VS.pw dA e0 sa r x g) (hoo : isOo x.qk) (hF : FacC o F fr lo) (hX : ExpC o (pEx (pTm F)) fr lo) (hgF : gdF F) (ho : o ≤ 8) : Met l ⟨"SeriesVault$Question", "readOpened", "(I)Z"⟩ [Cond.code ⟨"SeriesVault$Question", "readOpened", "(I)Z"⟩ prog_6_method_8_code 5 (some FieldType.boolean)] { frames := fr + 7, cells := 8 * (rqP (pOp F x.tape x.qlen x.tk).1 (pOp F x.tape x.qlen x.tk).2.1 - x.qst), slots := 64 * (rqP (pOp F x.tape x.qlen x.tk).1 (pOp F x.tape x.qlen x.tk).2.1 - x.qst) + 4 * (cpR g.eN g.sz (pOp F x.tape x.qlen x.tk).2.2.length - g.eN), locals := lo + 171 } (pCs D dA e0 mi kA vA fm [.ref (ad 22), .int (nI o)] (VW dA h ad x) sz) (va_Qi (fun (r9 : Int32) (u9 : VS × LI) => r9 = bI (pOp F x.tape x.qlen x.tk).1 ∧ VS.pq dA e0 sa r x g (pOp F x.tape x.qlen x.tk) u9.1 u9.2) (fun (u9 : VS × LI) t9 => bW D (va_A (VW dA h ad x) sz) (VW dA h ad u9.1) t9) (va_A (VW dA h ad x) sz)) (8 * (rqP (pOp F x.tape x.qlen x.tk).1 (pOp F x.tape x.qlen x.tk).2.1 - x.qst)) (64 * (rqP (pOp F x.tape x.qlen x.tk).1 (pOp F x.tape x.qlen x.tk).2.1 - x.qst) + 4 * (cpR g.eN g.sz (pOp F x.tape x.qlen x.tk).2.2.length - g.eN)) (va_A (VW dA h ad x) sz) := by
  refine mkS (y := ⟨"SeriesVault$Question", "readOpened", "(I)Z"⟩) (cc := prog_6_method_8_code) (maxL := 5) (av := [.ref (ad 22), .int (nI o)]) (ws := VW dA h ad x) (sz := sz) (Qc := fun A => va_Qi (fun (r9 : Int32) (u9 : VS × LI) => r9 = bI (pOp F x.tape x.qlen x.tk).1 ∧ VS.pq dA e0 sa r x g (pOp F x.tape x.qlen x.tk) u9.1 u9.2) (fun (u9 : VS × LI) t9 => bW D A (VW dA h ad u9.1) t9) A) (by decide) (Nat.le_of_ble_eq_true rfl) ?_
  intro A p e s m below meth c ls hsz hZ hT hM hQ hB
  obtain ⟨hx, hb, hr, hml, hown, hin, hlk, hE, hK, hP, hD, hS, hA, hN, hl⟩ := hB
  have hown : s.vm.findClass "SeriesVault$Question" = some m.cls := hown
  have hl : lv_has ls 5 [(0, .ref (ad 22)), (1, .int (nI o))] := hl
  obtain ⟨H, hH⟩ : ∃ z, z = s.heap := ⟨_, rfl⟩
  have hP : va_P D vwCl (VW dA h ad x) H := by rw [hH]; exact hP
  have hS : va_S A s.heap H [] := by rw [hH]; exact hS
  rw [← hH]
  have kb : x.qst ≤ x.qen ∧ x.qen ≤ x.qlen ∧ x.qlen ≤ x.tpN ∧ x.tpN ≤ 131072 ∧ x.qlen ≤ 16384 := ⟨hw.1.2.2.2.2.2.1, hw.1.2.2.2.2.2.2.1, hw.1.2.1, hw.1.2.2.1, hw.1.2.2.2.1⟩
  have kq : x.qtp = x.tpA := hw.1.1
  have tx0 : tkok x.qlen x.tk := hw.1.2.2.2.2.2
  have nx0 : x.qst < x.qen := tx0.2.2.1 (by rcases hoo with h9 | h9 <;> rw [show x.tk.1 = _ from h9] <;> decide)
  have gz0 : x.qen ≤ rqP (pOp F x.tape x.qlen x.tk).1 (pOp F x.tape x.qlen x.tk).2.1 := (pOp_P hgF tx0 (by rcases hoo with h9 | h9 <;> rw [show x.tk.1 = _ from h9] <;> decide)).2.1
  refine lv_aload_n hx hb d_Q_readOpened_0 rfl (lv_at hl 0 rfl) ?_
  refine gF (v := .int x.qk) hx hb hown hE hK hP 36 rfl rfl layQ 2 (by decide) w663 rfl d_Q_readOpened_1 ?_
  refine lv_istore_n hx hb d_Q_readOpened_4 rfl hl (by decide) rfl (fun ls hl => ?_)
  have hl : lv_has ls 5 [(2, .int x.qk), (0, .ref (ad 22)), (1, .int (nI o))] := hl
  refine lv_aload_n hx hb d_Q_readOpened_5 rfl (lv_at hl 1 rfl) ?_
  refine gF (v := .int (nI x.qst)) hx hb hown hE hK hP 36 rfl rfl layQ 3 (by decide) w662 rfl d_Q_readOpened_6 ?_
  refine lv_istore_n hx hb d_Q_readOpened_9 rfl hl (by decide) rfl (fun ls hl => ?_)
  have hl : lv_has ls 5 [(3, .int (nI x.qst)), (2, .int x.qk), (0, .ref (ad 22)), (1, .int (nI o))] := hl
  refine lv_aload_n hx hb d_Q_readOpened_10 rfl (lv_at hl 2 rfl) ?_
  refine jkV (wr := []) (rnV (As := []) (rest := []) hx hb hml hown hE hK (hN _ _ hS) hP hD (v_Qadvance l D dA H.size h ad x kq (show x.qlen ≤ x.tpN from by omega) (show x.tpN ≤ 131072 from by omega) (show x.qen ≤ x.qlen from by omega)) (q0 := 36) rfl rfl w685 w684 w686 w687 w665 rfl rfl ⟨⟨by decide, by decide⟩, rfl⟩ ⟨(by first | exact Nat.le_of_ble_eq_true rfl | (dsimp only; omega)), (by first | exact Nat.le_of_ble_eq_true rfl | (dsimp only; omega))⟩ rfl hl.1 rfl (by first | exact Nat.le_of_ble_eq_true rfl | (dsimp only; omega)) d_Q_readOpened_11 ⟨(show 0 + 0 ≤ 8 * (rqP (pOp F x.tape x.qlen x.tk).1 (pOp F x.tape x.qlen x.tk).2.1 - x.qst) by omega), (show 0 + 0 ≤ 64 * (rqP (pOp F x.tape x.qlen x.tk).1 (pOp F x.tape x.qlen x.tk).2.1 - x.qst) + 4 * (cpR g.eN g.sz (pOp F x.tape x.qlen x.tk).2.2.length - g.eN) by omega)⟩) hP hD hS hA (fun u2 H locs hp9 hP hD hS => ?_)
  obtain ⟨y1, h9u⟩ : ∃ z9, z9 = u2 := ⟨_, rfl⟩
  subst h9u
  have hP : va_P D vwCl (VW dA h ad y1) H := hP
  have hD : va_D A (VW dA h ad y1) := hD
  have f_e_3 := hp9
  refine lv_iload_n hx hb d_Q_readOpened_14 rfl (lv_at hl 1 rfl) ?_
  refine lv_bipush (v := 40) hx hb d_Q_readOpened_15 (by decide) ?_
  refine lv_icmp_ne hx hb d_Q_readOpened_17 (tgt := 43) rfl (fun g4 => ?_) (fun g4 => ?_)
  · have g4 := g4
    refine lv_aload_n hx hb d_Q_readOpened_43 rfl (lv_at hl 2 rfl) ?_
    refine lv_iload_n hx hb d_Q_readOpened_44 rfl (lv_at hl 3 rfl) ?_
    obtain ⟨hk_y1, qq_y1, tk_y1⟩ := qok_adv hw.1 f_e_3
    have kf1 : y1.tape = x.tape ∧ y1.qlen = x.qlen := ⟨(qr_f (qp_qr qq_y1)).2.2.1, (qr_f (qp_qr qq_y1)).2.1⟩
    have tn1 := nx_ok (f := x.tape) tx0.2.1
    have ey1 : y1.qst = (nxT x.tape x.qlen x.tk).2.1 := congrArg (fun q : TKQ => q.2.1) tk_y1
    have st1 : x.qen ≤ (nxT x.tape x.qlen x.tk).2.1 := tn1.2
    have w1 : VS.pw dA e0 sa r y1 g := pw_nx hw qq_y1 hk_y1 (by omega)
    have E0 : pOp F x.tape x.qlen x.tk = ((F x.tape x.qlen (nxT x.tape x.qlen x.tk)).1, (F x.tape x.qlen (nxT x.tape x.qlen x.tk)).2.1, (F x.tape x.qlen (nxT x.tape x.qlen x.tk)).2.2 ++ [spO 265 x.tk.2.1 0]) := pOp_m g4
    have eRF : F y1.tape y1.qlen y1.tk = F x.tape x.qlen (nxT x.tape x.qlen x.tk) := by rw [kf1.1, kf1.2, tk_y1]
    have gdx := hgF x.tape x.qlen _ tn1.1
    have rF : rqP (F y1.tape y1.qlen y1.tk).1 (F y1.tape y1.qlen y1.tk).2.1 = rqP (pOp F x.tape x.qlen x.tk).1 (pOp F x.tape x.qlen x.tk).2.1 := by rw [eRF, E0]
    have lF : (pOp F x.tape x.qlen x.tk).2.2.length = (F y1.tape y1.qlen y1.tk).2.2.length + 1 := by rw [E0, eRF]; exact List.length_append
    have cF : cpR g.eN g.sz (F y1.tape y1.qlen y1.tk).2.2.length ≤ cpR g.eN g.sz (pOp F x.tape x.qlen x.tk).2.2.length := cpR_m _ _ (by omega)
    have sF := gdx.2.1
    have sF2 := tn1.1.1
    have sF3 : rqP (F y1.tape y1.qlen y1.tk).1 (F y1.tape y1.qlen y1.tk).2.1 = rqP (F x.tape x.qlen (nxT x.tape x.qlen x.tk)).1 (F x.tape x.qlen (nxT x.tape x.qlen x.tk)).2.1 := by rw [eRF]
    have aF := cpR_le g.eN g.sz (F y1.tape y1.qlen y1.tk).2.2.length
    refine jkI (wr := []) (rnVs (As := [.int (nI o)]) (rest := []) hx hb hml hown hE hK hZ hT hM hQ hS (hN _ _ hS) hP hD (hF l D dA H.size e0 mi kA vA fm h ad sa g r y1 hsa w1) (q0 := 36) rfl rfl w670 w669 w671 w672 w665 rfl rfl ⟨⟨by decide, by decide⟩, rfl⟩ ⟨(by first | exact Nat.le_of_ble_eq_true rfl | (dsimp only; omega)), (by first | exact Nat.le_of_ble_eq_true rfl | (dsimp only; omega))⟩ rfl hl.1 rfl (by first | exact Nat.le_of_ble_eq_true rfl | (dsimp only; omega)) d_Q_readOpened_45 ⟨(show 0 + 0 + (8 * (rqP (F y1.tape y1.qlen y1.tk).1 (F y1.tape y1.qlen y1.tk).2.1 - y1.qst)) ≤ 8 * (rqP (pOp F x.tape x.qlen x.tk).1 (pOp F x.tape x.qlen x.tk).2.1 - x.qst) by omega), (show 0 + 0 + (64 * (rqP (F y1.tape y1.qlen y1.tk).1 (F y1.tape y1.qlen y1.tk).2.1 - y1.qst) + 4 * (cpR g.eN g.sz (F y1.tape y1.qlen y1.tk).2.2.length - g.eN)) ≤ 64 * (rqP (pOp F x.tape x.qlen x.tk).1 (pOp F x.tape x.qlen x.tk).2.1 - x.qst) + 4 * (cpR g.eN g.sz (pOp F x.tape x.qlen x.tk).2.2.length - g.eN) by omega)⟩) hP hD hS hA (fun r5 u6 H locs hp9 hP hD hS => ?_)
    obtain ⟨y5, gy5⟩ := u6
    have hP : va_P D vwCl (VW dA h ad y5) H := hP
    have hD : va_D A (VW dA h ad y5) := hD
    obtain ⟨hp9, f_p_7⟩ := hp9
    replace hp9 : bI (F y1.tape y1.qlen y1.tk).1 = r5 := Eq.symm hp9
    subst hp9
    refine lv_istore hx hb d_Q_readOpened_48 hl (by decide) rfl (fun ls hl => ?_)
    have hl : lv_has ls 5 [(4, .int (bI (F y1.tape y1.qlen y1.tk).1)), (3, .int (nI x.qst)), (2, .int x.qk), (0, .ref (ad 22)), (1, .int (nI o))] := hl
    refine lv_aload_n hx hb d_Q_readOpened_50 rfl (lv_at hl 3 rfl) ?_
    have hp5 := pq_pre (qp_qr qq_y1) f_p_7
    rw [eRF] at hp5
    refine gF (v := .ref (ad 23)) hx hb hown hE hK hP 36 rfl rfl layQ 8 (by decide) w678 rfl d_Q_readOpened_51 ?_
    refine nOf hx hb hown hE hK hP hD hS hA (ci := 13) rfl layE tyE tokE w1648 w859 w1496 (fs := [.int 0, .int 0, .long 0, .null, .int 0, .null, .null, .null]) dfE (show (0 + 0 + (8 * (rqP (F y1.tape y1.qlen y1.tk).1 (F y1.tape y1.qlen y1.tk).2.1 - y1.qst))) + 1 ≤ 8 * (rqP (pOp F x.tape x.qlen x.tk).1 (pOp F x.tape x.qlen x.tk).2.1 - x.qst) by omega) (show (0 + 0 + (64 * (rqP (F y1.tape y1.qlen y1.tk).1 (F y1.tape y1.qlen y1.tk).2.1 - y1.qst) + 4 * (cpR g.eN g.sz (F y1.tape y1.qlen y1.tk).2.2.length - g.eN))) + 8 ≤ 64 * (rqP (pOp F x.tape x.qlen x.tk).1 (pOp F x.tape x.qlen x.tk).2.1 - x.qst) + 4 * (cpR g.eN g.sz (pOp F x.tape x.qlen x.tk).2.2.length - g.eN) by omega) d_Q_readOpened_54 (fun sp H hP hD hS => ?_)
    have hP : va_P D vwCl ([(sp, .inr (13, [.int 0, .int 0, .long 0, .null, .int 0, .null, .null, .null]))] ++ (VW dA h ad y5)) H := hP
    have hD : va_D A ([(sp, .inr (13, [.int 0, .int 0, .long 0, .null, .int 0, .null, .null, .null]))] ++ (VW dA h ad y5)) := hD
    refine lv_dup hx hb d_Q_readOpened_57 rfl ?_
    refine lv_sipush (v := 265) hx hb d_Q_readOpened_58 (by decide) ?_
    refine lv_iload_n hx hb d_Q_readOpened_61 rfl (lv_at hl 1 rfl) ?_
    refine lv_lconst (v := 0) hx hb d_Q_readOpened_62 (by decide) ?_
    refine jkV (wr := []) (rnIy (As := [.int 265, .int (nI x.qst), .long 0]) (rest := [.ref sp, .ref (ad 23)]) hx hb hml hown hE hK hZ hT hM hS (hN _ _ hS) hP hD (v_Einit_o l D dA H.size e0 mi (VW dA h ad y5) sp 265 x.qst 0 (by decide)) w1651 w1650 w1652 w1496 rfl rfl rfl ⟨⟨by decide, by decide⟩, rfl⟩ ⟨(by first | exact Nat.le_of_ble_eq_true rfl | (dsimp only; omega)), (by first | exact Nat.le_of_ble_eq_true rfl | (dsimp only; omega))⟩ rfl hl.1 rfl (by first | exact Nat.le_of_ble_eq_true rfl | (dsimp only; omega)) d_Q_readOpened_63 ⟨(show 0 + 0 + (8 * (rqP (F y1.tape y1.qlen y1.tk).1 (F y1.tape y1.qlen y1.tk).2.1 - y1.qst)) + 1 + 4 ≤ 8 * (rqP (pOp F x.tape x.qlen x.tk).1 (pOp F x.tape x.qlen x.tk).2.1 - x.qst) by omega), (show 0 + 0 + (64 * (rqP (F y1.tape y1.qlen y1.tk).1 (F y1.tape y1.qlen y1.tk).2.1 - y1.qst) + 4 * (cpR g.eN g.sz (F y1.tape y1.qlen y1.tk).2.2.length - g.eN)) + 8 + 6 ≤ 64 * (rqP (pOp F x.tape x.qlen x.tk).1 (pOp F x.tape x.qlen x.tk).2.1 - x.qst) + 4 * (cpR g.eN g.sz (pOp F x.tape x.qlen x.tk).2.2.length - g.eN) by omega)⟩) hP hD hS hA (fun u9 H locs hp9 hP hD hS => ?_)
    obtain ⟨na, ln, lt, mk⟩ := u9
    have hP : va_P D vwCl ([(na, .inl (dA 6, 0, .inr (.inr (.inr (.inr (fun _ => none))))))] ++ ([(ln, .inr (6, [.ref e0, .int 0, .int 0]))] ++ ([(lt, .inr (6, [.ref e0, .int 0, .int 0]))] ++ ([(mk, .inl (dA 1, 0, .inl (fun _ => 0)))] ++ ([(sp, .inr (13, [.int 265, .int (nI x.qst), .long 0, .ref na, .int 0, .ref ln, .ref lt, .ref mk]))] ++ (VW dA h ad y5)))))) H := hP
    have hD : va_D A ([(na, .inl (dA 6, 0, .inr (.inr (.inr (.inr (fun _ => none))))))] ++ ([(ln, .inr (6, [.ref e0, .int 0, .int 0]))] ++ ([(lt, .inr (6, [.ref e0, .int 0, .int 0]))] ++ ([(mk, .inl (dA 1, 0, .inl (fun _ => 0)))] ++ ([(sp, .inr (13, [.int 265, .int (nI x.qst), .long 0, .ref na, .int 0, .ref ln, .ref lt, .ref mk]))] ++ (VW dA h ad y5)))))) := hD
    have hP : va_P D vwCl (VW dA h ad (VS.s_pl y5 (y5.pl ++ ([(na, .inl (dA 6, 0, .inr (.inr (.inr (.inr (fun _ => none))))))] ++ ([(ln, .inr (6, [.ref e0, .int 0, .int 0]))] ++ ([(lt, .inr (6, [.ref e0, .int 0, .int 0]))] ++ ([(mk, .inl (dA 1, 0, .inl (fun _ => 0)))] ++ ([(sp, .inr (13, [.int 265, .int (nI x.qst), .long 0, .ref na, .int 0, .ref ln, .ref lt, .ref mk]))])))))))) H := pmP (show List.Perm (α := Nat × va_E) ([(na, .inl (dA 6, 0, .inr (.inr (.inr (.inr (fun _ => none))))))] ++ ([(ln, .inr (6, [.ref e0, .int 0, .int 0]))] ++ ([(lt, .inr (6, [.ref e0, .int 0, .int 0]))] ++ ([(mk, .inl (dA 1, 0, .inl (fun _ => 0)))] ++ ([(sp, .inr (13, [.int 265, .int (nI x.qst), .long 0, .ref na, .int 0, .ref ln, .ref lt, .ref mk]))] ++ (VW dA h ad y5)))))) (VW dA h ad (VS.s_pl y5 (y5.pl ++ ([(na, .inl (dA 6, 0, .inr (.inr (.inr (.inr (fun _ => none))))))] ++ ([(ln, .inr (6, [.ref e0, .int 0, .int 0]))] ++ ([(lt, .inr (6, [.ref e0, .int 0, .int 0]))] ++ ([(mk, .inl (dA 1, 0, .inl (fun _ => 0)))] ++ ([(sp, .inr (13, [.int 265, .int (nI x.qst), .long 0, .ref na, .int 0, .ref ln, .ref lt, .ref mk]))])))))))) from plP5 (dA := dA) (h := h) (ad := ad) y5 ([(na, .inl (dA 6, 0, .inr (.inr (.inr (.inr (fun _ => none))))))]) ([(ln, .inr (6, [.ref e0, .int 0, .int 0]))]) ([(lt, .inr (6, [.ref e0, .int 0, .int 0]))]) ([(mk, .inl (dA 1, 0, .inl (fun _ => 0)))]) ([(sp, .inr (13, [.int 265, .int (nI x.qst), .long 0, .ref na, .int 0, .ref ln, .ref lt, .ref mk]))])) hP
    have hD : va_D A (VW dA h ad (VS.s_pl y5 (y5.pl ++ ([(na, .inl (dA 6, 0, .inr (.inr (.inr (.inr (fun _ => none))))))] ++ ([(ln, .inr (6, [.ref e0, .int 0, .int 0]))] ++ ([(lt, .inr (6, [.ref e0, .int 0, .int 0]))] ++ ([(mk, .inl (dA 1, 0, .inl (fun _ => 0)))] ++ ([(sp, .inr (13, [.int 265, .int (nI x.qst), .long 0, .ref na, .int 0, .ref ln, .ref lt, .ref mk]))])))))))) := pmD (show List.Perm (α := Nat × va_E) ([(na, .inl (dA 6, 0, .inr (.inr (.inr (.inr (fun _ => none))))))] ++ ([(ln, .inr (6, [.ref e0, .int 0, .int 0]))] ++ ([(lt, .inr (6, [.ref e0, .int 0, .int 0]))] ++ ([(mk, .inl (dA 1, 0, .inl (fun _ => 0)))] ++ ([(sp, .inr (13, [.int 265, .int (nI x.qst), .long 0, .ref na, .int 0, .ref ln, .ref lt, .ref mk]))] ++ (VW dA h ad y5)))))) (VW dA h ad (VS.s_pl y5 (y5.pl ++ ([(na, .inl (dA 6, 0, .inr (.inr (.inr (.inr (fun _ => none))))))] ++ ([(ln, .inr (6, [.ref e0, .int 0, .int 0]))] ++ ([(lt, .inr (6, [.ref e0, .int 0, .int 0]))] ++ ([(mk, .inl (dA 1, 0, .inl (fun _ => 0)))] ++ ([(sp, .inr (13, [.int 265, .int (nI x.qst), .long 0, .ref na, .int 0, .ref ln, .ref lt, .ref mk]))])))))))) from plP5 (dA := dA) (h := h) (ad := ad) y5 ([(na, .inl (dA 6, 0, .inr (.inr (.inr (.inr (fun _ => none))))))]) ([(ln, .inr (6, [.ref e0, .int 0, .int 0]))]) ([(lt, .inr (6, [.ref e0, .int 0, .int 0]))]) ([(mk, .inl (dA 1, 0, .inl (fun _ => 0)))]) ([(sp, .inr (13, [.int 265, .int (nI x.qst), .long 0, .ref na, .int 0, .ref ln, .ref lt, .ref mk]))])) hD
    obtain ⟨pl10, e_pl10⟩ : ∃ z9, z9 = y5.pl ++ ([(na, .inl (dA 6, 0, .inr (.inr (.inr (.inr (fun _ => none))))))] ++ ([(ln, .inr (6, [.ref e0, .int 0, .int 0]))] ++ ([(lt, .inr (6, [.ref e0, .int 0, .int 0]))] ++ ([(mk, .inl (dA 1, 0, .inl (fun _ => 0)))] ++ ([(sp, .inr (13, [.int 265, .int (nI x.qst), .long 0, .ref na, .int 0, .ref ln, .ref lt, .ref mk]))]))))) := ⟨_, rfl⟩
    rw [← e_pl10] at hP hD
    have s_pl10 : ∀ c, c ∈ y5.pl → c ∈ pl10 := by rw [e_pl10]; exact fun _ hm => List.mem_append_left _ hm
    have t_pl10_0 : ((na, .inl (dA 6, 0, .inr (.inr (.inr (.inr (fun _ => none)))))) : Nat × va_E) ∈ pl10 := by rw [e_pl10]; exact List.mem_append_right _ (List.mem_of_getElem? (i := 0) rfl)
    have t_pl10_1 : ((ln, .inr (6, [.ref e0, .int 0, .int 0])) : Nat × va_E) ∈ pl10 := by rw [e_pl10]; exact List.mem_append_right _ (List.mem_of_getElem? (i := 1) rfl)
    have t_pl10_2 : ((lt, .inr (6, [.ref e0, .int 0, .int 0])) : Nat × va_E) ∈ pl10 := by rw [e_pl10]; exact List.mem_append_right _ (List.mem_of_getElem? (i := 2) rfl)
    have t_pl10_3 : ((mk, .inl (dA 1, 0, .inl (fun _ => 0))) : Nat × va_E) ∈ pl10 := by rw [e_pl10]; exact List.mem_append_right _ (List.mem_of_getElem? (i := 3) rfl)
    have t_pl10_4 : ((sp, .inr (13, [.int 265, .int (nI x.qst), .long 0, .ref na, .int 0, .ref ln, .ref lt, .ref mk])) : Nat × va_E) ∈ pl10 := by rw [e_pl10]; exact List.mem_append_right _ (List.mem_of_getElem? (i := 4) rfl)
    have hP : va_P D vwCl (VW dA h ad (VS.s_pl y5 pl10)) H := hP
    have hD : va_D A (VW dA h ad (VS.s_pl y5 pl10)) := hD
    obtain ⟨y6, e_y6⟩ : ∃ w9, w9 = VS.s_pl y5 pl10 := ⟨_, rfl⟩
    rw [← e_y6] at hP hD
    have hP : va_P D vwCl (VW dA h ad y6) H := hP
    have hD : va_D A (VW dA h ad y6) := hD
    have pk6 : y5.pk y6 := by rw [e_y6]; exact ⟨rfl, s_pl10⟩
    have ep6 : y6.pl = pl10 := by rw [e_y6]
    have hp6 := pq_pk hp5 pk6
    have ms6 : (sp, .inr (13, [.int 265, .int (nI x.qst), .long 0, .ref na, .int 0, .ref ln, .ref lt, .ref mk])) ∈ y6.pl := by rw [ep6]; exact t_pl10_4
    have is6 : isSP dA y6.pl sp (spO 265 x.qst 0) := by rw [ep6]; exact isSP_o t_pl10_4 t_pl10_0 t_pl10_1 t_pl10_2 t_pl10_3
    have hl6 : y6.ll = LqW dA sa gy5 ++ r := hp6.2.2.1.2.1
    have b4 : gy5.sz = g.sz + (F x.tape x.qlen (nxT x.tape x.qlen x.tk)).2.2.length := hp6.2.2.2.1
    have b5 : gy5.eN = cpR g.eN g.sz (F y1.tape y1.qlen y1.tk).2.2.length := by rw [eRF]; exact hp6.2.2.2.2.1
    have b3 := gq_S gy5
    have b6 := gdx.2.2
    have b7 := hw.2.2.2
    have ey6 : y6.qst = (F x.tape x.qlen (nxT x.tape x.qlen x.tk)).2.1.2.1 := congrArg (fun q : TKQ => q.2.1) hp6.2.1
    have b8 : gy5.sz < y6.qst := by omega
    have b9 : gqN gy5 = cpR g.eN g.sz (pOp F x.tape x.qlen x.tk).2.2.length := by rw [lF, eRF]; show gqN gy5 = (if _ then _ else _); rw [← eRF, ← b5, show g.sz + (F y1.tape y1.qlen y1.tk).2.2.length = gy5.sz by rw [eRF]; omega]; rfl
    rw [← hsa]
    have hP := pmP (show List.Perm (α := Nat × va_E) (VW dA h ad y6) (LqW dA sa gy5 ++ (VW dA h ad (VS.s_ll y6 r))) from llP (dA := dA) (h := h) (ad := ad) (x := y6) (L := LqW dA sa gy5) (r := r) hl6) hP
    have hD := pmD (show List.Perm (α := Nat × va_E) (VW dA h ad y6) (LqW dA sa gy5 ++ (VW dA h ad (VS.s_ll y6 r))) from llP (dA := dA) (h := h) (ad := ad) (x := y6) (L := LqW dA sa gy5) (r := r) hl6) hD
    have hP : va_P D vwCl (LqW dA sa gy5 ++ (VW dA h ad (VS.s_ll y6 r))) H := hP
    have hD : va_D A (LqW dA sa gy5 ++ (VW dA h ad (VS.s_ll y6 r))) := hD
    refine jkI (wr := []) (rnVy (As := [.ref sp]) (rest := []) hx hb hml hown hE hK hZ hT hM hS (hN _ _ hS) hP hD (v_LaddQ_E l D dA H.size e0 mi (VW dA h ad (VS.s_ll y6 r)) sa gy5 sp ([.int 265, .int (nI x.qst), .long 0, .ref na, .int 0, .ref ln, .ref lt, .ref mk]) hp6.2.2.1.2.2.1.1 (fun i hi y hy => by obtain ⟨vs, hv⟩ := hp6.2.2.1.2.2.1.2 i hi y hy; have h9 : (y, .inr (13, vs)) ∈ (VS.s_ll y6 r).pl := hv; exact ⟨vs, (fun _ hm => (plm hm)) _ h9⟩) (by have h9 : (sp, .inr (13, [.int 265, .int (nI x.qst), .long 0, .ref na, .int 0, .ref ln, .ref lt, .ref mk])) ∈ (VS.s_ll y6 r).pl := ms6; exact ((fun _ hm => (plm hm)) _ h9))) (q0 := 0) rfl rfl w812 w1653 w813 w814 w680 rfl rfl ⟨⟨by decide, by decide⟩, rfl⟩ ⟨(by first | exact Nat.le_of_ble_eq_true rfl | (dsimp only; omega)), (by first | exact Nat.le_of_ble_eq_true rfl | (dsimp only; omega))⟩ rfl hl.1 rfl (by first | exact Nat.le_of_ble_eq_true rfl | (dsimp only; omega)) d_Q_readOpened_66 ⟨(show 0 + 0 + (8 * (rqP (F y1.tape y1.qlen y1.tk).1 (F y1.tape y1.qlen y1.tk).2.1 - y1.qst)) + 1 + 4 + 1 ≤ 8 * (rqP (pOp F x.tape x.qlen x.tk).1 (pOp F x.tape x.qlen x.tk).2.1 - x.qst) by omega), (show 0 + 0 + (64 * (rqP (F y1.tape y1.qlen y1.tk).1 (F y1.tape y1.qlen y1.tk).2.1 - y1.qst) + 4 * (cpR g.eN g.sz (F y1.tape y1.qlen y1.tk).2.2.length - g.eN)) + 8 + 6 + (gqS gy5) ≤ 64 * (rqP (pOp F x.tape x.qlen x.tk).1 (pOp F x.tape x.qlen x.tk).2.1 - x.qst) + 4 * (cpR g.eN g.sz (pOp F x.tape x.qlen x.tk).2.2.length - g.eN) by omega)⟩) hP hD hS hA (fun r11 u12 H locs hp9 hP hD hS => ?_)
    obtain ⟨gy3, h9u⟩ : ∃ z9, z9 = u12 := ⟨_, rfl⟩
    subst h9u
    have hP : va_P D vwCl (LqW dA sa gy3 ++ (VW dA h ad (VS.s_ll y6 r))) H := hP
    have hD : va_D A (LqW dA sa gy3 ++ (VW dA h ad (VS.s_ll y6 r))) := hD
    obtain ⟨hp9, f_f_13⟩ := hp9
    replace hp9 : 1 = r11 := Eq.symm hp9
    subst hp9
    refine lv_pop hx hb d_Q_readOpened_69 rfl ?_
    refine lv_iload hx hb d_Q_readOpened_70 (lv_at hl 0 rfl) ?_
    have hP := pmP (show List.Perm (α := Nat × va_E) (LqW dA sa gy3 ++ (VW dA h ad (VS.s_ll y6 r))) (VW dA h ad (VS.s_ll y6 (LqW dA sa gy3 ++ r))) from (llP (dA := dA) (h := h) (ad := ad) (x := (VS.s_ll y6 (LqW dA sa gy3 ++ r))) (L := LqW dA sa gy3) (r := r) rfl).symm) hP
    have hD := pmD (show List.Perm (α := Nat × va_E) (LqW dA sa gy3 ++ (VW dA h ad (VS.s_ll y6 r))) (VW dA h ad (VS.s_ll y6 (LqW dA sa gy3 ++ r))) from (llP (dA := dA) (h := h) (ad := ad) (x := (VS.s_ll y6 (LqW dA sa gy3 ++ r))) (L := LqW dA sa gy3) (r := r) rfl).symm) hD
    have hP : va_P D vwCl (VW dA h ad (VS.s_ll y6 (LqW dA sa gy3 ++ r))) H := hP
    have hD : va_D A (VW dA h ad (VS.s_ll y6 (LqW dA sa gy3 ++ r))) := hD
    obtain ⟨y7, e_y7⟩ : ∃ w9, w9 = VS.s_ll y6 (LqW dA sa gy3 ++ r) := ⟨_, rfl⟩
    rw [← e_y7] at hP hD
    have hP : va_P D vwCl (VW dA h ad y7) H := hP
    have hD : va_D A (VW dA h ad y7) := hD
    have hp7 := pq_add (s := spO 265 x.qst 0) (n := y6.qlen) hp6 ms6 (fun _ => is6) f_f_13 e_y7 (Nat.le_refl _) hp6.2.2.1.1.2.2.2.1 b8
    exact rfZ hx hb hr (bI_nar ((F y1.tape y1.qlen y1.tk).1)) hlk hS (⟨y7, gy3⟩) ⟨by rw [E0, eRF], by rw [E0]; exact hp7⟩ hP hD (show 0 + 0 + (8 * (rqP (F y1.tape y1.qlen y1.tk).1 (F y1.tape y1.qlen y1.tk).2.1 - y1.qst)) + 1 + 4 + 1 ≤ 8 * (rqP (pOp F x.tape x.qlen x.tk).1 (pOp F x.tape x.qlen x.tk).2.1 - x.qst) by omega) (show 0 + 0 + (64 * (rqP (F y1.tape y1.qlen y1.tk).1 (F y1.tape y1.qlen y1.tk).2.1 - y1.qst) + 4 * (cpR g.eN g.sz (F y1.tape y1.qlen y1.tk).2.2.length - g.eN)) + 8 + 6 + (gqS gy5) ≤ 64 * (rqP (pOp F x.tape x.qlen x.tk).1 (pOp F x.tape x.qlen x.tk).2.1 - x.qst) + 4 * (cpR g.eN g.sz (pOp F x.tape x.qlen x.tk).2.2.length - g.eN) by omega) d_Q_readOpened_72
  · have g4 := g4
    refine lv_aload_n hx hb d_Q_readOpened_20 rfl (lv_at hl 2 rfl) ?_
    refine lv_iload_n hx hb d_Q_readOpened_21 rfl (lv_at hl 3 rfl) ?_
    obtain ⟨hk_y1, qq_y1, tk_y1⟩ := qok_adv hw.1 f_e_3
    have kf1 : y1.tape = x.tape ∧ y1.qlen = x.qlen := ⟨(qr_f (qp_qr qq_y1)).2.2.1, (qr_f (qp_qr qq_y1)).2.1⟩
    have tn1 := nx_ok (f := x.tape) tx0.2.1
    have ey1 : y1.qst = (nxT x.tape x.qlen x.tk).2.1 := congrArg (fun q : TKQ => q.2.1) tk_y1
    have st1 : x.qen ≤ (nxT x.tape x.qlen x.tk).2.1 := tn1.2
    have w1 : VS.pw dA e0 sa r y1 g := pw_nx hw qq_y1 hk_y1 (by omega)
    have E0 : pOp F x.tape x.qlen x.tk = pOc x.tape x.qlen (pEx (pTm F) x.tape x.qlen (nxT x.tape x.qlen x.tk)) := pOp_b g4
    have eRE : pEx (pTm F) y1.tape y1.qlen y1.tk = pEx (pTm F) x.tape x.qlen (nxT x.tape x.qlen x.tk) := by rw [kf1.1, kf1.2, tk_y1]
    have gde := pEx_g (pTm_g hgF) x.tape x.qlen _ tn1.1
    obtain ⟨-, oc2, oc3⟩ := pOc_P (f := x.tape) gde
    rw [← E0] at oc2 oc3
    have rE : rqP (pEx (pTm F) y1.tape y1.qlen y1.tk).1 (pEx (pTm F) y1.tape y1.qlen y1.tk).2.1 = rqP (pEx (pTm F) x.tape x.qlen (nxT x.tape x.qlen x.tk)).1 (pEx (pTm F) x.tape x.qlen (nxT x.tape x.qlen x.tk)).2.1 := by rw [eRE]
    have lE : (pEx (pTm F) y1.tape y1.qlen y1.tk).2.2.length = (pOp F x.tape x.qlen x.tk).2.2.length := by rw [eRE, oc3]
    have cE : cpR g.eN g.sz (pEx (pTm F) y1.tape y1.qlen y1.tk).2.2.length = cpR g.eN g.sz (pOp F x.tape x.qlen x.tk).2.2.length := by rw [lE]
    have sE := gde.2.1
    have sE2 := tn1.1.1
    refine jkI (wr := []) (rnVs (As := [.int (nI o)]) (rest := []) hx hb hml hown hE hK hZ hT hM hQ hS (hN _ _ hS) hP hD (hX l D dA H.size e0 mi kA vA fm h ad sa g r y1 hsa w1) (q0 := 36) rfl rfl w689 w688 w690 w691 w665 rfl rfl ⟨⟨by decide, by decide⟩, rfl⟩ ⟨(by first | exact Nat.le_of_ble_eq_true rfl | (dsimp only; omega)), (by first | exact Nat.le_of_ble_eq_true rfl | (dsimp only; omega))⟩ rfl hl.1 rfl (by first | exact Nat.le_of_ble_eq_true rfl | (dsimp only; omega)) d_Q_readOpened_22 ⟨(show 0 + 0 + (8 * (rqP (pEx (pTm F) y1.tape y1.qlen y1.tk).1 (pEx (pTm F) y1.tape y1.qlen y1.tk).2.1 - y1.qst)) ≤ 8 * (rqP (pOp F x.tape x.qlen x.tk).1 (pOp F x.tape x.qlen x.tk).2.1 - x.qst) by omega), (show 0 + 0 + (64 * (rqP (pEx (pTm F) y1.tape y1.qlen y1.tk).1 (pEx (pTm F) y1.tape y1.qlen y1.tk).2.1 - y1.qst) + 4 * (cpR g.eN g.sz (pEx (pTm F) y1.tape y1.qlen y1.tk).2.2.length - g.eN)) ≤ 64 * (rqP (pOp F x.tape x.qlen x.tk).1 (pOp F x.tape x.qlen x.tk).2.1 - x.qst) + 4 * (cpR g.eN g.sz (pOp F x.tape x.qlen x.tk).2.2.length - g.eN) by omega)⟩) hP hD hS hA (fun r14 u15 H locs hp9 hP hD hS => ?_)
    obtain ⟨y2, gy2⟩ := u15
    have hP : va_P D vwCl (VW dA h ad y2) H := hP
    have hD : va_D A (VW dA h ad y2) := hD
    obtain ⟨hp9, f_p_16⟩ := hp9
    replace hp9 : bI (pEx (pTm F) y1.tape y1.qlen y1.tk).1 = r14 := Eq.symm hp9
    subst hp9
    have hp2 := pq_pre (qp_qr qq_y1) f_p_16
    rw [eRE] at hp2
    refine lv_if_eq hx hb d_Q_readOpened_25 (tgt := 41) rfl (fun g17 => ?_) (fun g17 => ?_)
    · have g17 := bI_0 g17
      refine lv_iconst (v := 0) hx hb d_Q_readOpened_41 (by decide) ?_
      exact rfZ hx hb hr (bI_nar false) hlk hS (⟨y2, gy2⟩) (by have E1 := E0.trans (pOc_f (by rw [← eRE]; exact g17)); exact ⟨by rw [E1, ← eRE, g17]; rfl, by rw [E1]; exact hp2⟩) hP hD (show 0 + 0 + (8 * (rqP (pEx (pTm F) y1.tape y1.qlen y1.tk).1 (pEx (pTm F) y1.tape y1.qlen y1.tk).2.1 - y1.qst)) ≤ 8 * (rqP (pOp F x.tape x.qlen x.tk).1 (pOp F x.tape x.qlen x.tk).2.1 - x.qst) by omega) (show 0 + 0 + (64 * (rqP (pEx (pTm F) y1.tape y1.qlen y1.tk).1 (pEx (pTm F) y1.tape y1.qlen y1.tk).2.1 - y1.qst) + 4 * (cpR g.eN g.sz (pEx (pTm F) y1.tape y1.qlen y1.tk).2.2.length - g.eN)) ≤ 64 * (rqP (pOp F x.tape x.qlen x.tk).1 (pOp F x.tape x.qlen x.tk).2.1 - x.qst) + 4 * (cpR g.eN g.sz (pOp F x.tape x.qlen x.tk).2.2.length - g.eN) by omega) d_Q_readOpened_42
    · have g17 := bI_n0 g17
      refine lv_aload_n hx hb d_Q_readOpened_28 rfl (lv_at hl 2 rfl) ?_
      refine lv_bipush (v := 41) hx hb d_Q_readOpened_29 (by decide) ?_
      have kb_y2 : y2.qst ≤ y2.qen ∧ y2.qen ≤ y2.qlen ∧ y2.qlen ≤ y2.tpN ∧ y2.tpN ≤ 131072 ∧ y2.qlen ≤ 16384 := ⟨hp2.2.2.1.1.2.2.2.2.2.1, hp2.2.2.1.1.2.2.2.2.2.2.1, hp2.2.2.1.1.2.1, hp2.2.2.1.1.2.2.1, hp2.2.2.1.1.2.2.2.1⟩
      have kq_y2 : y2.qtp = y2.tpA := hp2.2.2.1.1.1
      refine jkI (wr := []) (rnV (As := [.int 41]) (rest := []) hx hb hml hown hE hK (hN _ _ hS) hP hD (v_Qtake l D dA H.size h ad y2 41 kq_y2 (show y2.qlen ≤ y2.tpN from by omega) (show y2.tpN ≤ 131072 from by omega) (show y2.qen ≤ y2.qlen from by omega) (show y2.qst ≤ y2.qlen from by omega)) (q0 := 36) rfl rfl w1655 w1654 w1656 w1657 w665 rfl rfl ⟨⟨by decide, by decide⟩, rfl⟩ ⟨(by first | exact Nat.le_of_ble_eq_true rfl | (dsimp only; omega)), (by first | exact Nat.le_of_ble_eq_true rfl | (dsimp only; omega))⟩ rfl hl.1 rfl (by first | exact Nat.le_of_ble_eq_true rfl | (dsimp only; omega)) d_Q_readOpened_31 ⟨(show 0 + 0 + (8 * (rqP (pEx (pTm F) y1.tape y1.qlen y1.tk).1 (pEx (pTm F) y1.tape y1.qlen y1.tk).2.1 - y1.qst)) + 0 ≤ 8 * (rqP (pOp F x.tape x.qlen x.tk).1 (pOp F x.tape x.qlen x.tk).2.1 - x.qst) by omega), (show 0 + 0 + (64 * (rqP (pEx (pTm F) y1.tape y1.qlen y1.tk).1 (pEx (pTm F) y1.tape y1.qlen y1.tk).2.1 - y1.qst) + 4 * (cpR g.eN g.sz (pEx (pTm F) y1.tape y1.qlen y1.tk).2.2.length - g.eN)) + 0 ≤ 64 * (rqP (pOp F x.tape x.qlen x.tk).1 (pOp F x.tape x.qlen x.tk).2.1 - x.qst) + 4 * (cpR g.eN g.sz (pOp F x.tape x.qlen x.tk).2.2.length - g.eN) by omega)⟩) hP hD hS hA (fun r18 u19 H locs hp9 hP hD hS => ?_)
      obtain ⟨y3, h9u⟩ : ∃ z9, z9 = u19 := ⟨_, rfl⟩
      subst h9u
      have hP : va_P D vwCl (VW dA h ad y3) H := hP
      have hD : va_D A (VW dA h ad y3) := hD
      obtain ⟨hp9, f_e_20⟩ := hp9
      replace hp9 : bI (decide (y2.qk = 41)) = r18 := Eq.symm hp9
      subst hp9
      obtain ⟨hk_y3, qq_y3, tk_y3⟩ := qok_take hp2.2.2.1.1 f_e_20
      have kf2 : y2.tape = x.tape ∧ y2.qlen = x.qlen := ⟨(qr_f hp2.1).2.2.1, (qr_f hp2.1).2.1⟩
      have tt3 : y3.tk = (tkT x.tape x.qlen (pEx (pTm F) x.tape x.qlen (nxT x.tape x.qlen x.tk)).2.1 41).2 := by rw [tk_y3, kf2.1, kf2.2, hp2.2.1]
      have sm3 : y2.qst ≤ y3.qst := by have e9 := (tk_P (f := y2.tape) (n := y2.qlen) (t := y2.tk) (k := 41) hp2.2.2.1.1.2.2.2.2.2).2.2; rw [← tk_y3] at e9; exact e9
      refine lv_if_eq hx hb d_Q_readOpened_34 (tgt := 41) rfl (fun g21 => ?_) (fun g21 => ?_)
      · have g21 := bI_0 g21
        refine lv_iconst (v := 0) hx hb d_Q_readOpened_41 (by decide) ?_
        exact rfZ hx hb hr (bI_nar false) hlk hS (⟨y3, gy2⟩) (by have E1 := E0.trans (pOc_t (show (pEx (pTm F) x.tape x.qlen (nxT x.tape x.qlen x.tk)).1 = true by rw [← eRE]; exact g17)); have T1 : (tkT x.tape x.qlen (pEx (pTm F) x.tape x.qlen (nxT x.tape x.qlen x.tk)).2.1 41).1 = false := tk_b (by rw [← hp2.2.1]; exact g21); exact ⟨by rw [E1]; show _ = bI (tkT x.tape x.qlen (pEx (pTm F) x.tape x.qlen (nxT x.tape x.qlen x.tk)).2.1 41).1; rw [T1]; rfl, by rw [E1]; exact pq_tk hp2 (show (pEx (pTm F) x.tape x.qlen (nxT x.tape x.qlen x.tk)).1 = true by rw [← eRE]; exact g17) qq_y3 hk_y3 tt3 sm3⟩) hP hD (show 0 + 0 + (8 * (rqP (pEx (pTm F) y1.tape y1.qlen y1.tk).1 (pEx (pTm F) y1.tape y1.qlen y1.tk).2.1 - y1.qst)) + 0 ≤ 8 * (rqP (pOp F x.tape x.qlen x.tk).1 (pOp F x.tape x.qlen x.tk).2.1 - x.qst) by omega) (show 0 + 0 + (64 * (rqP (pEx (pTm F) y1.tape y1.qlen y1.tk).1 (pEx (pTm F) y1.tape y1.qlen y1.tk).2.1 - y1.qst) + 4 * (cpR g.eN g.sz (pEx (pTm F) y1.tape y1.qlen y1.tk).2.2.length - g.eN)) + 0 ≤ 64 * (rqP (pOp F x.tape x.qlen x.tk).1 (pOp F x.tape x.qlen x.tk).2.1 - x.qst) + 4 * (cpR g.eN g.sz (pOp F x.tape x.qlen x.tk).2.2.length - g.eN) by omega) d_Q_readOpened_42
      · have g21 := bI_n0 g21
        refine lv_iconst (v := 1) hx hb d_Q_readOpened_37 (by decide) ?_
        refine lv_goto hx hb d_Q_readOpened_38 (tgt := 42) rfl ?_
        exact rfZ hx hb hr (bI_nar true) hlk hS (⟨y3, gy2⟩) (by have E1 := E0.trans (pOc_t (show (pEx (pTm F) x.tape x.qlen (nxT x.tape x.qlen x.tk)).1 = true by rw [← eRE]; exact g17)); have T1 : (tkT x.tape x.qlen (pEx (pTm F) x.tape x.qlen (nxT x.tape x.qlen x.tk)).2.1 41).1 = true := tk_b (by rw [← hp2.2.1]; exact g21); exact ⟨by rw [E1]; show _ = bI (tkT x.tape x.qlen (pEx (pTm F) x.tape x.qlen (nxT x.tape x.qlen x.tk)).2.1 41).1; rw [T1]; rfl, by rw [E1]; exact pq_tk hp2 (show (pEx (pTm F) x.tape x.qlen (nxT x.tape x.qlen x.tk)).1 = true by rw [← eRE]; exact g17) qq_y3 hk_y3 tt3 sm3⟩) hP hD (show 0 + 0 + (8 * (rqP (pEx (pTm F) y1.tape y1.qlen y1.tk).1 (pEx (pTm F) y1.tape y1.qlen y1.tk).2.1 - y1.qst)) + 0 ≤ 8 * (rqP (pOp F x.tape x.qlen x.tk).1 (pOp F x.tape x.qlen x.tk).2.1 - x.qst) by omega) (show 0 + 0 + (64 * (rqP (pEx (pTm F) y1.tape y1.qlen y1.tk).1 (pEx (pTm F) y1.tape y1.qlen y1.tk).2.1 - y1.qst) + 4 * (cpR g.eN g.sz (pEx (pTm F) y1.tape y1.qlen y1.tk).2.2.length - g.eN)) + 0 ≤ 64 * (rqP (pOp F x.tape x.qlen x.tk).1 (pOp F x.tape x.qlen x.tk).2.1 - x.qst) + 4 * (cpR g.eN g.sz (pOp F x.tape x.qlen x.tk).2.2.length - g.eN) by omega) d_Q_readOpened_42
