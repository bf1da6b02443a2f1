/-! Brackets. -/
theorem pq_pre {dA : Nat → ClassId} {e0 sa : Nat} {r : va_W} {x y z : VS} {g g1 : LI} {R : PR} (hq : x.qr y) (h : VS.pq dA e0 sa r y g R z g1) : VS.pq dA e0 sa r x g R z g1 := ⟨qr_tr hq h.1, h.2⟩
/-- a token taken behind it -/
theorem pq_tk {dA : Nat → ClassId} {e0 sa : Nat} {r : va_W} {x y z : VS} {g g1 : LI} {R : PR} {b : Bool} {t : TKQ} (h : VS.pq dA e0 sa r x g R y g1) (hR : R.1 = true) (hq : y.qp z) (hk : z.qok) (ht : z.tk = t) (hs : y.qst ≤ z.qst) : VS.pq dA e0 sa r x g (b, t, R.2.2) z g1 := by
  obtain ⟨k1, k2, ⟨w1, w2, w3, w4⟩, k3, k4, k5, k6⟩ := h
  exact ⟨qr_tr k1 (qp_qr hq), ht, ⟨hk, (qp_ll hq).trans w2, stL_m hq.2 w3, by omega⟩, k3, k4, k5, fun _ => stps_m (k6 hR) hq.2 (fun _ _ => rfl)⟩
theorem pw_nx {dA : Nat → ClassId} {e0 sa : Nat} {r : va_W} {x y : VS} {g : LI} (h : VS.pw dA e0 sa r x g) (hq : x.qp y) (hk : y.qok) (hs : x.qst ≤ y.qst) : VS.pw dA e0 sa r y g := ⟨hk, (qp_ll hq).trans h.2.1, stL_m hq.2 h.2.2.1, by have := h.2.2.2; omega⟩
theorem pq_sf {dA : Nat → ClassId} {e0 sa : Nat} {r : va_W} {x : VS} {g : LI} (h : VS.pw dA e0 sa r x g) (b : Bool) : VS.pq dA e0 sa r x g (b, x.tk, []) x g := ⟨qr_rf x, rfl, h, rfl, rfl, fun _ _ => rfl, fun _ i hi => absurd hi (Nat.not_lt_zero i)⟩
theorem pOp_b {F : PF} {f : Nat → Int32} {n : Nat} {t : TKQ} (h : t.1 = 40) : pOp F f n t = pOc f n (pEx (pTm F) f n (nxT f n t)) := if_pos h
theorem pOp_m {F : PF} {f : Nat → Int32} {n : Nat} {t : TKQ} (h : ¬ t.1 = 40) : pOp F f n t = ((F f n (nxT f n t)).1, (F f n (nxT f n t)).2.1, (F f n (nxT f n t)).2.2 ++ [spO 265 t.2.1 0]) := if_neg h
theorem pOc_f {f : Nat → Int32} {n : Nat} {e : PR} (h : e.1 = false) : pOc f n e = e := if_neg (by rw [h]; decide)
theorem pOc_t {f : Nat → Int32} {n : Nat} {e : PR} (h : e.1 = true) : pOc f n e = ((tkT f n e.2.1 41).1, (tkT f n e.2.1 41).2, e.2.2) := if_pos h
theorem ls4_40 : Op.lookupswitch.offset [(40, 81), (45, 81), (257, 44), (258, 76)] 107 ((40 : Int32).toInt) = 81 := by decide
theorem ls4_no {z : Int32} (h1 : ¬ z = 40) (h2 : ¬ z = 45) (h3 : ¬ z = 257) (h4 : ¬ z = 258) : Op.lookupswitch.offset [(40, 81), (45, 81), (257, 44), (258, 76)] 107 z.toInt = 107 := by
  have k : ∀ (a : Int32) (n : Int), a.toInt = n → ¬ z = a → ¬ n = z.toInt := fun a n e g q => g (Int32.toInt_inj.mp (by rw [e, q]))
  rw [Op.lookupswitch.offset_cons, if_neg (k 40 40 (by decide) h1), Op.lookupswitch.offset_cons, if_neg (k 45 45 (by decide) h2), Op.lookupswitch.offset_cons, if_neg (k 257 257 (by decide) h3), Op.lookupswitch.offset_cons, if_neg (k 258 258 (by decide) h4)]
  rfl
theorem fc4 (z : Int32) : z = 257 ∨ z = 258 ∨ isOo z ∨ (¬ z = 40 ∧ ¬ z = 45 ∧ ¬ z = 257 ∧ ¬ z = 258) := by
  by_cases h1 : z = 257
  · exact Or.inl h1
  · by_cases h2 : z = 258
    · exact Or.inr (Or.inl h2)
    · by_cases h3 : z = 40
      · exact Or.inr (Or.inr (Or.inl (Or.inl h3)))
      · by_cases h4 : z = 45
        · exact Or.inr (Or.inr (Or.inl (Or.inr h4)))
        · exact Or.inr (Or.inr (Or.inr ⟨h3, h4, h1, h2⟩))
theorem ls4_o {z : Int32} (h : isOo z) : Op.lookupswitch.offset [(40, 81), (45, 81), (257, 44), (258, 76)] 107 z.toInt = 81 := by
  rcases h with h | h <;> subst h <;> decide
theorem pFc_1 {O : PF} {f : Nat → Int32} {n : Nat} {t : TKQ} (h : t.1 = 257) : pFc O f n t = (true, nxT f n t, [spO 257 t.2.1 t.2.2.2.1]) := if_pos h
theorem pFc_2 {O : PF} {f : Nat → Int32} {n : Nat} {t : TKQ} (h : t.1 = 258) : pFc O f n t = pFn f n t := (if_neg (by rw [h]; decide)).trans (if_pos h)
theorem pFc_3 {O : PF} {f : Nat → Int32} {n : Nat} {t : TKQ} (h : isOo t.1) : pFc O f n t = O f n t := by
  unfold pFc
  rw [if_neg (by rcases h with h | h <;> rw [h] <;> decide), if_neg (by rcases h with h | h <;> rw [h] <;> decide), if_pos (show t.1 = 40 ∨ t.1 = 45 from h)]
theorem pFc_4 {O : PF} {f : Nat → Int32} {n : Nat} {t : TKQ} (h : ¬ t.1 = 40 ∧ ¬ t.1 = 45 ∧ ¬ t.1 = 257 ∧ ¬ t.1 = 258) : pFc O f n t = (false, rfT t 2 t.2.1, []) := by
  unfold pFc
  rw [if_neg h.2.2.1, if_neg h.2.2.2, if_neg (fun z => by rcases z with z | z; exact h.1 z; exact h.2.1 z)]
theorem pq_pk {dA : Nat → ClassId} {e0 sa : Nat} {r : va_W} {x y z : VS} {g g1 : LI} {R : PR} (h : VS.pq dA e0 sa r x g R y g1) (hp : y.pk z) : VS.pq dA e0 sa r x g R z g1 := by
  obtain ⟨k1, k2, ⟨w1, w2, w3, w4⟩, k3, k4, k5, k6⟩ := h
  obtain ⟨a1, a2, a3⟩ := qok_pk w1 hp
  have e : z.qst = y.qst := congrArg (fun q : TKQ => q.2.1) a3
  exact ⟨qr_tr k1 (qp_qr a2), a3.trans k2, ⟨a1, (qp_ll a2).trans w2, stL_m a2.2 w3, by omega⟩, k3, k4, k5, fun hR => stps_m (k6 hR) a2.2 (fun _ _ => rfl)⟩
theorem d_Q_readExp_12 : decode prog_6_method_4_code 12 = .ok (.iload_n 3, 1) := by decide +kernel
theorem d_Q_readExp_13 : decode prog_6_method_4_code 13 = .ok (.aload_n 0, 1) := by decide +kernel
theorem d_Q_readExp_14 : decode prog_6_method_4_code 14 = .ok (.getfield 22, 3) := by decide +kernel
theorem d_Q_readExp_17 : decode prog_6_method_4_code 17 = .ok (.if_icmp .ge 65, 3) := by decide +kernel
theorem d_Q_readExp_38 : decode prog_6_method_4_code 38 = .ok (.new 58, 3) := by decide +kernel
theorem d_Q_readExp_41 : decode prog_6_method_4_code 41 = .ok (.dup, 1) := by decide +kernel
theorem d_Q_readExp_42 : decode prog_6_method_4_code 42 = .ok (.aload_n 0, 1) := by decide +kernel
theorem d_Q_readExp_43 : decode prog_6_method_4_code 43 = .ok (.getfield 45, 3) := by decide +kernel
theorem d_Q_readExp_46 : decode prog_6_method_4_code 46 = .ok (.aload_n 0, 1) := by decide +kernel
theorem d_Q_readExp_47 : decode prog_6_method_4_code 47 = .ok (.getfield 48, 3) := by decide +kernel
theorem d_Q_readExp_50 : decode prog_6_method_4_code 50 = .ok (.lconst 0, 1) := by decide +kernel
theorem d_Q_readExp_51 : decode prog_6_method_4_code 51 = .ok (.invokespecial 60, 3) := by decide +kernel
theorem d_Q_readExp_54 : decode prog_6_method_4_code 54 = .ok (.astore 4, 2) := by decide +kernel
theorem d_Q_readExp_56 : decode prog_6_method_4_code 56 = .ok (.aload_n 0, 1) := by decide +kernel
theorem d_Q_readExp_57 : decode prog_6_method_4_code 57 = .ok (.invokevirtual 38, 3) := by decide +kernel
theorem d_Q_readExp_60 : decode prog_6_method_4_code 60 = .ok (.aload_n 0, 1) := by decide +kernel
theorem d_Q_readExp_61 : decode prog_6_method_4_code 61 = .ok (.iload_n 1, 1) := by decide +kernel
theorem d_Q_readExp_62 : decode prog_6_method_4_code 62 = .ok (.invokevirtual 55, 3) := by decide +kernel
theorem d_Q_readExp_65 : decode prog_6_method_4_code 65 = .ok (.istore_n 2, 1) := by decide +kernel
theorem d_Q_readExp_66 : decode prog_6_method_4_code 66 = .ok (.aload_n 0, 1) := by decide +kernel
theorem d_Q_readExp_67 : decode prog_6_method_4_code 67 = .ok (.getfield 18, 3) := by decide +kernel
theorem d_Q_readExp_70 : decode prog_6_method_4_code 70 = .ok (.aload 4, 2) := by decide +kernel
theorem d_Q_readExp_72 : decode prog_6_method_4_code 72 = .ok (.invokevirtual 63, 3) := by decide +kernel
theorem d_Q_readExp_75 : decode prog_6_method_4_code 75 = .ok (.pop, 1) := by decide +kernel
theorem d_Q_readExp_76 : decode prog_6_method_4_code 76 = .ok (.iinc 3 1, 3) := by decide +kernel
theorem d_Q_readExp_79 : decode prog_6_method_4_code 79 = .ok (.goto (-71), 3) := by decide +kernel
theorem d_Q_readExp_20 : decode prog_6_method_4_code 20 = .ok (.aload_n 0, 1) := by decide +kernel
theorem d_Q_readExp_21 : decode prog_6_method_4_code 21 = .ok (.getfield 45, 3) := by decide +kernel
theorem d_Q_readExp_24 : decode prog_6_method_4_code 24 = .ok (.bipush 43, 2) := by decide +kernel
theorem d_Q_readExp_26 : decode prog_6_method_4_code 26 = .ok (.if_icmp .eq 12, 3) := by decide +kernel
theorem d_Q_readExp_29 : decode prog_6_method_4_code 29 = .ok (.aload_n 0, 1) := by decide +kernel
theorem d_Q_readExp_30 : decode prog_6_method_4_code 30 = .ok (.getfield 45, 3) := by decide +kernel
theorem d_Q_readExp_33 : decode prog_6_method_4_code 33 = .ok (.bipush 45, 2) := by decide +kernel
theorem d_Q_readExp_35 : decode prog_6_method_4_code 35 = .ok (.if_icmp .ne 47, 3) := by decide +kernel
set_option maxHeartbeats 4000000 in
set_option maxRecDepth 100000 in
theorem v_QreadExp (l : Launch) (D : va_G) (dA : Nat → ClassId) (sz : Nat) (e0 mi : Nat) (kA vA : Nat → Nat) (fm : Nat) (h : Nat) (ad : Nat → Nat) (sa : Nat) (g : LI) (r : va_W) (x : VS) (o : Nat) (F : PF) (fr : Nat) (lo : Nat) (hsa : sa = ad 23) (hw : VS.pw dA e0 sa r x g) (hF : TrmC o F fr lo) (hgF : gdF F) (ho : o ≤ 8) : Met l ⟨"SeriesVault$Question", "readExp", "(I)Z"⟩ [Cond.code ⟨"SeriesVault$Question", "readExp", "(I)Z"⟩ prog_6_method_4_code 5 (some FieldType.boolean)] { frames := fr + 7, cells := 8 * (rqP (pEx F x.tape x.qlen x.tk).1 (pEx F x.tape x.qlen x.tk).2.1 - x.qst), slots := 64 * (rqP (pEx F x.tape x.qlen x.tk).1 (pEx F x.tape x.qlen x.tk).2.1 - x.qst) + 4 * (cpR g.eN g.sz (pEx F x.tape x.qlen x.tk).2.2.length - g.eN), locals := lo + 171 } (pCs D dA e0 mi kA vA fm [.ref (ad 22), .int (nI o)] (VW dA h ad x) sz) (va_Qi (fun (r9 : Int32) (u9 : VS × LI) => r9 = bI (pEx F x.tape x.qlen x.tk).1 ∧ VS.pq dA e0 sa r x g (pEx F x.tape x.qlen x.tk) u9.1 u9.2) (fun (u9 : VS × LI) t9 => bW D (va_A (VW dA h ad x) sz) (VW dA h ad u9.1) t9) (va_A (VW dA h ad x) sz)) (8 * (rqP (pEx F x.tape x.qlen x.tk).1 (pEx F x.tape x.qlen x.tk).2.1 - x.qst)) (64 * (rqP (pEx F x.tape x.qlen x.tk).1 (pEx F x.tape x.qlen x.tk).2.1 - x.qst) + 4 * (cpR g.eN g.sz (pEx F x.tape x.qlen x.tk).2.2.length - g.eN)) (va_A (VW dA h ad x) sz) := by
  refine mkS (y := ⟨"SeriesVault$Question", "readExp", "(I)Z"⟩) (cc := prog_6_method_4_code) (maxL := 5) (av := [.ref (ad 22), .int (nI o)]) (ws := VW dA h ad x) (sz := sz) (Qc := fun A => va_Qi (fun (r9 : Int32) (u9 : VS × LI) => r9 = bI (pEx F x.tape x.qlen x.tk).1 ∧ VS.pq dA e0 sa r x g (pEx F x.tape x.qlen x.tk) u9.1 u9.2) (fun (u9 : VS × LI) t9 => bW D A (VW dA h ad u9.1) t9) A) (by decide) (Nat.le_of_ble_eq_true rfl) ?_
  intro A p e s m below meth c ls hsz hZ hT hM hQ hB
  obtain ⟨hx, hb, hr, hml, hown, hin, hlk, hE, hK, hP, hD, hS, hA, hN, hl⟩ := hB
  have hown : s.vm.findClass "SeriesVault$Question" = some m.cls := hown
  have hl : lv_has ls 5 [(0, .ref (ad 22)), (1, .int (nI o))] := hl
  obtain ⟨H, hH⟩ : ∃ z, z = s.heap := ⟨_, rfl⟩
  have hP : va_P D vwCl (VW dA h ad x) H := by rw [hH]; exact hP
  have hS : va_S A s.heap H [] := by rw [hH]; exact hS
  rw [← hH]
  have kb : x.qst ≤ x.qen ∧ x.qen ≤ x.qlen ∧ x.qlen ≤ x.tpN ∧ x.tpN ≤ 131072 ∧ x.qlen ≤ 16384 := ⟨hw.1.2.2.2.2.2.1, hw.1.2.2.2.2.2.2.1, hw.1.2.1, hw.1.2.2.1, hw.1.2.2.2.1⟩
  have kq : x.qtp = x.tpA := hw.1.1
  have tx0 : tkok x.qlen x.tk := hw.1.2.2.2.2.2
  have gx0 := hgF x.tape x.qlen x.tk tx0
  have ox0 := opL_P (f := x.tape) hgF isAd_o (w := x.qlen) gx0
  have oz1 : rqP (F x.tape x.qlen x.tk).1 (F x.tape x.qlen x.tk).2.1 ≤ rqP (pEx F x.tape x.qlen x.tk).1 (pEx F x.tape x.qlen x.tk).2.1 := ox0.2.1
  have oz2 : cpR g.eN g.sz (F x.tape x.qlen x.tk).2.2.length ≤ cpR g.eN g.sz (pEx F x.tape x.qlen x.tk).2.2.length := cpR_m _ _ ox0.2.2
  refine lv_aload_n hx hb d_Q_readExp_0 rfl (lv_at hl 0 rfl) ?_
  refine lv_iload_n hx hb d_Q_readExp_1 rfl (lv_at hl 1 rfl) ?_
  refine jkI (wr := []) (rnVs (As := [.int (nI o)]) (rest := []) hx hb hml hown hE hK hZ hT hM hQ hS (hN _ _ hS) hP hD (hF l D dA H.size e0 mi kA vA fm h ad sa g r x hsa hw) (q0 := 36) rfl rfl w674 w673 w675 w676 w665 rfl rfl ⟨⟨by decide, by decide⟩, rfl⟩ ⟨(by first | exact Nat.le_of_ble_eq_true rfl | (dsimp only; omega)), (by first | exact Nat.le_of_ble_eq_true rfl | (dsimp only; omega))⟩ rfl hl.1 rfl (by first | exact Nat.le_of_ble_eq_true rfl | (dsimp only; omega)) d_Q_readExp_2 ⟨(show 0 + (8 * (rqP (F x.tape x.qlen x.tk).1 (F x.tape x.qlen x.tk).2.1 - x.qst)) ≤ 8 * (rqP (pEx F x.tape x.qlen x.tk).1 (pEx F x.tape x.qlen x.tk).2.1 - x.qst) by omega), (show 0 + (64 * (rqP (F x.tape x.qlen x.tk).1 (F x.tape x.qlen x.tk).2.1 - x.qst) + 4 * (cpR g.eN g.sz (F x.tape x.qlen x.tk).2.2.length - g.eN)) ≤ 64 * (rqP (pEx F x.tape x.qlen x.tk).1 (pEx F x.tape x.qlen x.tk).2.1 - x.qst) + 4 * (cpR g.eN g.sz (pEx F x.tape x.qlen x.tk).2.2.length - g.eN) by omega)⟩) hP hD hS hA (fun r1 u2 H locs hp9 hP hD hS => ?_)
  obtain ⟨y0, gy1⟩ := u2
  have hP : va_P D vwCl (VW dA h ad y0) H := hP
  have hD : va_D A (VW dA h ad y0) := hD
  obtain ⟨hp9, f_p_3⟩ := hp9
  replace hp9 : bI (F x.tape x.qlen x.tk).1 = r1 := Eq.symm hp9
  subst hp9
  refine lv_istore_n hx hb d_Q_readExp_5 rfl hl (by decide) rfl (fun ls hl => ?_)
  have hl : lv_has ls 5 [(2, .int (bI (F x.tape x.qlen x.tk).1)), (0, .ref (ad 22)), (1, .int (nI o))] := hl
  refine lv_iconst (v := 0) hx hb d_Q_readExp_6 (by decide) ?_
  refine lv_istore_n hx hb d_Q_readExp_7 rfl hl (by decide) rfl (fun ls hl => ?_)
  have hl : lv_has ls 5 [(3, .int 0), (2, .int (bI (F x.tape x.qlen x.tk).1)), (0, .ref (ad 22)), (1, .int (nI o))] := hl
  have L8 : ∀ (k9 : Nat) (i : Nat) (rp : PR) (y : VS) (gq : LI) (i1 : i ≤ x.qlen) (hp : VS.pq dA e0 sa r x g rp y gq) (hg : prG x.qlen x.tk rp) (er : opL F isAd x.tape x.qlen (x.qlen - i) rp = pEx F x.tape x.qlen x.tk) (hk9 : x.qlen - i = k9), ∀ (H : Heap) (locs : List Loc) (ls : Array Slot) (hP : va_P D vwCl (VW dA h ad y) H) (hD : va_D A (VW dA h ad y)) (hS : va_S A s.heap H locs) (hl : lv_has ls 5 [(2, .int (bI rp.1)), (3, .int (nI i)), (1, .int (nI o)), (0, .ref (ad 22))]), W p l e ({ frames := fr + 7, cells := 8 * (rqP (pEx F x.tape x.qlen x.tk).1 (pEx F x.tape x.qlen x.tk).2.1 - x.qst), slots := 64 * (rqP (pEx F x.tape x.qlen x.tk).1 (pEx F x.tape x.qlen x.tk).2.1 - x.qst) + 4 * (cpR g.eN g.sz (pEx F x.tape x.qlen x.tk).2.2.length - g.eN), locals := lo + 171 } : Room) s m ([.ref (ad 22), .int (nI o)] : List Value).toArray below meth c H locs (8 * (rqP rp.1 rp.2.1 - x.qst)) (64 * (rqP rp.1 rp.2.1 - x.qst) + 4 * (cpR g.eN g.sz rp.2.2.length - g.eN)) (MQ below (va_Qi (fun (r9 : Int32) (u9 : VS × LI) => r9 = bI (pEx F x.tape x.qlen x.tk).1 ∧ VS.pq dA e0 sa r x g (pEx F x.tape x.qlen x.tk) u9.1 u9.2) (fun (u9 : VS × LI) t9 => bW D A (VW dA h ad u9.1) t9) A) ([.ref (ad 22), .int (nI o)] : List Value).toArray s (8 * (rqP (pEx F x.tape x.qlen x.tk).1 (pEx F x.tape x.qlen x.tk).2.1 - x.qst)) (64 * (rqP (pEx F x.tape x.qlen x.tk).1 (pEx F x.tape x.qlen x.tk).2.1 - x.qst) + 4 * (cpR g.eN g.sz (pEx F x.tape x.qlen x.tk).2.2.length - g.eN)) A) (F0 m 8 ls []) := by
    intro k9
    induction k9 using Nat.strongRecOn with
    | ind k9 ih8 =>
      intro i rp y gq i1 hp hg er hk9 H locs ls hP hD hS hl
      have kly := (qr_f hp.1).2.1
      have kby : y.qlen ≤ 16384 := hp.2.2.1.1.2.2.2.1
      have om := opL_P (f := x.tape) hgF isAd_o (w := x.qlen - i) hg
      rw [er] at om
      have om1 := om.2.1
      have om2 : cpR g.eN g.sz rp.2.2.length ≤ cpR g.eN g.sz (pEx F x.tape x.qlen x.tk).2.2.length := cpR_m _ _ om.2.2
      refine lv_iload_n hx hb d_Q_readExp_8 rfl (lv_at hl 0 rfl) ?_
      refine lv_if_eq hx hb d_Q_readExp_9 (tgt := 82) rfl (fun g4 => ?_) (fun g4 => ?_)
      · have g4 := bI_0 g4
        refine lv_iload_n hx hb d_Q_readExp_82 rfl (lv_at hl 0 rfl) ?_
        exact rfZ hx hb hr (bI_nar rp.1) hlk hS (⟨y, gq⟩) (by have E : rp = pEx F x.tape x.qlen x.tk := (opL_e (Or.inr (Or.inl g4))).symm.trans er; exact ⟨by rw [← E], by rw [← E]; exact hp⟩) hP hD (show 8 * (rqP rp.1 rp.2.1 - x.qst) ≤ 8 * (rqP (pEx F x.tape x.qlen x.tk).1 (pEx F x.tape x.qlen x.tk).2.1 - x.qst) by omega) (show 64 * (rqP rp.1 rp.2.1 - x.qst) + 4 * (cpR g.eN g.sz rp.2.2.length - g.eN) ≤ 64 * (rqP (pEx F x.tape x.qlen x.tk).1 (pEx F x.tape x.qlen x.tk).2.1 - x.qst) + 4 * (cpR g.eN g.sz (pEx F x.tape x.qlen x.tk).2.2.length - g.eN) by omega) d_Q_readExp_83
      · have g4 := bI_n0 g4
        refine lv_iload_n hx hb d_Q_readExp_12 rfl (lv_at hl 1 rfl) ?_
        refine lv_aload_n hx hb d_Q_readExp_13 rfl (lv_at hl 3 rfl) ?_
        have kb_y : y.qst ≤ y.qen ∧ y.qen ≤ y.qlen ∧ y.qlen ≤ y.tpN ∧ y.tpN ≤ 131072 ∧ y.qlen ≤ 16384 := ⟨hp.2.2.1.1.2.2.2.2.2.1, hp.2.2.1.1.2.2.2.2.2.2.1, hp.2.2.1.1.2.1, hp.2.2.1.1.2.2.1, hp.2.2.1.1.2.2.2.1⟩
        have kq_y : y.qtp = y.tpA := hp.2.2.1.1.1
        have kf_y : y.tape = x.tape ∧ y.qlen = x.qlen := ⟨(qr_f hp.1).2.2.1, (qr_f hp.1).2.1⟩
        refine gF (v := .int (nI y.qlen)) hx hb hown hE hK hP 36 rfl rfl layQ 1 (by decide) w661 rfl d_Q_readExp_14 ?_
        refine lv_icmp_ge hx hb d_Q_readExp_17 (tgt := 82) rfl (fun g5 => ?_) (fun g5 => ?_)
        · have g5 := (nI_leI (a := y.qlen) (b := i) (by omega) (by omega)).mp g5
          refine lv_iload_n hx hb d_Q_readExp_82 rfl (lv_at hl 0 rfl) ?_
          exact rfZ hx hb hr (bI_nar rp.1) hlk hS (⟨y, gq⟩) (by have E : rp = pEx F x.tape x.qlen x.tk := (opL_e (Or.inl (by have e9 := (qr_f hp.1).2.1; omega))).symm.trans er; exact ⟨by rw [← E], by rw [← E]; exact hp⟩) hP hD (show 8 * (rqP rp.1 rp.2.1 - x.qst) ≤ 8 * (rqP (pEx F x.tape x.qlen x.tk).1 (pEx F x.tape x.qlen x.tk).2.1 - x.qst) by omega) (show 64 * (rqP rp.1 rp.2.1 - x.qst) + 4 * (cpR g.eN g.sz rp.2.2.length - g.eN) ≤ 64 * (rqP (pEx F x.tape x.qlen x.tk).1 (pEx F x.tape x.qlen x.tk).2.1 - x.qst) + 4 * (cpR g.eN g.sz (pEx F x.tape x.qlen x.tk).2.2.length - g.eN) by omega) d_Q_readExp_83
        · have g5 := mt (nI_leI (a := y.qlen) (b := i) (by omega) (by omega)).mpr g5
          have J38 : ∀ (hAd : isAd y.qk = true), ∀ (H : Heap) (locs : List Loc) (ls : Array Slot) (hP : va_P D vwCl (VW dA h ad y) H) (hD : va_D A (VW dA h ad y)) (hS : va_S A s.heap H locs) (hl : lv_has ls 5 [(2, .int (bI rp.1)), (3, .int (nI i)), (1, .int (nI o)), (0, .ref (ad 22))]), W p l e ({ frames := fr + 7, cells := 8 * (rqP (pEx F x.tape x.qlen x.tk).1 (pEx F x.tape x.qlen x.tk).2.1 - x.qst), slots := 64 * (rqP (pEx F x.tape x.qlen x.tk).1 (pEx F x.tape x.qlen x.tk).2.1 - x.qst) + 4 * (cpR g.eN g.sz (pEx F x.tape x.qlen x.tk).2.2.length - g.eN), locals := lo + 171 } : Room) s m ([.ref (ad 22), .int (nI o)] : List Value).toArray below meth c H locs (8 * (rqP rp.1 rp.2.1 - x.qst)) (64 * (rqP rp.1 rp.2.1 - x.qst) + 4 * (cpR g.eN g.sz rp.2.2.length - g.eN)) (MQ below (va_Qi (fun (r9 : Int32) (u9 : VS × LI) => r9 = bI (pEx F x.tape x.qlen x.tk).1 ∧ VS.pq dA e0 sa r x g (pEx F x.tape x.qlen x.tk) u9.1 u9.2) (fun (u9 : VS × LI) t9 => bW D A (VW dA h ad u9.1) t9) A) ([.ref (ad 22), .int (nI o)] : List Value).toArray s (8 * (rqP (pEx F x.tape x.qlen x.tk).1 (pEx F x.tape x.qlen x.tk).2.1 - x.qst)) (64 * (rqP (pEx F x.tape x.qlen x.tk).1 (pEx F x.tape x.qlen x.tk).2.1 - x.qst) + 4 * (cpR g.eN g.sz (pEx F x.tape x.qlen x.tk).2.2.length - g.eN)) A) (F0 m 38 ls []) := by
            intro hAd H locs ls hP hD hS hl
            have hPt : isAd rp.2.1.1 = true := by rw [← hp.2.1]; exact hAd
            obtain ⟨o1, o2, o3, o4⟩ := opS_P (f := x.tape) hgF isAd_o hg g4 hPt
            have er2 : opL F isAd x.tape x.qlen (x.qlen - i - 1) (opS F x.tape x.qlen rp) = pEx F x.tape x.qlen x.tk := by rw [← er, opL_s (w := x.qlen - i) (by omega) g4 hPt]
            have oL := opL_P (f := x.tape) hgF isAd_o (w := x.qlen - i - 1) o1
            rw [er2] at oL
            obtain ⟨-, oL1, oL2⟩ := oL
            have ey : y.qst = rp.2.1.2.1 := congrArg (fun q : TKQ => q.2.1) hp.2.1
            have rq : rqP rp.1 rp.2.1 = y.qst := by rw [g4]; exact ey.symm
            have lS : (opS F x.tape x.qlen rp).2.2.length = rp.2.2.length + ((F x.tape x.qlen (nxT x.tape x.qlen rp.2.1)).2.2.length + 1) := by show (rp.2.2 ++ ((F x.tape x.qlen (nxT x.tape x.qlen rp.2.1)).2.2 ++ [spO rp.2.1.1 rp.2.1.2.1 0])).length = _; rw [List.length_append, List.length_append]; rfl
            have rS : rqP (opS F x.tape x.qlen rp).1 (opS F x.tape x.qlen rp).2.1 = rqP (F x.tape x.qlen (nxT x.tape x.qlen rp.2.1)).1 (F x.tape x.qlen (nxT x.tape x.qlen rp.2.1)).2.1 := rfl
            have a0 := cpR_le g.eN g.sz rp.2.2.length
            have a1 : gq.eN = cpR g.eN g.sz rp.2.2.length := hp.2.2.2.2.1
            have a1s : gq.sz = g.sz + rp.2.2.length := hp.2.2.2.1
            have a3 : cpR g.eN g.sz (rp.2.2.length + (F x.tape x.qlen (nxT x.tape x.qlen rp.2.1)).2.2.length) ≤ cpR g.eN g.sz (opS F x.tape x.qlen rp).2.2.length := cpR_m _ _ (by omega)
            have a4 : cpR g.eN g.sz (opS F x.tape x.qlen rp).2.2.length ≤ cpR g.eN g.sz (pEx F x.tape x.qlen x.tk).2.2.length := cpR_m _ _ oL2
            have a5 : cpR g.eN g.sz rp.2.2.length ≤ cpR g.eN g.sz (rp.2.2.length + (F x.tape x.qlen (nxT x.tape x.qlen rp.2.1)).2.2.length) := cpR_m _ _ (by omega)
            have xy : x.qst ≤ y.qst := by have e9 : x.qst + rp.2.2.length ≤ rp.2.1.2.1 := hg.2.2; omega
            have k264 : ¬ y.qk = 264 := by rw [show y.qk = rp.2.1.1 from congrArg (fun q : TKQ => q.1) hp.2.1]; exact (isAd_o _ hPt).2
            refine nOf hx hb hown hE hK hP hD hS hA (ci := 13) rfl layE tyE tokE w1648 w859 w1496 (fs := [.int 0, .int 0, .long 0, .null, .int 0, .null, .null, .null]) dfE (show (8 * (rqP rp.1 rp.2.1 - x.qst)) + 1 ≤ 8 * (rqP (pEx F x.tape x.qlen x.tk).1 (pEx F x.tape x.qlen x.tk).2.1 - x.qst) by omega) (show (64 * (rqP rp.1 rp.2.1 - x.qst) + 4 * (cpR g.eN g.sz rp.2.2.length - g.eN)) + 8 ≤ 64 * (rqP (pEx F x.tape x.qlen x.tk).1 (pEx F x.tape x.qlen x.tk).2.1 - x.qst) + 4 * (cpR g.eN g.sz (pEx F x.tape x.qlen x.tk).2.2.length - g.eN) by omega) d_Q_readExp_38 (fun sp H hP hD hS => ?_)
            have hP : va_P D vwCl ([(sp, .inr (13, [.int 0, .int 0, .long 0, .null, .int 0, .null, .null, .null]))] ++ (VW dA h ad y)) H := hP
            have hD : va_D A ([(sp, .inr (13, [.int 0, .int 0, .long 0, .null, .int 0, .null, .null, .null]))] ++ (VW dA h ad y)) := hD
            refine lv_dup hx hb d_Q_readExp_41 rfl ?_
            refine lv_aload_n hx hb d_Q_readExp_42 rfl (lv_at hl 3 rfl) ?_
            refine gF (v := .int y.qk) hx hb hown hE hK hP 37 rfl rfl layQ 2 (by decide) w663 rfl d_Q_readExp_43 ?_
            refine lv_aload_n hx hb d_Q_readExp_46 rfl (lv_at hl 3 rfl) ?_
            refine gF (v := .int (nI y.qst)) hx hb hown hE hK hP 37 rfl rfl layQ 3 (by decide) w662 rfl d_Q_readExp_47 ?_
            refine lv_lconst (v := 0) hx hb d_Q_readExp_50 (by decide) ?_
            refine jkV (wr := []) (rnIy (As := [.int y.qk, .int (nI y.qst), .long 0]) (rest := [.ref sp]) hx hb hml hown hE hK hZ hT hM hS (hN _ _ hS) hP hD (v_Einit_o l D dA H.size e0 mi (VW dA h ad y) sp y.qk y.qst 0 k264) w1651 w1650 w1652 w1496 rfl rfl rfl ⟨⟨by decide, by decide⟩, rfl⟩ ⟨(by first | exact Nat.le_of_ble_eq_true rfl | (dsimp only; omega)), (by first | exact Nat.le_of_ble_eq_true rfl | (dsimp only; omega))⟩ rfl hl.1 rfl (by first | exact Nat.le_of_ble_eq_true rfl | (dsimp only; omega)) d_Q_readExp_51 ⟨(show 8 * (rqP rp.1 rp.2.1 - x.qst) + 1 + 4 ≤ 8 * (rqP (pEx F x.tape x.qlen x.tk).1 (pEx F x.tape x.qlen x.tk).2.1 - x.qst) by omega), (show 64 * (rqP rp.1 rp.2.1 - x.qst) + 4 * (cpR g.eN g.sz rp.2.2.length - g.eN) + 8 + 6 ≤ 64 * (rqP (pEx F x.tape x.qlen x.tk).1 (pEx F x.tape x.qlen x.tk).2.1 - x.qst) + 4 * (cpR g.eN g.sz (pEx F x.tape x.qlen x.tk).2.2.length - g.eN) by omega)⟩) hP hD hS hA (fun u7 H locs hp9 hP hD hS => ?_)
            obtain ⟨na, ln, lt, mk⟩ := u7
            have hP : va_P D vwCl ([(na, .inl (dA 6, 0, .inr (.inr (.inr (.inr (fun _ => none))))))] ++ ([(ln, .inr (6, [.ref e0, .int 0, .int 0]))] ++ ([(lt, .inr (6, [.ref e0, .int 0, .int 0]))] ++ ([(mk, .inl (dA 1, 0, .inl (fun _ => 0)))] ++ ([(sp, .inr (13, [.int y.qk, .int (nI y.qst), .long 0, .ref na, .int 0, .ref ln, .ref lt, .ref mk]))] ++ (VW dA h ad y)))))) H := hP
            have hD : va_D A ([(na, .inl (dA 6, 0, .inr (.inr (.inr (.inr (fun _ => none))))))] ++ ([(ln, .inr (6, [.ref e0, .int 0, .int 0]))] ++ ([(lt, .inr (6, [.ref e0, .int 0, .int 0]))] ++ ([(mk, .inl (dA 1, 0, .inl (fun _ => 0)))] ++ ([(sp, .inr (13, [.int y.qk, .int (nI y.qst), .long 0, .ref na, .int 0, .ref ln, .ref lt, .ref mk]))] ++ (VW dA h ad y)))))) := hD
            refine lv_astore hx hb d_Q_readExp_54 hl (by decide) rfl (fun ls hl => ?_)
            have hl : lv_has ls 5 [(4, .ref sp), (2, .int (bI rp.1)), (3, .int (nI i)), (1, .int (nI o)), (0, .ref (ad 22))] := hl
            refine lv_aload_n hx hb d_Q_readExp_56 rfl (lv_at hl 4 rfl) ?_
            have hP : va_P D vwCl (VW dA h ad (VS.s_pl y (y.pl ++ ([(na, .inl (dA 6, 0, .inr (.inr (.inr (.inr (fun _ => none))))))] ++ ([(ln, .inr (6, [.ref e0, .int 0, .int 0]))] ++ ([(lt, .inr (6, [.ref e0, .int 0, .int 0]))] ++ ([(mk, .inl (dA 1, 0, .inl (fun _ => 0)))] ++ ([(sp, .inr (13, [.int y.qk, .int (nI y.qst), .long 0, .ref na, .int 0, .ref ln, .ref lt, .ref mk]))])))))))) H := pmP (show List.Perm (α := Nat × va_E) ([(na, .inl (dA 6, 0, .inr (.inr (.inr (.inr (fun _ => none))))))] ++ ([(ln, .inr (6, [.ref e0, .int 0, .int 0]))] ++ ([(lt, .inr (6, [.ref e0, .int 0, .int 0]))] ++ ([(mk, .inl (dA 1, 0, .inl (fun _ => 0)))] ++ ([(sp, .inr (13, [.int y.qk, .int (nI y.qst), .long 0, .ref na, .int 0, .ref ln, .ref lt, .ref mk]))] ++ (VW dA h ad y)))))) (VW dA h ad (VS.s_pl y (y.pl ++ ([(na, .inl (dA 6, 0, .inr (.inr (.inr (.inr (fun _ => none))))))] ++ ([(ln, .inr (6, [.ref e0, .int 0, .int 0]))] ++ ([(lt, .inr (6, [.ref e0, .int 0, .int 0]))] ++ ([(mk, .inl (dA 1, 0, .inl (fun _ => 0)))] ++ ([(sp, .inr (13, [.int y.qk, .int (nI y.qst), .long 0, .ref na, .int 0, .ref ln, .ref lt, .ref mk]))])))))))) from plP5 (dA := dA) (h := h) (ad := ad) y ([(na, .inl (dA 6, 0, .inr (.inr (.inr (.inr (fun _ => none))))))]) ([(ln, .inr (6, [.ref e0, .int 0, .int 0]))]) ([(lt, .inr (6, [.ref e0, .int 0, .int 0]))]) ([(mk, .inl (dA 1, 0, .inl (fun _ => 0)))]) ([(sp, .inr (13, [.int y.qk, .int (nI y.qst), .long 0, .ref na, .int 0, .ref ln, .ref lt, .ref mk]))])) hP
            have hD : va_D A (VW dA h ad (VS.s_pl y (y.pl ++ ([(na, .inl (dA 6, 0, .inr (.inr (.inr (.inr (fun _ => none))))))] ++ ([(ln, .inr (6, [.ref e0, .int 0, .int 0]))] ++ ([(lt, .inr (6, [.ref e0, .int 0, .int 0]))] ++ ([(mk, .inl (dA 1, 0, .inl (fun _ => 0)))] ++ ([(sp, .inr (13, [.int y.qk, .int (nI y.qst), .long 0, .ref na, .int 0, .ref ln, .ref lt, .ref mk]))])))))))) := pmD (show List.Perm (α := Nat × va_E) ([(na, .inl (dA 6, 0, .inr (.inr (.inr (.inr (fun _ => none))))))] ++ ([(ln, .inr (6, [.ref e0, .int 0, .int 0]))] ++ ([(lt, .inr (6, [.ref e0, .int 0, .int 0]))] ++ ([(mk, .inl (dA 1, 0, .inl (fun _ => 0)))] ++ ([(sp, .inr (13, [.int y.qk, .int (nI y.qst), .long 0, .ref na, .int 0, .ref ln, .ref lt, .ref mk]))] ++ (VW dA h ad y)))))) (VW dA h ad (VS.s_pl y (y.pl ++ ([(na, .inl (dA 6, 0, .inr (.inr (.inr (.inr (fun _ => none))))))] ++ ([(ln, .inr (6, [.ref e0, .int 0, .int 0]))] ++ ([(lt, .inr (6, [.ref e0, .int 0, .int 0]))] ++ ([(mk, .inl (dA 1, 0, .inl (fun _ => 0)))] ++ ([(sp, .inr (13, [.int y.qk, .int (nI y.qst), .long 0, .ref na, .int 0, .ref ln, .ref lt, .ref mk]))])))))))) from plP5 (dA := dA) (h := h) (ad := ad) y ([(na, .inl (dA 6, 0, .inr (.inr (.inr (.inr (fun _ => none))))))]) ([(ln, .inr (6, [.ref e0, .int 0, .int 0]))]) ([(lt, .inr (6, [.ref e0, .int 0, .int 0]))]) ([(mk, .inl (dA 1, 0, .inl (fun _ => 0)))]) ([(sp, .inr (13, [.int y.qk, .int (nI y.qst), .long 0, .ref na, .int 0, .ref ln, .ref lt, .ref mk]))])) hD
            obtain ⟨pl8, e_pl8⟩ : ∃ z9, z9 = y.pl ++ ([(na, .inl (dA 6, 0, .inr (.inr (.inr (.inr (fun _ => none))))))] ++ ([(ln, .inr (6, [.ref e0, .int 0, .int 0]))] ++ ([(lt, .inr (6, [.ref e0, .int 0, .int 0]))] ++ ([(mk, .inl (dA 1, 0, .inl (fun _ => 0)))] ++ ([(sp, .inr (13, [.int y.qk, .int (nI y.qst), .long 0, .ref na, .int 0, .ref ln, .ref lt, .ref mk]))]))))) := ⟨_, rfl⟩
            rw [← e_pl8] at hP hD
            have s_pl8 : ∀ c, c ∈ y.pl → c ∈ pl8 := by rw [e_pl8]; exact fun _ hm => List.mem_append_left _ hm
            have t_pl8_0 : ((na, .inl (dA 6, 0, .inr (.inr (.inr (.inr (fun _ => none)))))) : Nat × va_E) ∈ pl8 := by rw [e_pl8]; exact List.mem_append_right _ (List.mem_of_getElem? (i := 0) rfl)
            have t_pl8_1 : ((ln, .inr (6, [.ref e0, .int 0, .int 0])) : Nat × va_E) ∈ pl8 := by rw [e_pl8]; exact List.mem_append_right _ (List.mem_of_getElem? (i := 1) rfl)
            have t_pl8_2 : ((lt, .inr (6, [.ref e0, .int 0, .int 0])) : Nat × va_E) ∈ pl8 := by rw [e_pl8]; exact List.mem_append_right _ (List.mem_of_getElem? (i := 2) rfl)
            have t_pl8_3 : ((mk, .inl (dA 1, 0, .inl (fun _ => 0))) : Nat × va_E) ∈ pl8 := by rw [e_pl8]; exact List.mem_append_right _ (List.mem_of_getElem? (i := 3) rfl)
            have t_pl8_4 : ((sp, .inr (13, [.int y.qk, .int (nI y.qst), .long 0, .ref na, .int 0, .ref ln, .ref lt, .ref mk])) : Nat × va_E) ∈ pl8 := by rw [e_pl8]; exact List.mem_append_right _ (List.mem_of_getElem? (i := 4) rfl)
            have hP : va_P D vwCl (VW dA h ad (VS.s_pl y pl8)) H := hP
            have hD : va_D A (VW dA h ad (VS.s_pl y pl8)) := hD
            obtain ⟨y1, e_y1⟩ : ∃ w9, w9 = VS.s_pl y pl8 := ⟨_, rfl⟩
            rw [← e_y1] at hP hD
            have hP : va_P D vwCl (VW dA h ad y1) H := hP
            have hD : va_D A (VW dA h ad y1) := hD
            have pk1 : y.pk y1 := by rw [e_y1]; exact ⟨rfl, s_pl8⟩
            have ep1 : y1.pl = pl8 := by rw [e_y1]
            obtain ⟨hk_y1, qq_y1, tk_y1⟩ := qok_pk hp.2.2.1.1 pk1
            have ms1 : (sp, .inr (13, [.int y.qk, .int (nI y.qst), .long 0, .ref na, .int 0, .ref ln, .ref lt, .ref mk])) ∈ y1.pl := by rw [ep1]; exact t_pl8_4
            have is1 : isSP dA y1.pl sp (spO y.qk y.qst 0) := by rw [ep1]; exact isSP_o t_pl8_4 t_pl8_0 t_pl8_1 t_pl8_2 t_pl8_3
            have kb_y1 : y1.qst ≤ y1.qen ∧ y1.qen ≤ y1.qlen ∧ y1.qlen ≤ y1.tpN ∧ y1.tpN ≤ 131072 ∧ y1.qlen ≤ 16384 := ⟨hk_y1.2.2.2.2.2.1, hk_y1.2.2.2.2.2.2.1, hk_y1.2.1, hk_y1.2.2.1, hk_y1.2.2.2.1⟩
            have kq_y1 : y1.qtp = y1.tpA := hk_y1.1
            refine jkV (wr := []) (rnV (As := []) (rest := []) hx hb hml hown hE hK (hN _ _ hS) hP hD (v_Qadvance l D dA H.size h ad y1 kq_y1 (show y1.qlen ≤ y1.tpN from by omega) (show y1.tpN ≤ 131072 from by omega) (show y1.qen ≤ y1.qlen from by omega)) (q0 := 36) rfl rfl w685 w684 w686 w687 w665 rfl rfl ⟨⟨by decide, by decide⟩, rfl⟩ ⟨(by first | exact Nat.le_of_ble_eq_true rfl | (dsimp only; omega)), (by first | exact Nat.le_of_ble_eq_true rfl | (dsimp only; omega))⟩ rfl hl.1 rfl (by first | exact Nat.le_of_ble_eq_true rfl | (dsimp only; omega)) d_Q_readExp_57 ⟨(show 8 * (rqP rp.1 rp.2.1 - x.qst) + 1 + 4 + 0 ≤ 8 * (rqP (pEx F x.tape x.qlen x.tk).1 (pEx F x.tape x.qlen x.tk).2.1 - x.qst) by omega), (show 64 * (rqP rp.1 rp.2.1 - x.qst) + 4 * (cpR g.eN g.sz rp.2.2.length - g.eN) + 8 + 6 + 0 ≤ 64 * (rqP (pEx F x.tape x.qlen x.tk).1 (pEx F x.tape x.qlen x.tk).2.1 - x.qst) + 4 * (cpR g.eN g.sz (pEx F x.tape x.qlen x.tk).2.2.length - g.eN) by omega)⟩) hP hD hS hA (fun u10 H locs hp9 hP hD hS => ?_)
            obtain ⟨y2, h9u⟩ : ∃ z9, z9 = u10 := ⟨_, rfl⟩
            subst h9u
            have hP : va_P D vwCl (VW dA h ad y2) H := hP
            have hD : va_D A (VW dA h ad y2) := hD
            have f_e_11 := hp9
            refine lv_aload_n hx hb d_Q_readExp_60 rfl (lv_at hl 4 rfl) ?_
            refine lv_iload_n hx hb d_Q_readExp_61 rfl (lv_at hl 3 rfl) ?_
            obtain ⟨hk_y2, qq_y2, tk_y2⟩ := qok_adv hk_y1 f_e_11
            have q12 : y.qr y2 := qr_tr (qp_qr qq_y1) (qp_qr qq_y2)
            have kf1 : y1.tape = x.tape ∧ y1.qlen = x.qlen := ⟨((qr_f (qp_qr qq_y1)).2.2.1).trans kf_y.1, ((qr_f (qp_qr qq_y1)).2.1).trans kf_y.2⟩
            have kf2 : y2.tape = x.tape ∧ y2.qlen = x.qlen := ⟨((qr_f (qp_qr qq_y2)).2.2.1).trans kf1.1, ((qr_f (qp_qr qq_y2)).2.1).trans kf1.2⟩
            have tt2 : y2.tk = nxT x.tape x.qlen rp.2.1 := by rw [tk_y2, kf1.1, kf1.2, tk_y1, hp.2.1]
            have ey2 : y2.qst = (nxT x.tape x.qlen rp.2.1).2.1 := congrArg (fun q : TKQ => q.2.1) tt2
            have eR : F y2.tape y2.qlen y2.tk = F x.tape x.qlen (nxT x.tape x.qlen rp.2.1) := by rw [kf2.1, kf2.2, tt2]
            have rY : rqP (F y2.tape y2.qlen y2.tk).1 (F y2.tape y2.qlen y2.tk).2.1 = rqP (F x.tape x.qlen (nxT x.tape x.qlen rp.2.1)).1 (F x.tape x.qlen (nxT x.tape x.qlen rp.2.1)).2.1 := by rw [eR]
            have a2 : cpR gq.eN gq.sz (F y2.tape y2.qlen y2.tk).2.2.length = cpR g.eN g.sz (rp.2.2.length + (F x.tape x.qlen (nxT x.tape x.qlen rp.2.1)).2.2.length) := by rw [eR, a1, a1s, cpR_tr]
            have w2 : VS.pw dA e0 sa r y2 gq := ⟨hk_y2, (qp_ll qq_y2).trans ((qp_ll qq_y1).trans hp.2.2.1.2.1), stL_m q12.2 hp.2.2.1.2.2.1, by have e9 := hp.2.2.1.2.2.2; omega⟩
            refine jkI (wr := []) (rnVs (As := [.int (nI o)]) (rest := []) hx hb hml hown hE hK hZ hT hM hQ hS (hN _ _ hS) hP hD (hF l D dA H.size e0 mi kA vA fm h ad sa gq r y2 hsa w2) (q0 := 36) rfl rfl w674 w673 w675 w676 w665 rfl rfl ⟨⟨by decide, by decide⟩, rfl⟩ ⟨(by first | exact Nat.le_of_ble_eq_true rfl | (dsimp only; omega)), (by first | exact Nat.le_of_ble_eq_true rfl | (dsimp only; omega))⟩ rfl hl.1 rfl (by first | exact Nat.le_of_ble_eq_true rfl | (dsimp only; omega)) d_Q_readExp_62 ⟨(show 8 * (rqP rp.1 rp.2.1 - x.qst) + 1 + 4 + 0 + (8 * (rqP (F y2.tape y2.qlen y2.tk).1 (F y2.tape y2.qlen y2.tk).2.1 - y2.qst)) ≤ 8 * (rqP (pEx F x.tape x.qlen x.tk).1 (pEx F x.tape x.qlen x.tk).2.1 - x.qst) by omega), (show 64 * (rqP rp.1 rp.2.1 - x.qst) + 4 * (cpR g.eN g.sz rp.2.2.length - g.eN) + 8 + 6 + 0 + (64 * (rqP (F y2.tape y2.qlen y2.tk).1 (F y2.tape y2.qlen y2.tk).2.1 - y2.qst) + 4 * (cpR gq.eN gq.sz (F y2.tape y2.qlen y2.tk).2.2.length - gq.eN)) ≤ 64 * (rqP (pEx F x.tape x.qlen x.tk).1 (pEx F x.tape x.qlen x.tk).2.1 - x.qst) + 4 * (cpR g.eN g.sz (pEx F x.tape x.qlen x.tk).2.2.length - g.eN) by omega)⟩) hP hD hS hA (fun r12 u13 H locs hp9 hP hD hS => ?_)
            obtain ⟨y3, gy2⟩ := u13
            have hP : va_P D vwCl (VW dA h ad y3) H := hP
            have hD : va_D A (VW dA h ad y3) := hD
            obtain ⟨hp9, f_p_14⟩ := hp9
            replace hp9 : bI (F y2.tape y2.qlen y2.tk).1 = r12 := Eq.symm hp9
            subst hp9
            refine tpi (y := bI (opS F x.tape x.qlen rp).1) (by rw [eR]; rfl) ?_
            refine lv_istore_n hx hb d_Q_readExp_65 rfl hl (by decide) rfl (fun ls hl => ?_)
            have hl : lv_has ls 5 [(2, .int (bI (opS F x.tape x.qlen rp).1)), (4, .ref sp), (3, .int (nI i)), (1, .int (nI o)), (0, .ref (ad 22))] := hl
            refine lv_aload_n hx hb d_Q_readExp_66 rfl (lv_at hl 4 rfl) ?_
            refine gF (v := .ref (ad 23)) hx hb hown hE hK hP 36 rfl rfl layQ 8 (by decide) w678 rfl d_Q_readExp_67 ?_
            refine lv_aload hx hb d_Q_readExp_70 (lv_at hl 1 rfl) ?_
            have hp2 := f_p_14
            rw [eR] at hp2
            have ms3 := hp2.1.2 _ (qq_y2.2 _ ms1)
            have is3 := isSP_m hp2.1.2 (isSP_m qq_y2.2 is1)
            have hl3 : y3.ll = LqW dA sa gy2 ++ r := hp2.2.2.1.2.1
            have b2 : gy2.eN = cpR gq.eN gq.sz (F x.tape x.qlen (nxT x.tape x.qlen rp.2.1)).2.2.length := hp2.2.2.2.2.1
            rw [a1, a1s, cpR_tr] at b2
            have b3 := gq_S gy2
            have b4 : gy2.sz = gq.sz + (F x.tape x.qlen (nxT x.tape x.qlen rp.2.1)).2.2.length := hp2.2.2.2.1
            have ey3 : y3.qst = (F x.tape x.qlen (nxT x.tape x.qlen rp.2.1)).2.1.2.1 := congrArg (fun q : TKQ => q.2.1) hp2.2.1
            have b5 := o4.2.2
            have b6 := hp.2.2.1.2.2.2
            have b7 : gy2.sz < y3.qst := by omega
            have b8 : gqN gy2 ≤ cpR g.eN g.sz (opS F x.tape x.qlen rp).2.2.length := by rw [lS, show rp.2.2.length + ((F x.tape x.qlen (nxT x.tape x.qlen rp.2.1)).2.2.length + 1) = rp.2.2.length + (F x.tape x.qlen (nxT x.tape x.qlen rp.2.1)).2.2.length + 1 by omega]; show gqN gy2 ≤ (if _ then _ else _); rw [← b2, show g.sz + (rp.2.2.length + (F x.tape x.qlen (nxT x.tape x.qlen rp.2.1)).2.2.length) = gy2.sz by omega]; exact Nat.le_refl _
            rw [← hsa]
            have hP := pmP (show List.Perm (α := Nat × va_E) (VW dA h ad y3) (LqW dA sa gy2 ++ (VW dA h ad (VS.s_ll y3 r))) from llP (dA := dA) (h := h) (ad := ad) (x := y3) (L := LqW dA sa gy2) (r := r) hl3) hP
            have hD := pmD (show List.Perm (α := Nat × va_E) (VW dA h ad y3) (LqW dA sa gy2 ++ (VW dA h ad (VS.s_ll y3 r))) from llP (dA := dA) (h := h) (ad := ad) (x := y3) (L := LqW dA sa gy2) (r := r) hl3) hD
            have hP : va_P D vwCl (LqW dA sa gy2 ++ (VW dA h ad (VS.s_ll y3 r))) H := hP
            have hD : va_D A (LqW dA sa gy2 ++ (VW dA h ad (VS.s_ll y3 r))) := hD
            refine jkI (wr := []) (rnVy (As := [.ref sp]) (rest := []) hx hb hml hown hE hK hZ hT hM hS (hN _ _ hS) hP hD (v_LaddQ_E l D dA H.size e0 mi (VW dA h ad (VS.s_ll y3 r)) sa gy2 sp ([.int y.qk, .int (nI y.qst), .long 0, .ref na, .int 0, .ref ln, .ref lt, .ref mk]) hp2.2.2.1.2.2.1.1 (fun i hi y hy => by obtain ⟨vs, hv⟩ := hp2.2.2.1.2.2.1.2 i hi y hy; have h9 : (y, .inr (13, vs)) ∈ (VS.s_ll y3 r).pl := hv; exact ⟨vs, (fun _ hm => (plm hm)) _ h9⟩) (by have h9 : (sp, .inr (13, [.int y.qk, .int (nI y.qst), .long 0, .ref na, .int 0, .ref ln, .ref lt, .ref mk])) ∈ (VS.s_ll y3 r).pl := ms3; exact ((fun _ hm => (plm hm)) _ h9))) (q0 := 0) rfl rfl w812 w1653 w813 w814 w680 rfl rfl ⟨⟨by decide, by decide⟩, rfl⟩ ⟨(by first | exact Nat.le_of_ble_eq_true rfl | (dsimp only; omega)), (by first | exact Nat.le_of_ble_eq_true rfl | (dsimp only; omega))⟩ rfl hl.1 rfl (by first | exact Nat.le_of_ble_eq_true rfl | (dsimp only; omega)) d_Q_readExp_72 ⟨(show 8 * (rqP rp.1 rp.2.1 - x.qst) + 1 + 4 + 0 + (8 * (rqP (F y2.tape y2.qlen y2.tk).1 (F y2.tape y2.qlen y2.tk).2.1 - y2.qst)) + 1 ≤ 8 * (rqP (pEx F x.tape x.qlen x.tk).1 (pEx F x.tape x.qlen x.tk).2.1 - x.qst) by omega), (show 64 * (rqP rp.1 rp.2.1 - x.qst) + 4 * (cpR g.eN g.sz rp.2.2.length - g.eN) + 8 + 6 + 0 + (64 * (rqP (F y2.tape y2.qlen y2.tk).1 (F y2.tape y2.qlen y2.tk).2.1 - y2.qst) + 4 * (cpR gq.eN gq.sz (F y2.tape y2.qlen y2.tk).2.2.length - gq.eN)) + (gqS gy2) ≤ 64 * (rqP (pEx F x.tape x.qlen x.tk).1 (pEx F x.tape x.qlen x.tk).2.1 - x.qst) + 4 * (cpR g.eN g.sz (pEx F x.tape x.qlen x.tk).2.2.length - g.eN) by omega)⟩) hP hD hS hA (fun r15 u16 H locs hp9 hP hD hS => ?_)
            obtain ⟨gy3, h9u⟩ : ∃ z9, z9 = u16 := ⟨_, rfl⟩
            subst h9u
            have hP : va_P D vwCl (LqW dA sa gy3 ++ (VW dA h ad (VS.s_ll y3 r))) H := hP
            have hD : va_D A (LqW dA sa gy3 ++ (VW dA h ad (VS.s_ll y3 r))) := hD
            obtain ⟨hp9, f_f_17⟩ := hp9
            replace hp9 : 1 = r15 := Eq.symm hp9
            subst hp9
            refine lv_pop hx hb d_Q_readExp_75 rfl ?_
            have hP := pmP (show List.Perm (α := Nat × va_E) (LqW dA sa gy3 ++ (VW dA h ad (VS.s_ll y3 r))) (VW dA h ad (VS.s_ll y3 (LqW dA sa gy3 ++ r))) from (llP (dA := dA) (h := h) (ad := ad) (x := (VS.s_ll y3 (LqW dA sa gy3 ++ r))) (L := LqW dA sa gy3) (r := r) rfl).symm) hP
            have hD := pmD (show List.Perm (α := Nat × va_E) (LqW dA sa gy3 ++ (VW dA h ad (VS.s_ll y3 r))) (VW dA h ad (VS.s_ll y3 (LqW dA sa gy3 ++ r))) from (llP (dA := dA) (h := h) (ad := ad) (x := (VS.s_ll y3 (LqW dA sa gy3 ++ r))) (L := LqW dA sa gy3) (r := r) rfl).symm) hD
            have hP : va_P D vwCl (VW dA h ad (VS.s_ll y3 (LqW dA sa gy3 ++ r))) H := hP
            have hD : va_D A (VW dA h ad (VS.s_ll y3 (LqW dA sa gy3 ++ r))) := hD
            obtain ⟨y4, e_y4⟩ : ∃ w9, w9 = VS.s_ll y3 (LqW dA sa gy3 ++ r) := ⟨_, rfl⟩
            rw [← e_y4] at hP hD
            have hP : va_P D vwCl (VW dA h ad y4) H := hP
            have hD : va_D A (VW dA h ad y4) := hD
            have is3b : isSP dA y3.pl sp (spO rp.2.1.1 rp.2.1.2.1 0) := by have e9 := is3; rw [show y.qk = rp.2.1.1 from congrArg (fun q : TKQ => q.1) hp.2.1, ey] at e9; exact e9
            have hp4 := pq_op hp g4 q12 hp2 ms3 is3b f_f_17 e_y4 b7
            have b9 : gy3.eN = gqN gy2 := f_f_17.2.1
            refine lv_iinc (k := 2) (v := nI (i + 1)) hx hb d_Q_readExp_76 hl rfl (iincN (i) 1 1 (by decide)) (by decide) rfl (fun ls hl => ?_)
            have hl : lv_has ls 5 [(3, .int (nI (i + 1))), (2, .int (bI (opS F x.tape x.qlen rp).1)), (4, .ref sp), (1, .int (nI o)), (0, .ref (ad 22))] := hl
            refine lv_goto hx hb d_Q_readExp_79 (tgt := 8) rfl ?_
            refine W.widen (k := 8 * (rqP (opS F x.tape x.qlen rp).1 (opS F x.tape x.qlen rp).2.1 - x.qst)) (n := 64 * (rqP (opS F x.tape x.qlen rp).1 (opS F x.tape x.qlen rp).2.1 - x.qst) + 4 * (cpR g.eN g.sz (opS F x.tape x.qlen rp).2.2.length - g.eN)) (show 8 * (rqP rp.1 rp.2.1 - x.qst) + 1 + 4 + 0 + (8 * (rqP (F y2.tape y2.qlen y2.tk).1 (F y2.tape y2.qlen y2.tk).2.1 - y2.qst)) + 1 ≤ 8 * (rqP (opS F x.tape x.qlen rp).1 (opS F x.tape x.qlen rp).2.1 - x.qst) from by omega) (show 64 * (rqP rp.1 rp.2.1 - x.qst) + 4 * (cpR g.eN g.sz rp.2.2.length - g.eN) + 8 + 6 + 0 + (64 * (rqP (F y2.tape y2.qlen y2.tk).1 (F y2.tape y2.qlen y2.tk).2.1 - y2.qst) + 4 * (cpR gq.eN gq.sz (F y2.tape y2.qlen y2.tk).2.2.length - gq.eN)) + (gqS gy2) ≤ 64 * (rqP (opS F x.tape x.qlen rp).1 (opS F x.tape x.qlen rp).2.1 - x.qst) + 4 * (cpR g.eN g.sz (opS F x.tape x.qlen rp).2.2.length - g.eN) from by omega) ?_
            exact ih8 _ (by omega) (i + 1) (opS F x.tape x.qlen rp) y4 gy3 (by omega) hp4 o1 (by rw [show x.qlen - (i + 1) = x.qlen - i - 1 by omega]; exact er2) rfl H _ ls hP hD hS (lv_sub hl [1, 0, 3, 4] rfl)
          refine lv_aload_n hx hb d_Q_readExp_20 rfl (lv_at hl 3 rfl) ?_
          refine gF (v := .int y.qk) hx hb hown hE hK hP 36 rfl rfl layQ 2 (by decide) w663 rfl d_Q_readExp_21 ?_
          refine lv_bipush (v := 43) hx hb d_Q_readExp_24 (by decide) ?_
          refine lv_icmp_eq hx hb d_Q_readExp_26 (tgt := 38) rfl (fun g18 => ?_) (fun g18 => ?_)
          · have g18 := g18
            exact J38 (show isAd y.qk = true by rw [g18]; rfl) H _ ls hP hD hS (lv_sub hl [0, 1, 2, 3] rfl)
          · have g18 := g18
            refine lv_aload_n hx hb d_Q_readExp_29 rfl (lv_at hl 3 rfl) ?_
            refine gF (v := .int y.qk) hx hb hown hE hK hP 36 rfl rfl layQ 2 (by decide) w663 rfl d_Q_readExp_30 ?_
            refine lv_bipush (v := 45) hx hb d_Q_readExp_33 (by decide) ?_
            refine lv_icmp_ne hx hb d_Q_readExp_35 (tgt := 82) rfl (fun g19 => ?_) (fun g19 => ?_)
            · have g19 := g19
              refine lv_iload_n hx hb d_Q_readExp_82 rfl (lv_at hl 0 rfl) ?_
              exact rfZ hx hb hr (bI_nar rp.1) hlk hS (⟨y, gq⟩) (by have E : rp = pEx F x.tape x.qlen x.tk := (opL_e (Or.inr (Or.inr (by rw [← hp.2.1]; exact (show isAd y.qk = false by show (decide (y.qk = 43) || decide (y.qk = 45)) = false; rw [decide_eq_false g18, decide_eq_false g19]; rfl))))).symm.trans er; exact ⟨by rw [← E], by rw [← E]; exact hp⟩) hP hD (show 8 * (rqP rp.1 rp.2.1 - x.qst) ≤ 8 * (rqP (pEx F x.tape x.qlen x.tk).1 (pEx F x.tape x.qlen x.tk).2.1 - x.qst) by omega) (show 64 * (rqP rp.1 rp.2.1 - x.qst) + 4 * (cpR g.eN g.sz rp.2.2.length - g.eN) ≤ 64 * (rqP (pEx F x.tape x.qlen x.tk).1 (pEx F x.tape x.qlen x.tk).2.1 - x.qst) + 4 * (cpR g.eN g.sz (pEx F x.tape x.qlen x.tk).2.2.length - g.eN) by omega) d_Q_readExp_83
            · have g19 := g19
              exact J38 (show isAd y.qk = true by rw [g19]; rfl) H _ ls hP hD hS (lv_sub hl [0, 1, 2, 3] rfl)
  refine W.widen (k := 8 * (rqP (F x.tape x.qlen x.tk).1 (F x.tape x.qlen x.tk).2.1 - x.qst)) (n := 64 * (rqP (F x.tape x.qlen x.tk).1 (F x.tape x.qlen x.tk).2.1 - x.qst) + 4 * (cpR g.eN g.sz (F x.tape x.qlen x.tk).2.2.length - g.eN)) (show 0 + (8 * (rqP (F x.tape x.qlen x.tk).1 (F x.tape x.qlen x.tk).2.1 - x.qst)) ≤ 8 * (rqP (F x.tape x.qlen x.tk).1 (F x.tape x.qlen x.tk).2.1 - x.qst) from by omega) (show 0 + (64 * (rqP (F x.tape x.qlen x.tk).1 (F x.tape x.qlen x.tk).2.1 - x.qst) + 4 * (cpR g.eN g.sz (F x.tape x.qlen x.tk).2.2.length - g.eN)) ≤ 64 * (rqP (F x.tape x.qlen x.tk).1 (F x.tape x.qlen x.tk).2.1 - x.qst) + 4 * (cpR g.eN g.sz (F x.tape x.qlen x.tk).2.2.length - g.eN) from by omega) ?_
  exact L8 _ 0 (F x.tape x.qlen x.tk) y0 gy1 (Nat.zero_le _) f_p_3 gx0 rfl rfl H _ ls hP hD hS (lv_sub hl [1, 0, 3, 2] rfl)
