theorem rsAll_ad {dA : Nat → ClassId} {ws : va_W} {NL : Nat → List Int32} {t : TB} {RS : Nat → List LB} {S : List LB} {a : Nat} (h : rsAll dA ws t.rs) (ha : isSer dA ws a S) (ho : serOk S) : rsAll dA ws (adT NL t RS S a).rs := by
  unfold adT
  split
  · exact h
  · intro q b hq
    have hq : va_up (shF t.rs (plT NL t.nc t.rc RS S) t.rc) (plT NL t.nc t.rc RS S) (some a) q = some b := hq
    unfold va_up at hq
    split at hq
    · cases hq
      exact ⟨S, ha, ho⟩
    · unfold shF at hq
      split at hq
      · exact h _ b hq
      · exact h _ b hq
section PKL
variable {NL : Nat → List Int32} {n : Nat} {KD : Nat → Int32} {MN MT : Nat → List Int32} {SS : Nat → List LB} {kn : Nat → Option Nat} {g : PKS} {i : Nat}
theorem pk_t (h : allB n (tkF KD MN MT (SS i)) = true) : pkG NL n KD MN MT SS kn g (i + 1) = (adT NL (pkG NL n KD MN MT SS kn g i).1 (pkG NL n KD MN MT SS kn g i).2.1 (SS i) ((kn i).getD 0), adRS NL (pkG NL n KD MN MT SS kn g i).1 (pkG NL n KD MN MT SS kn g i).2.1 (SS i), va_up (va_up (pkG NL n KD MN MT SS kn g i).2.2.1 i (-1)) i 0, va_up (pkG NL n KD MN MT SS kn g i).2.2.2 i false) := if_pos h
theorem pk_f (h : allB n (tkF KD MN MT (SS i)) = false) : pkG NL n KD MN MT SS kn g (i + 1) = ((pkG NL n KD MN MT SS kn g i).1, (pkG NL n KD MN MT SS kn g i).2.1, va_up (pkG NL n KD MN MT SS kn g i).2.2.1 i (-1), va_up (pkG NL n KD MN MT SS kn g i).2.2.2 i false) := if_neg (by show ¬ allB n (tkF KD MN MT (SS i)) = true; rw [h]; decide)
end PKL
set_option maxHeartbeats 4000000 in
set_option maxRecDepth 100000 in
theorem v_TbeginRows2 (l : Launch) (D : va_G) (dA : Nat → ClassId) (sz : Nat) (ws : va_W) (ta : Nat → Nat) (t : TB) (sp : Nat) (wn : Nat) (kd : Int32) (pl : Nat) (nu : Int64) (nn : Nat) (NL : Nat → List Int32) (n : Nat) (KD : Nat → Int32) (MN : Nat → List Int32) (MT : Nat → List Int32) (w0 : va_W) (hsub : ∀ c, c ∈ w0 → c ∈ ws) (hst : isStp dA w0 sp kd pl nu nn NL n KD MN MT) : Met l ⟨"SeriesVault$Table", "beginRows", "(LSeriesVault$Step;I)V"⟩ [Cond.code ⟨"SeriesVault$Table", "beginRows", "(LSeriesVault$Step;I)V"⟩ prog_11_method_3_code 4 none] { frames := 1, cells := 0, slots := 0, locals := 0 } (pC D dA [.ref (ta 0), .ref sp, .int (nI wn)] (TbW dA ta t ++ (ws)) sz) (va_Qv (fun (u9 : (Nat → Option Nat)) => nmOk dA w0 u9 nn NL) (fun (u9 : (Nat → Option Nat)) t9 => bW D (va_A (TbW dA ta t ++ (ws)) sz) (TbW dA ta (TB.s_rc (TB.s_wi (TB.s_nc (TB.s_nm t u9) nn) wn) 0) ++ (ws)) t9) (va_A (TbW dA ta t ++ (ws)) sz)) 0 0 (va_A (TbW dA ta t ++ (ws)) sz) := by
  refine mkC (y := ⟨"SeriesVault$Table", "beginRows", "(LSeriesVault$Step;I)V"⟩) (cc := prog_11_method_3_code) (maxL := 4) (av := [.ref (ta 0), .ref sp, .int (nI wn)]) (ws := TbW dA ta t ++ (ws)) (sz := sz) (Qc := fun A => va_Qv (fun (u9 : (Nat → Option Nat)) => nmOk dA w0 u9 nn NL) (fun (u9 : (Nat → Option Nat)) t9 => bW D A (TbW dA ta (TB.s_rc (TB.s_wi (TB.s_nc (TB.s_nm t u9) nn) wn) 0) ++ (ws)) t9) A) (by decide) (Nat.le_of_ble_eq_true rfl) ?_
  intro A p e s m below meth c ls hsz hB
  obtain ⟨hx, hb, hr, hml, hown, hin, hlk, hE, hK, hP, hD, hS, hA, hN, hl⟩ := hB
  have hown : s.vm.findClass "SeriesVault$Table" = some m.cls := hown
  have hl : lv_has ls 4 [(0, .ref (ta 0)), (1, .ref sp), (2, .int (nI wn))] := hl
  obtain ⟨H, hH⟩ : ∃ z, z = s.heap := ⟨_, rfl⟩
  have hP : va_P D vwCl (TbW dA ta t ++ (ws)) H := by rw [hH]; exact hP
  have hS : va_S A s.heap H [] := by rw [hH]; exact hS
  rw [← hH]
  have hsc := hst
  obtain ⟨na, ln, lt, mk, cap, kN, fn, fk, i1a, i2a, j3, j4, j5, j6, j7, i8a, j9, j10, j11⟩ := hsc
  have j1 := hsub _ i1a
  have j2 := hsub _ i2a
  have j8 := hsub _ i8a
  refine lv_aload_n hx hb d_T_beginRows_0 rfl (lv_at hl 0 rfl) ?_
  refine lv_iload_n hx hb d_T_beginRows_1 rfl (lv_at hl 2 rfl) ?_
  refine pF (v := .int (nI wn)) hx hb hown hE hK hP hD hS 0 rfl rfl layT tyT tokT nmT 2 (by decide) w1367 rfl rfl rfl (Nat.le_of_ble_eq_true rfl) d_T_beginRows_2 (fun H locs hP hD hS => ?_)
  have hP : va_P D vwCl (TbW dA ta (TB.s_wi t wn) ++ (ws)) H := hP
  have hD : va_D A (TbW dA ta (TB.s_wi t wn) ++ (ws)) := hD
  refine lv_aload_n hx hb d_T_beginRows_5 rfl (lv_at hl 0 rfl) ?_
  refine lv_aload_n hx hb d_T_beginRows_6 rfl (lv_at hl 1 rfl) ?_
  obtain ⟨qp1, ep2⟩ := List.getElem?_of_mem (show ((sp, .inr (13, [.int kd, .int (nI pl), .long nu, .ref na, .int (nI nn), .ref ln, .ref lt, .ref mk])) : Nat × va_E) ∈ TbW dA ta (TB.s_wi t wn) ++ (ws) from (List.mem_append_right _ j1))
  refine gFN (v := .int (nI nn)) hx hb hown hE hK hP qp1 ep2 rfl layE 4 (by decide) w1499 rfl d_T_beginRows_7 ?_
  refine pF (v := .int (nI nn)) hx hb hown hE hK hP hD hS 0 rfl rfl layT tyT tokT nmT 1 (by decide) w1376 rfl rfl rfl (Nat.le_of_ble_eq_true rfl) d_T_beginRows_10 (fun H locs hP hD hS => ?_)
  have hP : va_P D vwCl (TbW dA ta (TB.s_wi (TB.s_nc t nn) wn) ++ (ws)) H := hP
  have hD : va_D A (TbW dA ta (TB.s_wi (TB.s_nc t nn) wn) ++ (ws)) := hD
  refine lv_iconst (v := 0) hx hb d_T_beginRows_13 (by decide) ?_
  refine lv_istore_n hx hb d_T_beginRows_14 rfl hl (by decide) rfl (fun ls hl => ?_)
  have hl : lv_has ls 4 [(3, .int 0), (0, .ref (ta 0)), (1, .ref sp), (2, .int (nI wn))] := hl
  have L15 : ∀ (k9 : Nat) (i : Nat) (nx : Nat → Option Nat) (i1 : i ≤ nn) (i2 : ∀ q, q < i → nx q = fn q) (hk9 : nn - i = k9), ∀ (H : Heap) (locs : List Loc) (ls : Array Slot) (hP : va_P D vwCl (TbW dA ta (TB.s_wi (TB.s_nc (TB.s_nm t nx) nn) wn) ++ (ws)) H) (hD : va_D A (TbW dA ta (TB.s_wi (TB.s_nc (TB.s_nm t nx) nn) wn) ++ (ws))) (hS : va_S A s.heap H locs) (hl : lv_has ls 4 [(3, .int (nI i)), (0, .ref (ta 0)), (1, .ref sp), (2, .int (nI wn))]), W p l e ({ frames := 1, cells := 0, slots := 0, locals := 0 } : Room) s m ([.ref (ta 0), .ref sp, .int (nI wn)] : List Value).toArray below meth c H locs 0 0 (MQ below (va_Qv (fun (u9 : (Nat → Option Nat)) => nmOk dA w0 u9 nn NL) (fun (u9 : (Nat → Option Nat)) t9 => bW D A (TbW dA ta (TB.s_rc (TB.s_wi (TB.s_nc (TB.s_nm t u9) nn) wn) 0) ++ (ws)) t9) A) ([.ref (ta 0), .ref sp, .int (nI wn)] : List Value).toArray s 0 0 A) (F0 m 15 ls []) := by
    intro k9
    induction k9 using Nat.strongRecOn with
    | ind k9 ih15 =>
      intro i nx i1 i2 hk9 H locs ls hP hD hS hl
      refine lv_iload_n hx hb d_T_beginRows_15 rfl (lv_at hl 0 rfl) ?_
      refine lv_aload_n hx hb d_T_beginRows_16 rfl (lv_at hl 1 rfl) ?_
      refine gF (v := .int (nI nn)) hx hb hown hE hK hP 0 rfl rfl layT 1 (by decide) w1376 rfl d_T_beginRows_17 ?_
      refine lv_icmp_ge hx hb d_T_beginRows_20 (tgt := 41) rfl (fun g3 => ?_) (fun g3 => ?_)
      · have g3 := (nI_leI (a := nn) (b := i) (by omega) (by omega)).mp g3
        refine lv_aload_n hx hb d_T_beginRows_41 rfl (lv_at hl 1 rfl) ?_
        refine lv_iconst (v := 0) hx hb d_T_beginRows_42 (by decide) ?_
        refine pF (v := .int (nI 0)) hx hb hown hE hK hP hD hS 0 rfl rfl layT tyT tokT nmT 3 (by decide) w1368 rfl rfl rfl (Nat.le_of_ble_eq_true rfl) d_T_beginRows_43 (fun H locs hP hD hS => ?_)
        have hP : va_P D vwCl (TbW dA ta (TB.s_rc (TB.s_wi (TB.s_nc (TB.s_nm t nx) nn) wn) 0) ++ (ws)) H := hP
        have hD : va_D A (TbW dA ta (TB.s_rc (TB.s_wi (TB.s_nc (TB.s_nm t nx) nn) wn) 0) ++ (ws)) := hD
        exact rfV hx hb hr hlk hS nx (fun q hq => by obtain ⟨p9, a1, a2, a3⟩ := j5 q hq; exact ⟨p9, by rw [i2 q (by omega)]; exact a1, a2, a3⟩) hP hD (Nat.le_of_ble_eq_true rfl) (Nat.le_of_ble_eq_true rfl) d_T_beginRows_46
      · have g3 := mt (nI_leI (a := nn) (b := i) (by omega) (by omega)).mpr g3
        refine lv_aload_n hx hb d_T_beginRows_23 rfl (lv_at hl 1 rfl) ?_
        obtain ⟨p1, ep1, wp1, lp1⟩ := j5 i (by omega)
        have wpc := wp1
        obtain ⟨bp1, fp1, kp1, -⟩ := wpc
        have kp2 := hsub _ kp1
        refine gF (v := .ref (ta 1)) hx hb hown hE hK hP 0 rfl rfl layT 0 (by decide) w784 rfl d_T_beginRows_24 ?_
        refine lv_iload_n hx hb d_T_beginRows_27 rfl (lv_at hl 0 rfl) ?_
        refine lv_aload_n hx hb d_T_beginRows_28 rfl (lv_at hl 2 rfl) ?_
        obtain ⟨qp4, ep5⟩ := List.getElem?_of_mem (show ((sp, .inr (13, [.int kd, .int (nI pl), .long nu, .ref na, .int (nI nn), .ref ln, .ref lt, .ref mk])) : Nat × va_E) ∈ TbW dA ta (TB.s_wi (TB.s_nc (TB.s_nm t nx) nn) wn) ++ (ws) from (List.mem_append_right _ j1))
        refine gFN (v := .ref na) hx hb hown hE hK hP qp4 ep5 rfl layE 3 (by decide) w1500 rfl d_T_beginRows_29 ?_
        refine lv_iload_n hx hb d_T_beginRows_32 rfl (lv_at hl 0 rfl) ?_
        obtain ⟨qp6, ep7⟩ := List.getElem?_of_mem (show ((na, .inl (dA 6, cap, .inr (.inr (.inr (.inr fn))))) : Nat × va_E) ∈ TbW dA ta (TB.s_wi (TB.s_nc (TB.s_nm t nx) nn) wn) ++ (ws) from (List.mem_append_right _ j2))
        refine nqld (f := fn) (n := cap) hx hb hK hP (qp6) 6 ep7 rfl (i) (by omega) (by omega) ep1 d_T_beginRows_33 ?_
        obtain ⟨qp8, ep9⟩ := List.getElem?_of_mem (show ((p1, .inr (10, [.ref bp1])) : Nat × va_E) ∈ TbW dA ta (TB.s_wi (TB.s_nc (TB.s_nm t nx) nn) wn) ++ (ws) from (List.mem_append_right _ kp2))
        refine nqst (r := ("SeriesVault$Word", TW, 1)) (f := nx) (n := 6) hx hb hK hP hD hS (1) 6 (qp8) 10 rfl rfl ep9 rfl (i) (by omega) (by decide) d_T_beginRows_34 (fun H locs hP hD hS => ?_)
        have hP : va_P D vwCl (TbW dA ta (TB.s_wi (TB.s_nc (TB.s_nm t (va_up nx i (some p1))) nn) wn) ++ (ws)) H := hP
        have hD : va_D A (TbW dA ta (TB.s_wi (TB.s_nc (TB.s_nm t (va_up nx i (some p1))) nn) wn) ++ (ws)) := hD
        refine lv_iinc (k := 0) (v := nI (i + 1)) hx hb d_T_beginRows_35 hl rfl (iincN (i) 1 1 (by decide)) (by decide) rfl (fun ls hl => ?_)
        have hl : lv_has ls 4 [(3, .int (nI (i + 1))), (0, .ref (ta 0)), (1, .ref sp), (2, .int (nI wn))] := hl
        refine lv_goto hx hb d_T_beginRows_38 (tgt := 15) rfl ?_
        exact ih15 _ (by omega) (i + 1) (va_up nx i (some p1)) (by omega) (fun q hq => up_lt i2 ep1 hq) rfl H _ ls hP hD hS (lv_sub hl [0, 1, 2, 3] rfl)
  exact L15 _ 0 t.nm (Nat.zero_le _) (fun q h => absurd h (Nat.not_lt_zero q)) rfl H _ ls hP hD hS (lv_sub hl [0, 1, 2, 3] rfl)
