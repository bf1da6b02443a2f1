/-! The journal done again. -/
def VS.dgc (x : VS) (i : Nat) : Nat := if x.jK i = 1 then x.cmcap (x.jF i) else x.hN
/-- what record i does -/
def dgS (PS : Nat → PT) (x y : VS) (i : Nat) : Prop := (x.jK i = 0 ∧ y = x.adS) ∨ (x.jK i = 1 ∧ ∃ pa : Nat → Nat, y = x.cmF pa (x.jO i) (x.jF i) (x.jS i)) ∨ (x.jK i = 2 ∧ sumN x.npc (x.soN PS (x.jO i) (x.jF i) (x.jS i)) = 0 ∧ y = x.dwS (x.jO i) (x.jF i) (x.jS i)) ∨ (x.jK i = 2 ∧ 0 < sumN x.npc (x.soN PS (x.jO i) (x.jF i) (x.jS i)) ∧ y = (x.dwS (x.jO i) (x.jF i) (x.jS i)).asS (x.jO i) (x.jF i) (x.jS i))
/-- what record i wants -/
def dgB (dA : Nat → ClassId) (PS : Nat → PT) (x : VS) (i : Nat) : Prop := psOk dA x.nP x.npc x.pl PS ∧ x.npc ≤ 32 ∧ x.nsc ≤ 64 ∧ (∀ q : Nat, q < x.nsc → x.nsO q < 2 ^ 31) ∧ x.hsize ≤ x.hN ∧ x.hN ≤ 65536 ∧ x.jO i < 256 ∧ ∀ q : Nat, q < x.hsize → x.hO q < 2 ^ 31
def dgO (dA : Nat → ClassId) (PS : Nat → PT) (x : VS) (i : Nat) : Prop := (x.jK i = 0 ∧ x.nser < 256) ∨ (x.jK i = 1 ∧ x.jO i < 256 ∧ x.hsize ≤ x.hN ∧ 0 < x.hN ∧ x.hN ≤ 32768) ∨ (x.jK i = 2 ∧ dgB dA PS x i ∧ sumN x.npc (x.soN PS (x.jO i) (x.jF i) (x.jS i)) = 0) ∨ (x.jK i = 2 ∧ dgB dA PS x i ∧ 0 < sumN x.npc (x.soN PS (x.jO i) (x.jF i) (x.jS i)) ∧ x.nsc < 64)
def dgR (PS : Nat → PT) (x : VS) : Nat → VS → Prop
  | 0, z => z = x
  | i + 1, z => ∃ y : VS, dgR PS x i y ∧ dgS PS y z i
theorem cmF_N (x : VS) (pa : Nat → Nat) (w : Nat) (a b : Int64) : (x.cmF pa w a b).hN = x.cmcap a := by
  unfold VS.cmF VS.cmcap
  split
  · rfl
  · exact (haF_b (VS.s_nlast x (va_up x.nlast w a)) pa w a b).2.2.2.2.2.2.2.2
theorem dgS_N {PS : Nat → PT} {x y : VS} {i : Nat} (h : dgS PS x y i) : y.hN = x.dgc i := by
  unfold VS.dgc
  rcases h with ⟨h1, h2⟩ | ⟨h1, pa, h2⟩ | ⟨h1, h3, h2⟩ | ⟨h1, h3, h2⟩
  · rw [if_neg (by rw [h1]; decide), h2]; rfl
  · rw [if_pos h1, h2]; exact cmF_N x pa _ _ _
  · rw [if_neg (by rw [h1]; decide), h2]; rfl
  · rw [if_neg (by rw [h1]; decide), h2]; rfl
theorem dgc_ge (x : VS) (i : Nat) : x.hN ≤ x.dgc i := by
  unfold VS.dgc VS.cmcap VS.hcap
  split
  · split
    · exact Nat.le_refl _
    · split <;> omega
  · exact Nat.le_refl _
theorem dgS_ex {dA : Nat → ClassId} {PS : Nat → PT} {x : VS} {i : Nat} (h : dgO dA PS x i) : ∃ y, dgS PS x y i := by
  rcases h with ⟨h1, -⟩ | ⟨h1, -⟩ | ⟨h1, -, h2⟩ | ⟨h1, -, h2, -⟩
  · exact ⟨_, Or.inl ⟨h1, rfl⟩⟩
  · exact ⟨_, Or.inr (Or.inl ⟨h1, fun _ => 0, rfl⟩)⟩
  · exact ⟨_, Or.inr (Or.inr (Or.inl ⟨h1, h2, rfl⟩))⟩
  · exact ⟨_, Or.inr (Or.inr (Or.inr ⟨h1, h2, rfl⟩))⟩
set_option maxHeartbeats 4000000 in
set_option maxRecDepth 100000 in
theorem v_doAgain (l : Launch) (D : va_G) (dA : Nat → ClassId) (sz : Nat) (h : Nat) (ad : Nat → Nat) (x : VS) (PS : Nat → PT) (i : Nat) (hi : i < x.jsize) (hj1 : x.jsize ≤ x.jN) (hj2 : x.jN ≤ 65536) (hok : dgO dA PS x i) : Met l ⟨"SeriesVault", "doAgain", "(I)V"⟩ [Cond.code ⟨"SeriesVault", "doAgain", "(I)V"⟩ prog_1_method_19_code 3 none] { frames := 6, cells := 3 * (x.dgc i - x.hN), slots := 6 * (x.dgc i - x.hN), locals := 128 } (pC D dA [.ref h, .int (nI i)] (VW dA h ad x) sz) (va_Qv (fun (u9 : VS) => dgS PS x u9 i) (fun (u9 : VS) t9 => bW D (va_A (VW dA h ad x) sz) (VW dA h ad u9) t9) (va_A (VW dA h ad x) sz)) (3 * (x.dgc i - x.hN)) (6 * (x.dgc i - x.hN)) (va_A (VW dA h ad x) sz) := by
  refine mkC (y := ⟨"SeriesVault", "doAgain", "(I)V"⟩) (cc := prog_1_method_19_code) (maxL := 3) (av := [.ref h, .int (nI i)]) (ws := VW dA h ad x) (sz := sz) (Qc := fun A => va_Qv (fun (u9 : VS) => dgS PS x u9 i) (fun (u9 : VS) t9 => bW D A (VW dA h ad u9) t9) A) (by decide) (Nat.le_of_ble_eq_true rfl) ?_
  intro A p e s m below meth c ls hsz hB
  obtain ⟨hx, hb, hr, hml, hown, hin, hlk, hE, hK, hP, hD, hS, hA, hN, hl⟩ := hB
  have hown : s.vm.findClass "SeriesVault" = some m.cls := hown
  have hl : lv_has ls 3 [(0, .ref h), (1, .int (nI i))] := hl
  obtain ⟨H, hH⟩ : ∃ z, z = s.heap := ⟨_, rfl⟩
  have hP : va_P D vwCl (VW dA h ad x) H := by rw [hH]; exact hP
  have hS : va_S A s.heap H [] := by rw [hH]; exact hS
  rw [← hH]
  rcases hok with hq | hq | hq | hq
  · refine lv_aload_n hx hb d_V_doAgain_0 rfl (lv_at hl 0 rfl) ?_
    obtain ⟨hk, hq1⟩ := hq
    refine gF (v := .ref (ad 0)) hx hb hown hE hK hP 0 rfl rfl layV 8 (by decide) w312 rfl d_V_doAgain_1 ?_
    refine gFN (v := .ref (x.jA 1)) hx hb hown hE hK hP 2 rfl rfl layJ 1 (by decide) w1363 rfl d_V_doAgain_4 ?_
    refine lv_iload_n hx hb d_V_doAgain_7 rfl (lv_at hl 1 rfl) ?_
    refine nild (f := (fun z9 => nI (x.jO z9))) (n := x.jN) hx hb hK hP (4) 1 rfl rfl (i) (by omega) (by omega) d_V_doAgain_8 ?_
    refine lv_istore_n hx hb d_V_doAgain_9 rfl hl (by decide) rfl (fun ls hl => ?_)
    have hl : lv_has ls 3 [(2, .int (nI (x.jO i))), (0, .ref h), (1, .int (nI i))] := hl
    refine lv_aload_n hx hb d_V_doAgain_10 rfl (lv_at hl 1 rfl) ?_
    refine gF (v := .ref (ad 0)) hx hb hown hE hK hP 0 rfl rfl layV 8 (by decide) w312 rfl d_V_doAgain_11 ?_
    refine gFN (v := .ref (x.jA 0)) hx hb hown hE hK hP 2 rfl rfl layJ 0 (by decide) w1364 rfl d_V_doAgain_14 ?_
    refine lv_iload_n hx hb d_V_doAgain_17 rfl (lv_at hl 2 rfl) ?_
    refine nild (f := (fun z9 => nI (x.jK z9))) (n := x.jN) hx hb hK hP (3) 1 rfl rfl (i) (by omega) (by omega) d_V_doAgain_18 ?_
    refine tpi (y := 0) (by rw [hk]; rfl) ?_
    refine lv_lookup (x := 0) (off := 25) (tgt := 44) hx hb d_V_doAgain_19 (by decide) (by decide) rfl ?_
    refine lv_aload_n hx hb d_V_doAgain_44 rfl (lv_at hl 1 rfl) ?_
    refine gF (v := .ref (ad 3)) hx hb hown hE hK hP 0 rfl rfl layV 11 (by decide) w297 rfl d_V_doAgain_45 ?_
    refine jkV (wr := []) (rnV (As := []) (rest := []) hx hb hml hown hE hK (hN _ _ hS) hP hD (v_addSeries l D dA H.size h ad x (show x.nser < 256 from by omega)) (q0 := 17) rfl rfl w1332 w1331 w1333 w1334 w583 rfl rfl ⟨⟨by decide, by decide⟩, rfl⟩ ⟨(Nat.le_of_ble_eq_true rfl), (Nat.le_of_ble_eq_true rfl)⟩ rfl hl.1 rfl (Nat.le_of_ble_eq_true rfl) d_V_doAgain_48 ⟨(show 0 + 0 ≤ 3 * (x.dgc i - x.hN) by omega), (show 0 + 0 ≤ 6 * (x.dgc i - x.hN) by omega)⟩) hP hD hS hA (fun u2 H locs hp9 hP hD hS => ?_)
    have hP : va_P D vwCl (VW dA h ad (VS.s_nlast (VS.s_nser x (x.nser + 1)) (va_up x.nlast x.nser (-1)))) H := hP
    have hD : va_D A (VW dA h ad (VS.s_nlast (VS.s_nser x (x.nser + 1)) (va_up x.nlast x.nser (-1)))) := hD
    refine lv_goto hx hb d_V_doAgain_51 (tgt := 103) rfl ?_
    exact rfV hx hb hr hlk hS (VS.s_nlast (VS.s_nser x (x.nser + 1)) (va_up x.nlast x.nser (-1))) (Or.inl ⟨hk, rfl⟩) hP hD (show 0 + 0 ≤ 3 * (x.dgc i - x.hN) by omega) (show 0 + 0 ≤ 6 * (x.dgc i - x.hN) by omega) d_V_doAgain_103
  · refine lv_aload_n hx hb d_V_doAgain_0 rfl (lv_at hl 0 rfl) ?_
    obtain ⟨hk, hw, hs1, hs2, hs3⟩ := hq
    have dc : x.dgc i = x.cmcap (x.jF i) := if_pos hk
    refine gF (v := .ref (ad 0)) hx hb hown hE hK hP 0 rfl rfl layV 8 (by decide) w312 rfl d_V_doAgain_1 ?_
    refine gFN (v := .ref (x.jA 1)) hx hb hown hE hK hP 2 rfl rfl layJ 1 (by decide) w1363 rfl d_V_doAgain_4 ?_
    refine lv_iload_n hx hb d_V_doAgain_7 rfl (lv_at hl 1 rfl) ?_
    refine nild (f := (fun z9 => nI (x.jO z9))) (n := x.jN) hx hb hK hP (4) 1 rfl rfl (i) (by omega) (by omega) d_V_doAgain_8 ?_
    refine lv_istore_n hx hb d_V_doAgain_9 rfl hl (by decide) rfl (fun ls hl => ?_)
    have hl : lv_has ls 3 [(2, .int (nI (x.jO i))), (0, .ref h), (1, .int (nI i))] := hl
    refine lv_aload_n hx hb d_V_doAgain_10 rfl (lv_at hl 1 rfl) ?_
    refine gF (v := .ref (ad 0)) hx hb hown hE hK hP 0 rfl rfl layV 8 (by decide) w312 rfl d_V_doAgain_11 ?_
    refine gFN (v := .ref (x.jA 0)) hx hb hown hE hK hP 2 rfl rfl layJ 0 (by decide) w1364 rfl d_V_doAgain_14 ?_
    refine lv_iload_n hx hb d_V_doAgain_17 rfl (lv_at hl 2 rfl) ?_
    refine nild (f := (fun z9 => nI (x.jK z9))) (n := x.jN) hx hb hK hP (3) 1 rfl rfl (i) (by omega) (by omega) d_V_doAgain_18 ?_
    refine tpi (y := 1) (by rw [hk]; rfl) ?_
    refine lv_lookup (x := 1) (off := 35) (tgt := 54) hx hb d_V_doAgain_19 (by decide) (by decide) rfl ?_
    refine lv_aload_n hx hb d_V_doAgain_54 rfl (lv_at hl 1 rfl) ?_
    refine lv_iload_n hx hb d_V_doAgain_55 rfl (lv_at hl 0 rfl) ?_
    refine lv_aload_n hx hb d_V_doAgain_56 rfl (lv_at hl 1 rfl) ?_
    refine gF (v := .ref (ad 0)) hx hb hown hE hK hP 0 rfl rfl layV 8 (by decide) w312 rfl d_V_doAgain_57 ?_
    refine gFN (v := .ref (x.jA 4)) hx hb hown hE hK hP 2 rfl rfl layJ 4 (by decide) w1365 rfl d_V_doAgain_60 ?_
    refine lv_iload_n hx hb d_V_doAgain_63 rfl (lv_at hl 2 rfl) ?_
    refine nlld (f := x.jF) (n := x.jN) hx hb hK hP (7) 2 rfl rfl (i) (by omega) (by omega) d_V_doAgain_64 ?_
    refine lv_aload_n hx hb d_V_doAgain_65 rfl (lv_at hl 1 rfl) ?_
    refine gF (v := .ref (ad 0)) hx hb hown hE hK hP 0 rfl rfl layV 8 (by decide) w312 rfl d_V_doAgain_66 ?_
    refine gFN (v := .ref (x.jA 5)) hx hb hown hE hK hP 2 rfl rfl layJ 5 (by decide) w1366 rfl d_V_doAgain_69 ?_
    refine lv_iload_n hx hb d_V_doAgain_72 rfl (lv_at hl 2 rfl) ?_
    refine nlld (f := x.jS) (n := x.jN) hx hb hK hP (8) 2 rfl rfl (i) (by omega) (by omega) d_V_doAgain_73 ?_
    refine jkV (wr := []) (rnV (As := [.int (nI (x.jO i)), .long (x.jF i), .long (x.jS i)]) (rest := []) hx hb hml hown hE hK (hN _ _ hS) hP hD (v_comePoint l D dA H.size h ad x (x.jO i) (x.jF i) (x.jS i) hw hs1 hs2 hs3) (q0 := 0) rfl rfl w1137 w1136 w1138 w1139 w277 rfl rfl ⟨⟨by decide, by decide⟩, rfl⟩ ⟨(Nat.le_of_ble_eq_true rfl), (Nat.le_of_ble_eq_true rfl)⟩ rfl hl.1 rfl (Nat.le_of_ble_eq_true rfl) d_V_doAgain_74 ⟨(show 0 + (3 * (x.cmcap (x.jF i) - x.hN)) ≤ 3 * (x.dgc i - x.hN) by omega), (show 0 + (6 * (x.cmcap (x.jF i) - x.hN)) ≤ 6 * (x.dgc i - x.hN) by omega)⟩) hP hD hS hA (fun u4 H locs hp9 hP hD hS => ?_)
    obtain ⟨y5, h9u⟩ : ∃ z9, z9 = u4 := ⟨_, rfl⟩
    subst h9u
    have hP : va_P D vwCl (VW dA h ad y5) H := hP
    have hD : va_D A (VW dA h ad y5) := hD
    have f_e_6 := hp9
    refine lv_goto hx hb d_V_doAgain_77 (tgt := 103) rfl ?_
    exact rfV hx hb hr hlk hS y5 (Or.inr (Or.inl ⟨hk, f_e_6⟩)) hP hD (show 0 + (3 * (x.cmcap (x.jF i) - x.hN)) ≤ 3 * (x.dgc i - x.hN) by omega) (show 0 + (6 * (x.cmcap (x.jF i) - x.hN)) ≤ 6 * (x.dgc i - x.hN) by omega) d_V_doAgain_103
  · refine lv_aload_n hx hb d_V_doAgain_0 rfl (lv_at hl 0 rfl) ?_
    obtain ⟨hk, hbb, hz⟩ := hq
    obtain ⟨hps, hpn, h1, h7, h0, h9, hw, hh7⟩ := hbb
    refine gF (v := .ref (ad 0)) hx hb hown hE hK hP 0 rfl rfl layV 8 (by decide) w312 rfl d_V_doAgain_1 ?_
    refine gFN (v := .ref (x.jA 1)) hx hb hown hE hK hP 2 rfl rfl layJ 1 (by decide) w1363 rfl d_V_doAgain_4 ?_
    refine lv_iload_n hx hb d_V_doAgain_7 rfl (lv_at hl 1 rfl) ?_
    refine nild (f := (fun z9 => nI (x.jO z9))) (n := x.jN) hx hb hK hP (4) 1 rfl rfl (i) (by omega) (by omega) d_V_doAgain_8 ?_
    refine lv_istore_n hx hb d_V_doAgain_9 rfl hl (by decide) rfl (fun ls hl => ?_)
    have hl : lv_has ls 3 [(2, .int (nI (x.jO i))), (0, .ref h), (1, .int (nI i))] := hl
    refine lv_aload_n hx hb d_V_doAgain_10 rfl (lv_at hl 1 rfl) ?_
    refine gF (v := .ref (ad 0)) hx hb hown hE hK hP 0 rfl rfl layV 8 (by decide) w312 rfl d_V_doAgain_11 ?_
    refine gFN (v := .ref (x.jA 0)) hx hb hown hE hK hP 2 rfl rfl layJ 0 (by decide) w1364 rfl d_V_doAgain_14 ?_
    refine lv_iload_n hx hb d_V_doAgain_17 rfl (lv_at hl 2 rfl) ?_
    refine nild (f := (fun z9 => nI (x.jK z9))) (n := x.jN) hx hb hK hP (3) 1 rfl rfl (i) (by omega) (by omega) d_V_doAgain_18 ?_
    refine tpi (y := 2) (by rw [hk]; rfl) ?_
    refine lv_lookup (x := 2) (off := 61) (tgt := 80) hx hb d_V_doAgain_19 (by decide) (by decide) rfl ?_
    refine lv_aload_n hx hb d_V_doAgain_80 rfl (lv_at hl 1 rfl) ?_
    refine lv_iload_n hx hb d_V_doAgain_81 rfl (lv_at hl 0 rfl) ?_
    refine lv_aload_n hx hb d_V_doAgain_82 rfl (lv_at hl 1 rfl) ?_
    refine gF (v := .ref (ad 0)) hx hb hown hE hK hP 0 rfl rfl layV 8 (by decide) w312 rfl d_V_doAgain_83 ?_
    refine gFN (v := .ref (x.jA 4)) hx hb hown hE hK hP 2 rfl rfl layJ 4 (by decide) w1365 rfl d_V_doAgain_86 ?_
    refine lv_iload_n hx hb d_V_doAgain_89 rfl (lv_at hl 2 rfl) ?_
    refine nlld (f := x.jF) (n := x.jN) hx hb hK hP (7) 2 rfl rfl (i) (by omega) (by omega) d_V_doAgain_90 ?_
    refine lv_aload_n hx hb d_V_doAgain_91 rfl (lv_at hl 1 rfl) ?_
    refine gF (v := .ref (ad 0)) hx hb hown hE hK hP 0 rfl rfl layV 8 (by decide) w312 rfl d_V_doAgain_92 ?_
    refine gFN (v := .ref (x.jA 5)) hx hb hown hE hK hP 2 rfl rfl layJ 5 (by decide) w1366 rfl d_V_doAgain_95 ?_
    refine lv_iload_n hx hb d_V_doAgain_98 rfl (lv_at hl 2 rfl) ?_
    refine nlld (f := x.jS) (n := x.jN) hx hb hK hP (8) 2 rfl rfl (i) (by omega) (by omega) d_V_doAgain_99 ?_
    refine jkV (wr := []) (rnV (As := [.int (nI (x.jO i)), .long (x.jF i), .long (x.jS i)]) (rest := []) hx hb hml hown hE hK (hN _ _ hS) hP hD (v_letGo_0 l D dA H.size h ad x PS (x.jO i) (x.jF i) (x.jS i) hps hpn h1 h7 h0 h9 hw hh7 hz) (q0 := 0) rfl rfl w1360 w1359 w1361 w1362 w277 rfl rfl ⟨⟨by decide, by decide⟩, rfl⟩ ⟨(Nat.le_of_ble_eq_true rfl), (Nat.le_of_ble_eq_true rfl)⟩ rfl hl.1 rfl (Nat.le_of_ble_eq_true rfl) d_V_doAgain_100 ⟨(show 0 + 0 ≤ 3 * (x.dgc i - x.hN) by omega), (show 0 + 0 ≤ 6 * (x.dgc i - x.hN) by omega)⟩) hP hD hS hA (fun u8 H locs hp9 hP hD hS => ?_)
    have hP : va_P D vwCl (VW dA h ad (VS.s_hsize (VS.s_hV (VS.s_hT (VS.s_hO x (tdT (x.hWn (x.jO i) (x.jF i) (x.jS i)) x.hO x.hsize)) (tdT (x.hWn (x.jO i) (x.jF i) (x.jS i)) x.hT x.hsize)) (tdT (x.hWn (x.jO i) (x.jF i) (x.jS i)) x.hV x.hsize)) (cnt x.hsize (x.hWn (x.jO i) (x.jF i) (x.jS i))))) H := hP
    have hD : va_D A (VW dA h ad (VS.s_hsize (VS.s_hV (VS.s_hT (VS.s_hO x (tdT (x.hWn (x.jO i) (x.jF i) (x.jS i)) x.hO x.hsize)) (tdT (x.hWn (x.jO i) (x.jF i) (x.jS i)) x.hT x.hsize)) (tdT (x.hWn (x.jO i) (x.jF i) (x.jS i)) x.hV x.hsize)) (cnt x.hsize (x.hWn (x.jO i) (x.jF i) (x.jS i))))) := hD
    exact rfV hx hb hr hlk hS (VS.s_hsize (VS.s_hV (VS.s_hT (VS.s_hO x (tdT (x.hWn (x.jO i) (x.jF i) (x.jS i)) x.hO x.hsize)) (tdT (x.hWn (x.jO i) (x.jF i) (x.jS i)) x.hT x.hsize)) (tdT (x.hWn (x.jO i) (x.jF i) (x.jS i)) x.hV x.hsize)) (cnt x.hsize (x.hWn (x.jO i) (x.jF i) (x.jS i)))) (Or.inr (Or.inr (Or.inl ⟨hk, hz, rfl⟩))) hP hD (show 0 + 0 ≤ 3 * (x.dgc i - x.hN) by omega) (show 0 + 0 ≤ 6 * (x.dgc i - x.hN) by omega) d_V_doAgain_103
  · refine lv_aload_n hx hb d_V_doAgain_0 rfl (lv_at hl 0 rfl) ?_
    obtain ⟨hk, hbb, hz, hsc⟩ := hq
    obtain ⟨hps, hpn, h1, h7, h0, h9, hw, hh7⟩ := hbb
    refine gF (v := .ref (ad 0)) hx hb hown hE hK hP 0 rfl rfl layV 8 (by decide) w312 rfl d_V_doAgain_1 ?_
    refine gFN (v := .ref (x.jA 1)) hx hb hown hE hK hP 2 rfl rfl layJ 1 (by decide) w1363 rfl d_V_doAgain_4 ?_
    refine lv_iload_n hx hb d_V_doAgain_7 rfl (lv_at hl 1 rfl) ?_
    refine nild (f := (fun z9 => nI (x.jO z9))) (n := x.jN) hx hb hK hP (4) 1 rfl rfl (i) (by omega) (by omega) d_V_doAgain_8 ?_
    refine lv_istore_n hx hb d_V_doAgain_9 rfl hl (by decide) rfl (fun ls hl => ?_)
    have hl : lv_has ls 3 [(2, .int (nI (x.jO i))), (0, .ref h), (1, .int (nI i))] := hl
    refine lv_aload_n hx hb d_V_doAgain_10 rfl (lv_at hl 1 rfl) ?_
    refine gF (v := .ref (ad 0)) hx hb hown hE hK hP 0 rfl rfl layV 8 (by decide) w312 rfl d_V_doAgain_11 ?_
    refine gFN (v := .ref (x.jA 0)) hx hb hown hE hK hP 2 rfl rfl layJ 0 (by decide) w1364 rfl d_V_doAgain_14 ?_
    refine lv_iload_n hx hb d_V_doAgain_17 rfl (lv_at hl 2 rfl) ?_
    refine nild (f := (fun z9 => nI (x.jK z9))) (n := x.jN) hx hb hK hP (3) 1 rfl rfl (i) (by omega) (by omega) d_V_doAgain_18 ?_
    refine tpi (y := 2) (by rw [hk]; rfl) ?_
    refine lv_lookup (x := 2) (off := 61) (tgt := 80) hx hb d_V_doAgain_19 (by decide) (by decide) rfl ?_
    refine lv_aload_n hx hb d_V_doAgain_80 rfl (lv_at hl 1 rfl) ?_
    refine lv_iload_n hx hb d_V_doAgain_81 rfl (lv_at hl 0 rfl) ?_
    refine lv_aload_n hx hb d_V_doAgain_82 rfl (lv_at hl 1 rfl) ?_
    refine gF (v := .ref (ad 0)) hx hb hown hE hK hP 0 rfl rfl layV 8 (by decide) w312 rfl d_V_doAgain_83 ?_
    refine gFN (v := .ref (x.jA 4)) hx hb hown hE hK hP 2 rfl rfl layJ 4 (by decide) w1365 rfl d_V_doAgain_86 ?_
    refine lv_iload_n hx hb d_V_doAgain_89 rfl (lv_at hl 2 rfl) ?_
    refine nlld (f := x.jF) (n := x.jN) hx hb hK hP (7) 2 rfl rfl (i) (by omega) (by omega) d_V_doAgain_90 ?_
    refine lv_aload_n hx hb d_V_doAgain_91 rfl (lv_at hl 1 rfl) ?_
    refine gF (v := .ref (ad 0)) hx hb hown hE hK hP 0 rfl rfl layV 8 (by decide) w312 rfl d_V_doAgain_92 ?_
    refine gFN (v := .ref (x.jA 5)) hx hb hown hE hK hP 2 rfl rfl layJ 5 (by decide) w1366 rfl d_V_doAgain_95 ?_
    refine lv_iload_n hx hb d_V_doAgain_98 rfl (lv_at hl 2 rfl) ?_
    refine nlld (f := x.jS) (n := x.jN) hx hb hK hP (8) 2 rfl rfl (i) (by omega) (by omega) d_V_doAgain_99 ?_
    refine jkV (wr := []) (rnV (As := [.int (nI (x.jO i)), .long (x.jF i), .long (x.jS i)]) (rest := []) hx hb hml hown hE hK (hN _ _ hS) hP hD (v_letGo_1 l D dA H.size h ad x PS (x.jO i) (x.jF i) (x.jS i) hps hpn h1 h7 h0 h9 hw hh7 hz hsc) (q0 := 0) rfl rfl w1360 w1359 w1361 w1362 w277 rfl rfl ⟨⟨by decide, by decide⟩, rfl⟩ ⟨(Nat.le_of_ble_eq_true rfl), (Nat.le_of_ble_eq_true rfl)⟩ rfl hl.1 rfl (Nat.le_of_ble_eq_true rfl) d_V_doAgain_100 ⟨(show 0 + 0 ≤ 3 * (x.dgc i - x.hN) by omega), (show 0 + 0 ≤ 6 * (x.dgc i - x.hN) by omega)⟩) hP hD hS hA (fun u10 H locs hp9 hP hD hS => ?_)
    have hP : va_P D vwCl (VW dA h ad (VS.s_nsc (VS.s_nsT (VS.s_nsF (VS.s_nsO (VS.s_hsize (VS.s_hV (VS.s_hT (VS.s_hO x (tdT (x.hWn (x.jO i) (x.jF i) (x.jS i)) x.hO x.hsize)) (tdT (x.hWn (x.jO i) (x.jF i) (x.jS i)) x.hT x.hsize)) (tdT (x.hWn (x.jO i) (x.jF i) (x.jS i)) x.hV x.hsize)) (cnt x.hsize (x.hWn (x.jO i) (x.jF i) (x.jS i)))) (va_up x.nsO x.nsc (x.jO i))) (va_up x.nsF x.nsc (maxL (x.jF i) x.nhor))) (va_up x.nsT x.nsc (minL (x.jS i) (x.nlast (x.jO i))))) (x.nsc + 1))) H := hP
    have hD : va_D A (VW dA h ad (VS.s_nsc (VS.s_nsT (VS.s_nsF (VS.s_nsO (VS.s_hsize (VS.s_hV (VS.s_hT (VS.s_hO x (tdT (x.hWn (x.jO i) (x.jF i) (x.jS i)) x.hO x.hsize)) (tdT (x.hWn (x.jO i) (x.jF i) (x.jS i)) x.hT x.hsize)) (tdT (x.hWn (x.jO i) (x.jF i) (x.jS i)) x.hV x.hsize)) (cnt x.hsize (x.hWn (x.jO i) (x.jF i) (x.jS i)))) (va_up x.nsO x.nsc (x.jO i))) (va_up x.nsF x.nsc (maxL (x.jF i) x.nhor))) (va_up x.nsT x.nsc (minL (x.jS i) (x.nlast (x.jO i))))) (x.nsc + 1))) := hD
    exact rfV hx hb hr hlk hS (VS.s_nsc (VS.s_nsT (VS.s_nsF (VS.s_nsO (VS.s_hsize (VS.s_hV (VS.s_hT (VS.s_hO x (tdT (x.hWn (x.jO i) (x.jF i) (x.jS i)) x.hO x.hsize)) (tdT (x.hWn (x.jO i) (x.jF i) (x.jS i)) x.hT x.hsize)) (tdT (x.hWn (x.jO i) (x.jF i) (x.jS i)) x.hV x.hsize)) (cnt x.hsize (x.hWn (x.jO i) (x.jF i) (x.jS i)))) (va_up x.nsO x.nsc (x.jO i))) (va_up x.nsF x.nsc (maxL (x.jF i) x.nhor))) (va_up x.nsT x.nsc (minL (x.jS i) (x.nlast (x.jO i))))) (x.nsc + 1)) (Or.inr (Or.inr (Or.inr ⟨hk, hz, rfl⟩))) hP hD (show 0 + 0 ≤ 3 * (x.dgc i - x.hN) by omega) (show 0 + 0 ≤ 6 * (x.dgc i - x.hN) by omega) d_V_doAgain_103
def VS.stS (x : VS) (a9 b9 u9n : Nat) : VS := VS.s_ncat (VS.s_nlast (VS.s_nser (VS.s_nhor (VS.s_nsc (VS.s_nsT (VS.s_nsF (VS.s_nsO (VS.s_npc (VS.s_nP (VS.s_hsize (VS.s_jch (VS.s_jfill (VS.s_jblock (VS.s_junits (VS.s_jkept (VS.s_jsize (VS.s_powered x true) (min x.jsize x.jkept)) (min x.jsize x.jkept)) u9n) a9) b9) false) 0) (va_cpy x.sP x.nP 0 0 x.spc)) x.spc) (va_cpy x.ssO x.nsO 0 0 x.ssc)) (va_cpy x.ssF x.nsF 0 0 x.ssc)) (va_cpy x.ssT x.nsT 0 0 x.ssc)) x.ssc) x.shor) x.sser) (va_cpy x.slast x.nlast 0 0 x.sser)) x.scat
set_option maxHeartbeats 4000000 in
set_option maxRecDepth 100000 in
theorem v_start_x (l : Launch) (htr : l.stackTraces = false) (D : va_G) (dA : Nat → ClassId) (sz : Nat) (h : Nat) (ad : Nat → Nat) (x : VS) (ho : x.powered = true) : mX l ⟨"SeriesVault", "start", "()I"⟩ [Cond.code ⟨"SeriesVault", "start", "()I"⟩ prog_1_method_18_code 2 (some FieldType.int)] { frames := 6, cells := 1, slots := 6, locals := 81 } (pC D dA [.ref h] (VW dA h ad x) sz) "java/lang/IllegalStateException" (fun st9 t9 => va_F (va_A (VW dA h ad x) sz) st9 t9 ∧ bW D (va_A (VW dA h ad x) sz) (VW dA h ad x) t9) 1 6 (va_A (VW dA h ad x) sz) := by
  refine mkX (y := ⟨"SeriesVault", "start", "()I"⟩) (cc := prog_1_method_18_code) (maxL := 2) (av := [.ref h]) (ws := VW dA h ad x) (sz := sz) (B := fun A => (fun st9 t9 => va_F A st9 t9 ∧ bW D A (VW dA h ad x) t9)) (by decide) (Nat.le_of_ble_eq_true rfl) ?_
  intro A p e s m below meth c ls hsz hno hB
  obtain ⟨hx, hb, hr, hml, hown, hin, hlk, hE, hK, hP, hD, hS, hA, hN, hl⟩ := hB
  have hown : s.vm.findClass "SeriesVault" = some m.cls := hown
  have hl : lv_has ls 2 [(0, .ref h)] := hl
  obtain ⟨H, hH⟩ : ∃ z, z = s.heap := ⟨_, rfl⟩
  have hP : va_P D vwCl (VW dA h ad x) H := by rw [hH]; exact hP
  have hS : va_S A s.heap H [] := by rw [hH]; exact hS
  rw [← hH]
  refine lv_aload_n hx hb d_V_start_0 rfl (lv_at hl 0 rfl) ?_
  refine gF (v := .int (bI x.powered)) hx hb hown hE hK hP 0 rfl rfl layV 5 (by decide) w275 rfl d_V_start_1 ?_
  refine lv_if_eq hx hb d_V_start_4 (tgt := 15) rfl (fun h9 => absurd h9 (by rw [ho]; decide)) (fun _ => ?_)
  exact xNew (E := "java/lang/IllegalStateException") (names := ["java/lang/RuntimeException", "java/lang/Exception"]) hx hb htr hown (by decide) (by decide) hE w295 w296 (fun U hU => at_V_ISE hU) (hN _ _ hS) (hl.1.trans hml.symm) d_V_start_7 d_V_start_10 d_V_start_11 d_V_start_14 hno (by decide) (Nat.le_of_ble_eq_true rfl) (Nat.le_of_ble_eq_true rfl) (Nat.le_of_ble_eq_true rfl) hlk (fun t h1 h2 => xEndV hP hD hS t h1 h2) hS.2.2 (Nat.le_of_ble_eq_true rfl) (Nat.le_of_ble_eq_true rfl)
theorem d_V_start_15 : decode prog_1_method_18_code 15 = .ok (.aload_n 0, 1) := by decide +kernel
theorem d_V_start_16 : decode prog_1_method_18_code 16 = .ok (.iconst 1, 1) := by decide +kernel
theorem d_V_start_17 : decode prog_1_method_18_code 17 = .ok (.putfield 104, 3) := by decide +kernel
theorem d_V_start_20 : decode prog_1_method_18_code 20 = .ok (.aload_n 0, 1) := by decide +kernel
theorem d_V_start_21 : decode prog_1_method_18_code 21 = .ok (.getfield 33, 3) := by decide +kernel
theorem d_V_start_24 : decode prog_1_method_18_code 24 = .ok (.aload_n 0, 1) := by decide +kernel
theorem d_V_start_25 : decode prog_1_method_18_code 25 = .ok (.getfield 37, 3) := by decide +kernel
theorem d_V_start_28 : decode prog_1_method_18_code 28 = .ok (.invokevirtual 143, 3) := by decide +kernel
theorem d_V_start_31 : decode prog_1_method_18_code 31 = .ok (.aload_n 0, 1) := by decide +kernel
theorem d_V_start_32 : decode prog_1_method_18_code 32 = .ok (.getfield 33, 3) := by decide +kernel
theorem d_V_start_35 : decode prog_1_method_18_code 35 = .ok (.aload_n 0, 1) := by decide +kernel
theorem d_V_start_36 : decode prog_1_method_18_code 36 = .ok (.getfield 37, 3) := by decide +kernel
theorem d_V_start_39 : decode prog_1_method_18_code 39 = .ok (.invokevirtual 147, 3) := by decide +kernel
theorem d_V_start_42 : decode prog_1_method_18_code 42 = .ok (.aload_n 0, 1) := by decide +kernel
theorem d_V_start_43 : decode prog_1_method_18_code 43 = .ok (.getfield 23, 3) := by decide +kernel
theorem d_V_start_46 : decode prog_1_method_18_code 46 = .ok (.invokevirtual 120, 3) := by decide +kernel
theorem d_V_start_49 : decode prog_1_method_18_code 49 = .ok (.aload_n 0, 1) := by decide +kernel
theorem d_V_start_50 : decode prog_1_method_18_code 50 = .ok (.getfield 16, 3) := by decide +kernel
theorem d_V_start_53 : decode prog_1_method_18_code 53 = .ok (.invokevirtual 150, 3) := by decide +kernel
theorem d_V_start_56 : decode prog_1_method_18_code 56 = .ok (.iconst 0, 1) := by decide +kernel
theorem d_V_start_57 : decode prog_1_method_18_code 57 = .ok (.istore_n 1, 1) := by decide +kernel
theorem d_V_start_58 : decode prog_1_method_18_code 58 = .ok (.iload_n 1, 1) := by decide +kernel
theorem d_V_start_59 : decode prog_1_method_18_code 59 = .ok (.aload_n 0, 1) := by decide +kernel
theorem d_V_start_60 : decode prog_1_method_18_code 60 = .ok (.getfield 16, 3) := by decide +kernel
theorem d_V_start_63 : decode prog_1_method_18_code 63 = .ok (.getfield 153, 3) := by decide +kernel
theorem d_V_start_66 : decode prog_1_method_18_code 66 = .ok (.if_icmp .ge 14, 3) := by decide +kernel
theorem d_V_start_80 : decode prog_1_method_18_code 80 = .ok (.aload_n 0, 1) := by decide +kernel
theorem d_V_start_81 : decode prog_1_method_18_code 81 = .ok (.getfield 16, 3) := by decide +kernel
theorem d_V_start_84 : decode prog_1_method_18_code 84 = .ok (.getfield 153, 3) := by decide +kernel
theorem d_V_start_87 : decode prog_1_method_18_code 87 = .ok (.ireturn, 1) := by decide +kernel
theorem d_V_start_69 : decode prog_1_method_18_code 69 = .ok (.aload_n 0, 1) := by decide +kernel
theorem d_V_start_70 : decode prog_1_method_18_code 70 = .ok (.iload_n 1, 1) := by decide +kernel
theorem d_V_start_71 : decode prog_1_method_18_code 71 = .ok (.invokevirtual 156, 3) := by decide +kernel
theorem d_V_start_74 : decode prog_1_method_18_code 74 = .ok (.iinc 1 1, 3) := by decide +kernel
theorem d_V_start_77 : decode prog_1_method_18_code 77 = .ok (.goto (-19), 3) := by decide +kernel
theorem w1758 : Cond.methodLink "SeriesVault" 150 ⟨"SeriesVault$Journal", "forgetUnkept", "()V"⟩ ∈ aW := aw_of (tb_8 (List.mem_of_getElem? (i := 159) rfl)) rfl
theorem w1759 : Cond.methodLink "SeriesVault" 156 ⟨"SeriesVault", "doAgain", "(I)V"⟩ ∈ aW := aw_of (tb_8 (List.mem_of_getElem? (i := 160) rfl)) rfl
theorem w1760 : Cond.code ⟨"SeriesVault", "doAgain", "(I)V"⟩ prog_1_method_19_code 3 none ∈ aW := aw_of (tb_8 (List.mem_of_getElem? (i := 163) rfl)) rfl
theorem w1761 : Cond.instanceMethod ⟨"SeriesVault", "doAgain", "(I)V"⟩ ∈ aW := aw_of (tb_8 (List.mem_of_getElem? (i := 162) rfl)) rfl
theorem w1762 : Cond.selects "SeriesVault" ⟨"SeriesVault", "doAgain", "(I)V"⟩ ⟨"SeriesVault", "doAgain", "(I)V"⟩ ∈ aW := aw_pr (List.mem_map.mpr ⟨_, pv_5 (List.mem_of_getElem? (i := 2) rfl), rfl⟩) rfl
set_option maxHeartbeats 4000000 in
set_option maxRecDepth 100000 in
theorem v_start (l : Launch) (D : va_G) (dA : Nat → ClassId) (sz : Nat) (h : Nat) (ad : Nat → Nat) (x : VS) (PS : Nat → PT) (a9 : Nat) (b9 : Nat) (u9n : Nat) (HB : Nat) (ho : x.powered = false) (hps : psOk dA x.sP x.spc x.pl PS) (hp1 : x.spc ≤ 32) (hp2 : x.ssc ≤ 64) (hp3 : x.sser ≤ 256) (hj1 : x.jsize ≤ x.jN) (hj9 : x.jN ≤ 65536) (hj8 : x.jkept < 2 ^ 31) (hj7 : ∀ q : Nat, q < x.jsize → x.jU q ≤ 126 ∧ x.jB q < 65536) (hfg : fgG x.jB x.jU (min x.jsize x.jkept) = (a9, b9, u9n)) (hgo : ∀ (i : Nat) (z : VS), i ≤ (min x.jsize x.jkept) → dgR PS (x.stS a9 b9 u9n) i z → z.jsize = (min x.jsize x.jkept) ∧ z.jN = x.jN ∧ x.hN ≤ z.hN ∧ z.hN ≤ HB ∧ (i < (min x.jsize x.jkept) → dgO dA PS z i)) : Met l ⟨"SeriesVault", "start", "()I"⟩ [Cond.code ⟨"SeriesVault", "start", "()I"⟩ prog_1_method_18_code 2 (some FieldType.int)] { frames := 7, cells := 3 * (HB - x.hN), slots := 6 * (HB - x.hN), locals := 150 } (pC D dA [.ref h] (VW dA h ad x) sz) (va_Qi (fun (r9 : Int32) (u9 : VS) => r9 = nI (min x.jsize x.jkept) ∧ dgR PS (x.stS a9 b9 u9n) (min x.jsize x.jkept) u9) (fun (u9 : VS) t9 => bW D (va_A (VW dA h ad x) sz) (VW dA h ad u9) t9) (va_A (VW dA h ad x) sz)) (3 * (HB - x.hN)) (6 * (HB - x.hN)) (va_A (VW dA h ad x) sz) := by
  refine mkC (y := ⟨"SeriesVault", "start", "()I"⟩) (cc := prog_1_method_18_code) (maxL := 2) (av := [.ref h]) (ws := VW dA h ad x) (sz := sz) (Qc := fun A => va_Qi (fun (r9 : Int32) (u9 : VS) => r9 = nI (min x.jsize x.jkept) ∧ dgR PS (x.stS a9 b9 u9n) (min x.jsize x.jkept) u9) (fun (u9 : VS) t9 => bW D A (VW dA h ad u9) t9) A) (by decide) (Nat.le_of_ble_eq_true rfl) ?_
  intro A p e s m below meth c ls hsz hB
  obtain ⟨hx, hb, hr, hml, hown, hin, hlk, hE, hK, hP, hD, hS, hA, hN, hl⟩ := hB
  have hown : s.vm.findClass "SeriesVault" = some m.cls := hown
  have hl : lv_has ls 2 [(0, .ref h)] := hl
  obtain ⟨H, hH⟩ : ∃ z, z = s.heap := ⟨_, rfl⟩
  have hP : va_P D vwCl (VW dA h ad x) H := by rw [hH]; exact hP
  have hS : va_S A s.heap H [] := by rw [hH]; exact hS
  rw [← hH]
  refine lv_aload_n hx hb d_V_start_0 rfl (lv_at hl 0 rfl) ?_
  refine gF (v := .int (bI x.powered)) hx hb hown hE hK hP 0 rfl rfl layV 5 (by decide) w275 rfl d_V_start_1 ?_
  refine lv_if_eq hx hb d_V_start_4 (tgt := 15) rfl (fun _ => ?_) (fun h9 => absurd (by rw [ho]; rfl) h9)
  refine lv_aload_n hx hb d_V_start_15 rfl (lv_at hl 0 rfl) ?_
  refine lv_iconst (v := 1) hx hb d_V_start_16 (by decide) ?_
  refine pF (v := .int (bI true)) hx hb hown hE hK hP hD hS 0 rfl rfl layV tyV tokV nmV 5 (by decide) w275 rfl (bI_nar true) (bI_fit true) (Nat.le_of_ble_eq_true rfl) d_V_start_17 (fun H locs hP hD hS => ?_)
  have hP : va_P D vwCl (VW dA h ad (VS.s_powered x true)) H := hP
  have hD : va_D A (VW dA h ad (VS.s_powered x true)) := hD
  refine lv_aload_n hx hb d_V_start_20 rfl (lv_at hl 0 rfl) ?_
  refine gF (v := .ref (ad 3)) hx hb hown hE hK hP 0 rfl rfl layV 11 (by decide) w297 rfl d_V_start_21 ?_
  refine lv_aload_n hx hb d_V_start_24 rfl (lv_at hl 0 rfl) ?_
  refine gF (v := .ref (ad 10)) hx hb hown hE hK hP 0 rfl rfl layV 12 (by decide) w587 rfl d_V_start_25 ?_
  refine jkV (wr := []) (rnV (As := [.ref (ad 10)]) (rest := []) hx hb hml hown hE hK (hN _ _ hS) hP hD (v_takeParcels_n l D dA H.size h ad (VS.s_powered x true) PS hps (show x.spc ≤ 32 from by omega) (show x.ssc ≤ 64 from by omega)) (q0 := 17) rfl rfl w728 w727 w729 w730 w583 rfl rfl ⟨⟨by decide, by decide⟩, rfl⟩ ⟨(Nat.le_of_ble_eq_true rfl), (Nat.le_of_ble_eq_true rfl)⟩ rfl hl.1 rfl (Nat.le_of_ble_eq_true rfl) d_V_start_28 ⟨(show 0 + 0 ≤ 3 * (HB - x.hN) by omega), (show 0 + 0 ≤ 6 * (HB - x.hN) by omega)⟩) hP hD hS hA (fun u2 H locs hp9 hP hD hS => ?_)
  have hP : va_P D vwCl (VW dA h ad (VS.s_nhor (VS.s_nsc (VS.s_nsT (VS.s_nsF (VS.s_nsO (VS.s_npc (VS.s_nP (VS.s_powered x true) (va_cpy x.sP x.nP 0 0 x.spc)) x.spc) (va_cpy x.ssO x.nsO 0 0 x.ssc)) (va_cpy x.ssF x.nsF 0 0 x.ssc)) (va_cpy x.ssT x.nsT 0 0 x.ssc)) x.ssc) x.shor)) H := hP
  have hD : va_D A (VW dA h ad (VS.s_nhor (VS.s_nsc (VS.s_nsT (VS.s_nsF (VS.s_nsO (VS.s_npc (VS.s_nP (VS.s_powered x true) (va_cpy x.sP x.nP 0 0 x.spc)) x.spc) (va_cpy x.ssO x.nsO 0 0 x.ssc)) (va_cpy x.ssF x.nsF 0 0 x.ssc)) (va_cpy x.ssT x.nsT 0 0 x.ssc)) x.ssc) x.shor)) := hD
  refine lv_aload_n hx hb d_V_start_31 rfl (lv_at hl 0 rfl) ?_
  refine gF (v := .ref (ad 3)) hx hb hown hE hK hP 0 rfl rfl layV 11 (by decide) w297 rfl d_V_start_32 ?_
  refine lv_aload_n hx hb d_V_start_35 rfl (lv_at hl 0 rfl) ?_
  refine gF (v := .ref (ad 10)) hx hb hown hE hK hP 0 rfl rfl layV 12 (by decide) w587 rfl d_V_start_36 ?_
  refine jkV (wr := []) (rnV (As := [.ref (ad 10)]) (rest := []) hx hb hml hown hE hK (hN _ _ hS) hP hD (v_takeCatalog_n l D dA H.size h ad (VS.s_nhor (VS.s_nsc (VS.s_nsT (VS.s_nsF (VS.s_nsO (VS.s_npc (VS.s_nP (VS.s_powered x true) (va_cpy x.sP x.nP 0 0 x.spc)) x.spc) (va_cpy x.ssO x.nsO 0 0 x.ssc)) (va_cpy x.ssF x.nsF 0 0 x.ssc)) (va_cpy x.ssT x.nsT 0 0 x.ssc)) x.ssc) x.shor) (show x.sser ≤ 256 from by omega)) (q0 := 17) rfl rfl w1403 w1402 w1404 w1405 w583 rfl rfl ⟨⟨by decide, by decide⟩, rfl⟩ ⟨(Nat.le_of_ble_eq_true rfl), (Nat.le_of_ble_eq_true rfl)⟩ rfl hl.1 rfl (Nat.le_of_ble_eq_true rfl) d_V_start_39 ⟨(show 0 + 0 + 0 ≤ 3 * (HB - x.hN) by omega), (show 0 + 0 + 0 ≤ 6 * (HB - x.hN) by omega)⟩) hP hD hS hA (fun u4 H locs hp9 hP hD hS => ?_)
  have hP : va_P D vwCl (VW dA h ad (VS.s_ncat (VS.s_nlast (VS.s_nser (VS.s_nhor (VS.s_nsc (VS.s_nsT (VS.s_nsF (VS.s_nsO (VS.s_npc (VS.s_nP (VS.s_powered x true) (va_cpy x.sP x.nP 0 0 x.spc)) x.spc) (va_cpy x.ssO x.nsO 0 0 x.ssc)) (va_cpy x.ssF x.nsF 0 0 x.ssc)) (va_cpy x.ssT x.nsT 0 0 x.ssc)) x.ssc) x.shor) x.sser) (va_cpy x.slast x.nlast 0 0 x.sser)) x.scat)) H := hP
  have hD : va_D A (VW dA h ad (VS.s_ncat (VS.s_nlast (VS.s_nser (VS.s_nhor (VS.s_nsc (VS.s_nsT (VS.s_nsF (VS.s_nsO (VS.s_npc (VS.s_nP (VS.s_powered x true) (va_cpy x.sP x.nP 0 0 x.spc)) x.spc) (va_cpy x.ssO x.nsO 0 0 x.ssc)) (va_cpy x.ssF x.nsF 0 0 x.ssc)) (va_cpy x.ssT x.nsT 0 0 x.ssc)) x.ssc) x.shor) x.sser) (va_cpy x.slast x.nlast 0 0 x.sser)) x.scat)) := hD
  refine lv_aload_n hx hb d_V_start_42 rfl (lv_at hl 0 rfl) ?_
  refine gF (v := .ref (ad 1)) hx hb hown hE hK hP 0 rfl rfl layV 9 (by decide) w576 rfl d_V_start_43 ?_
  refine jkV (wr := []) (rnV (As := []) (rest := []) hx hb hml hown hE hK (hN _ _ hS) hP hD (v_pclear_h l D dA H.size h ad (VS.s_ncat (VS.s_nlast (VS.s_nser (VS.s_nhor (VS.s_nsc (VS.s_nsT (VS.s_nsF (VS.s_nsO (VS.s_npc (VS.s_nP (VS.s_powered x true) (va_cpy x.sP x.nP 0 0 x.spc)) x.spc) (va_cpy x.ssO x.nsO 0 0 x.ssc)) (va_cpy x.ssF x.nsF 0 0 x.ssc)) (va_cpy x.ssT x.nsT 0 0 x.ssc)) x.ssc) x.shor) x.sser) (va_cpy x.slast x.nlast 0 0 x.sser)) x.scat)) (q0 := 9) rfl rfl w579 w577 w580 w581 w578 rfl rfl ⟨⟨by decide, by decide⟩, rfl⟩ ⟨(Nat.le_of_ble_eq_true rfl), (Nat.le_of_ble_eq_true rfl)⟩ rfl hl.1 rfl (Nat.le_of_ble_eq_true rfl) d_V_start_46 ⟨(show 0 + 0 + 0 + 0 ≤ 3 * (HB - x.hN) by omega), (show 0 + 0 + 0 + 0 ≤ 6 * (HB - x.hN) by omega)⟩) hP hD hS hA (fun u6 H locs hp9 hP hD hS => ?_)
  have hP : va_P D vwCl (VW dA h ad (VS.s_ncat (VS.s_nlast (VS.s_nser (VS.s_nhor (VS.s_nsc (VS.s_nsT (VS.s_nsF (VS.s_nsO (VS.s_npc (VS.s_nP (VS.s_hsize (VS.s_powered x true) 0) (va_cpy x.sP x.nP 0 0 x.spc)) x.spc) (va_cpy x.ssO x.nsO 0 0 x.ssc)) (va_cpy x.ssF x.nsF 0 0 x.ssc)) (va_cpy x.ssT x.nsT 0 0 x.ssc)) x.ssc) x.shor) x.sser) (va_cpy x.slast x.nlast 0 0 x.sser)) x.scat)) H := hP
  have hD : va_D A (VW dA h ad (VS.s_ncat (VS.s_nlast (VS.s_nser (VS.s_nhor (VS.s_nsc (VS.s_nsT (VS.s_nsF (VS.s_nsO (VS.s_npc (VS.s_nP (VS.s_hsize (VS.s_powered x true) 0) (va_cpy x.sP x.nP 0 0 x.spc)) x.spc) (va_cpy x.ssO x.nsO 0 0 x.ssc)) (va_cpy x.ssF x.nsF 0 0 x.ssc)) (va_cpy x.ssT x.nsT 0 0 x.ssc)) x.ssc) x.shor) x.sser) (va_cpy x.slast x.nlast 0 0 x.sser)) x.scat)) := hD
  refine lv_aload_n hx hb d_V_start_49 rfl (lv_at hl 0 rfl) ?_
  refine gF (v := .ref (ad 0)) hx hb hown hE hK hP 0 rfl rfl layV 8 (by decide) w312 rfl d_V_start_50 ?_
  refine jkV (wr := []) (rnV (As := []) (rest := []) hx hb hml hown hE hK (hN _ _ hS) hP hD (v_forgetUnkept l D dA H.size h ad (VS.s_ncat (VS.s_nlast (VS.s_nser (VS.s_nhor (VS.s_nsc (VS.s_nsT (VS.s_nsF (VS.s_nsO (VS.s_npc (VS.s_nP (VS.s_hsize (VS.s_powered x true) 0) (va_cpy x.sP x.nP 0 0 x.spc)) x.spc) (va_cpy x.ssO x.nsO 0 0 x.ssc)) (va_cpy x.ssF x.nsF 0 0 x.ssc)) (va_cpy x.ssT x.nsT 0 0 x.ssc)) x.ssc) x.shor) x.sser) (va_cpy x.slast x.nlast 0 0 x.sser)) x.scat) a9 b9 u9n (show x.jsize ≤ x.jN from by omega) (show x.jN ≤ 65536 from by omega) (show x.jkept < 2 ^ 31 from by omega) hj7 hfg) (q0 := 2) rfl rfl w557 w1758 w558 w559 w556 rfl rfl ⟨⟨by decide, by decide⟩, rfl⟩ ⟨(Nat.le_of_ble_eq_true rfl), (Nat.le_of_ble_eq_true rfl)⟩ rfl hl.1 rfl (Nat.le_of_ble_eq_true rfl) d_V_start_53 ⟨(show 0 + 0 + 0 + 0 + 0 ≤ 3 * (HB - x.hN) by omega), (show 0 + 0 + 0 + 0 + 0 ≤ 6 * (HB - x.hN) by omega)⟩) hP hD hS hA (fun u8 H locs hp9 hP hD hS => ?_)
  have hP : va_P D vwCl (VW dA h ad (VS.s_ncat (VS.s_nlast (VS.s_nser (VS.s_nhor (VS.s_nsc (VS.s_nsT (VS.s_nsF (VS.s_nsO (VS.s_npc (VS.s_nP (VS.s_hsize (VS.s_jch (VS.s_jfill (VS.s_jblock (VS.s_junits (VS.s_jkept (VS.s_jsize (VS.s_powered x true) (min x.jsize x.jkept)) (min x.jsize x.jkept)) u9n) a9) b9) false) 0) (va_cpy x.sP x.nP 0 0 x.spc)) x.spc) (va_cpy x.ssO x.nsO 0 0 x.ssc)) (va_cpy x.ssF x.nsF 0 0 x.ssc)) (va_cpy x.ssT x.nsT 0 0 x.ssc)) x.ssc) x.shor) x.sser) (va_cpy x.slast x.nlast 0 0 x.sser)) x.scat)) H := hP
  have hD : va_D A (VW dA h ad (VS.s_ncat (VS.s_nlast (VS.s_nser (VS.s_nhor (VS.s_nsc (VS.s_nsT (VS.s_nsF (VS.s_nsO (VS.s_npc (VS.s_nP (VS.s_hsize (VS.s_jch (VS.s_jfill (VS.s_jblock (VS.s_junits (VS.s_jkept (VS.s_jsize (VS.s_powered x true) (min x.jsize x.jkept)) (min x.jsize x.jkept)) u9n) a9) b9) false) 0) (va_cpy x.sP x.nP 0 0 x.spc)) x.spc) (va_cpy x.ssO x.nsO 0 0 x.ssc)) (va_cpy x.ssF x.nsF 0 0 x.ssc)) (va_cpy x.ssT x.nsT 0 0 x.ssc)) x.ssc) x.shor) x.sser) (va_cpy x.slast x.nlast 0 0 x.sser)) x.scat)) := hD
  refine lv_iconst (v := 0) hx hb d_V_start_56 (by decide) ?_
  refine lv_istore_n hx hb d_V_start_57 rfl hl (by decide) rfl (fun ls hl => ?_)
  have hl : lv_has ls 2 [(1, .int 0), (0, .ref h)] := hl
  have L58 : ∀ (k9 : Nat) (i : Nat) (z : VS) (i1 : i ≤ (min x.jsize x.jkept)) (hR0 : dgR PS (x.stS a9 b9 u9n) i z) (hk9 : (min x.jsize x.jkept) - i = k9), ∀ (H : Heap) (locs : List Loc) (ls : Array Slot) (hP : va_P D vwCl (VW dA h ad z) H) (hD : va_D A (VW dA h ad z)) (hS : va_S A s.heap H locs) (hl : lv_has ls 2 [(1, .int (nI i)), (0, .ref h)]), W p l e ({ frames := 7, cells := 3 * (HB - x.hN), slots := 6 * (HB - x.hN), locals := 150 } : Room) s m ([.ref h] : List Value).toArray below meth c H locs (3 * (z.hN - x.hN)) (6 * (z.hN - x.hN)) (MQ below (va_Qi (fun (r9 : Int32) (u9 : VS) => r9 = nI (min x.jsize x.jkept) ∧ dgR PS (x.stS a9 b9 u9n) (min x.jsize x.jkept) u9) (fun (u9 : VS) t9 => bW D A (VW dA h ad u9) t9) A) ([.ref h] : List Value).toArray s (3 * (HB - x.hN)) (6 * (HB - x.hN)) A) (F0 m 58 ls []) := by
    intro k9
    induction k9 using Nat.strongRecOn with
    | ind k9 ih58 =>
      intro i z i1 hR0 hk9 H locs ls hP hD hS hl
      have hg0 := hgo i z i1 hR0
      obtain ⟨q1, q2, q3, q4, q5⟩ := hg0
      have mj : (min x.jsize x.jkept) ≤ x.jsize := Nat.min_le_left _ _
      refine lv_iload_n hx hb d_V_start_58 rfl (lv_at hl 0 rfl) ?_
      refine lv_aload_n hx hb d_V_start_59 rfl (lv_at hl 1 rfl) ?_
      refine gF (v := .ref (ad 0)) hx hb hown hE hK hP 0 rfl rfl layV 8 (by decide) w312 rfl d_V_start_60 ?_
      refine gFN (v := .int (nI z.jsize)) hx hb hown hE hK hP 2 rfl rfl layJ 6 (by decide) w318 rfl d_V_start_63 ?_
      refine lv_icmp_ge hx hb d_V_start_66 (tgt := 80) rfl (fun g9 => ?_) (fun g9 => ?_)
      · have g9 := (nI_leI (a := z.jsize) (b := i) (by omega) (by omega)).mp g9
        refine lv_aload_n hx hb d_V_start_80 rfl (lv_at hl 1 rfl) ?_
        refine gF (v := .ref (ad 0)) hx hb hown hE hK hP 0 rfl rfl layV 8 (by decide) w312 rfl d_V_start_81 ?_
        refine gFN (v := .int (nI z.jsize)) hx hb hown hE hK hP 2 rfl rfl layJ 6 (by decide) w318 rfl d_V_start_84 ?_
        exact rfI hx hb hr hlk hS z (have e9 : i = (min x.jsize x.jkept) := (by omega); ⟨by rw [q1], by rw [← e9]; exact hR0⟩) hP hD (show 3 * (z.hN - x.hN) ≤ 3 * (HB - x.hN) by omega) (show 6 * (z.hN - x.hN) ≤ 6 * (HB - x.hN) by omega) d_V_start_87
      · have g9 := mt (nI_leI (a := z.jsize) (b := i) (by omega) (by omega)).mpr g9
        have hN2 := q5 (by omega)
        obtain ⟨yq, hyq⟩ := dgS_ex hN2
        have hgq := (hgo (i + 1) yq (by omega) ⟨z, hR0, hyq⟩).2.2.2.1
        have hq1 := dgS_N hyq
        have hq2 := dgc_ge z i
        rw [hq1] at hgq
        refine lv_aload_n hx hb d_V_start_69 rfl (lv_at hl 1 rfl) ?_
        refine lv_iload_n hx hb d_V_start_70 rfl (lv_at hl 0 rfl) ?_
        refine jkV (wr := []) (rnV (As := [.int (nI i)]) (rest := []) hx hb hml hown hE hK (hN _ _ hS) hP hD (v_doAgain l D dA H.size h ad z PS i (show i < z.jsize from by omega) (show z.jsize ≤ z.jN from by omega) (show z.jN ≤ 65536 from by omega) hN2) (q0 := 0) rfl rfl w1760 w1759 w1761 w1762 w277 rfl rfl ⟨⟨by decide, by decide⟩, rfl⟩ ⟨(Nat.le_of_ble_eq_true rfl), (Nat.le_of_ble_eq_true rfl)⟩ rfl hl.1 rfl (Nat.le_of_ble_eq_true rfl) d_V_start_71 ⟨(show 3 * (z.hN - x.hN) + (3 * (z.dgc i - z.hN)) ≤ 3 * (HB - x.hN) by omega), (show 6 * (z.hN - x.hN) + (6 * (z.dgc i - z.hN)) ≤ 6 * (HB - x.hN) by omega)⟩) hP hD hS hA (fun u11 H locs hp9 hP hD hS => ?_)
        obtain ⟨y12, h9u⟩ : ∃ z9, z9 = u11 := ⟨_, rfl⟩
        subst h9u
        have hP : va_P D vwCl (VW dA h ad y12) H := hP
        have hD : va_D A (VW dA h ad y12) := hD
        have f_e_13 := hp9
        have hR1 : dgR PS (x.stS a9 b9 u9n) (i + 1) y12 := ⟨z, hR0, f_e_13⟩
        have hN1 := dgS_N f_e_13
        have hg1 := hgo (i + 1) y12 (by omega) hR1
        obtain ⟨u1, u2, u3, u4, u5⟩ := hg1
        refine lv_iinc (k := 0) (v := nI (i + 1)) hx hb d_V_start_74 hl rfl (iincN (i) 1 1 (by decide)) (by decide) rfl (fun ls hl => ?_)
        have hl : lv_has ls 2 [(1, .int (nI (i + 1))), (0, .ref h)] := hl
        refine lv_goto hx hb d_V_start_77 (tgt := 58) rfl ?_
        refine W.widen (k := 3 * (y12.hN - x.hN)) (n := 6 * (y12.hN - x.hN)) (show 3 * (z.hN - x.hN) + (3 * (z.dgc i - z.hN)) ≤ 3 * (y12.hN - x.hN) from by omega) (show 6 * (z.hN - x.hN) + (6 * (z.dgc i - z.hN)) ≤ 6 * (y12.hN - x.hN) from by omega) ?_
        exact ih58 _ (by omega) (i + 1) y12 (by omega) hR1 rfl H _ ls hP hD hS (lv_sub hl [0, 1] rfl)
  refine W.widen (k := 3 * ((VS.s_ncat (VS.s_nlast (VS.s_nser (VS.s_nhor (VS.s_nsc (VS.s_nsT (VS.s_nsF (VS.s_nsO (VS.s_npc (VS.s_nP (VS.s_hsize (VS.s_jch (VS.s_jfill (VS.s_jblock (VS.s_junits (VS.s_jkept (VS.s_jsize (VS.s_powered x true) (min x.jsize x.jkept)) (min x.jsize x.jkept)) u9n) a9) b9) false) 0) (va_cpy x.sP x.nP 0 0 x.spc)) x.spc) (va_cpy x.ssO x.nsO 0 0 x.ssc)) (va_cpy x.ssF x.nsF 0 0 x.ssc)) (va_cpy x.ssT x.nsT 0 0 x.ssc)) x.ssc) x.shor) x.sser) (va_cpy x.slast x.nlast 0 0 x.sser)) x.scat).hN - x.hN)) (n := 6 * ((VS.s_ncat (VS.s_nlast (VS.s_nser (VS.s_nhor (VS.s_nsc (VS.s_nsT (VS.s_nsF (VS.s_nsO (VS.s_npc (VS.s_nP (VS.s_hsize (VS.s_jch (VS.s_jfill (VS.s_jblock (VS.s_junits (VS.s_jkept (VS.s_jsize (VS.s_powered x true) (min x.jsize x.jkept)) (min x.jsize x.jkept)) u9n) a9) b9) false) 0) (va_cpy x.sP x.nP 0 0 x.spc)) x.spc) (va_cpy x.ssO x.nsO 0 0 x.ssc)) (va_cpy x.ssF x.nsF 0 0 x.ssc)) (va_cpy x.ssT x.nsT 0 0 x.ssc)) x.ssc) x.shor) x.sser) (va_cpy x.slast x.nlast 0 0 x.sser)) x.scat).hN - x.hN)) (show 0 + 0 + 0 + 0 + 0 ≤ 3 * ((VS.s_ncat (VS.s_nlast (VS.s_nser (VS.s_nhor (VS.s_nsc (VS.s_nsT (VS.s_nsF (VS.s_nsO (VS.s_npc (VS.s_nP (VS.s_hsize (VS.s_jch (VS.s_jfill (VS.s_jblock (VS.s_junits (VS.s_jkept (VS.s_jsize (VS.s_powered x true) (min x.jsize x.jkept)) (min x.jsize x.jkept)) u9n) a9) b9) false) 0) (va_cpy x.sP x.nP 0 0 x.spc)) x.spc) (va_cpy x.ssO x.nsO 0 0 x.ssc)) (va_cpy x.ssF x.nsF 0 0 x.ssc)) (va_cpy x.ssT x.nsT 0 0 x.ssc)) x.ssc) x.shor) x.sser) (va_cpy x.slast x.nlast 0 0 x.sser)) x.scat).hN - x.hN) from by omega) (show 0 + 0 + 0 + 0 + 0 ≤ 6 * ((VS.s_ncat (VS.s_nlast (VS.s_nser (VS.s_nhor (VS.s_nsc (VS.s_nsT (VS.s_nsF (VS.s_nsO (VS.s_npc (VS.s_nP (VS.s_hsize (VS.s_jch (VS.s_jfill (VS.s_jblock (VS.s_junits (VS.s_jkept (VS.s_jsize (VS.s_powered x true) (min x.jsize x.jkept)) (min x.jsize x.jkept)) u9n) a9) b9) false) 0) (va_cpy x.sP x.nP 0 0 x.spc)) x.spc) (va_cpy x.ssO x.nsO 0 0 x.ssc)) (va_cpy x.ssF x.nsF 0 0 x.ssc)) (va_cpy x.ssT x.nsT 0 0 x.ssc)) x.ssc) x.shor) x.sser) (va_cpy x.slast x.nlast 0 0 x.sser)) x.scat).hN - x.hN) from by omega) ?_
  exact L58 _ 0 (VS.s_ncat (VS.s_nlast (VS.s_nser (VS.s_nhor (VS.s_nsc (VS.s_nsT (VS.s_nsF (VS.s_nsO (VS.s_npc (VS.s_nP (VS.s_hsize (VS.s_jch (VS.s_jfill (VS.s_jblock (VS.s_junits (VS.s_jkept (VS.s_jsize (VS.s_powered x true) (min x.jsize x.jkept)) (min x.jsize x.jkept)) u9n) a9) b9) false) 0) (va_cpy x.sP x.nP 0 0 x.spc)) x.spc) (va_cpy x.ssO x.nsO 0 0 x.ssc)) (va_cpy x.ssF x.nsF 0 0 x.ssc)) (va_cpy x.ssT x.nsT 0 0 x.ssc)) x.ssc) x.shor) x.sser) (va_cpy x.slast x.nlast 0 0 x.sser)) x.scat) (Nat.zero_le _) rfl rfl H _ ls hP hD hS (lv_sub hl [0, 1] rfl)
