section
def VS.cp1 (x : VS) (PS : Nat → PT) (k nb mp : Nat) (pl1 : va_W) (ga2 go2 : Nat → Nat) (gt2 gv2 : Nat → Int64) : VS := VS.s_pl (VS.s_npc (VS.s_nP (VS.s_gsize (VS.s_gV (VS.s_gT (VS.s_gO (VS.s_gN (VS.s_gA (VS.s_jch (VS.s_jkept (VS.s_writes (VS.s_cutLeft x (cutN x.wjC (nb + 1))) (x.wjW + (nb + 1))) x.wjK) false) ga2) (capR (capR x.gN 0 (cnt (PS k).n (x.sePc (PS k)))) (cnt (PS k).n (x.sePc (PS k))) (cnt (PS (k + 1)).n (x.sePc (PS (k + 1)))))) go2) gt2) gv2) (cnt (PS k).n (x.sePc (PS k)) + cnt (PS (k + 1)).n (x.sePc (PS (k + 1))))) (sfT (va_up x.nP k (some mp)) (k + 1) 1 (x.npc - (k + 2)))) (x.npc - 1)) pl1
set_option maxHeartbeats 4000000 in
set_option maxRecDepth 100000 in
theorem v_compact_1 (l : Launch) (D : va_G) (dA : Nat → ClassId) (sz : Nat) (h : Nat) (ad : Nat → Nat) (x : VS) (PS : Nat → PT) (k : Nat) (nb : Nat) (ho : x.powered = true) (hk : k + 2 ≤ x.npc) (hps : psOk dA x.nP x.npc x.pl PS) (hpn : x.npc ≤ 32) (h1 : x.nsc ≤ 64) (h7 : ∀ q : Nat, q < x.nsc → x.nsO q < 2 ^ 31) (hfr : x.jlimit + 2 + (x.ncat + sumN x.npc (blN PS)) ≤ x.diskBlocks) (hn : x.nser ≤ 256) (hdk : x.diskBlocks ≤ 256) (hg0 : 0 < x.gN) (hg1 : capR (capR x.gN 0 (cnt (PS k).n (x.sePc (PS k)))) (cnt (PS k).n (x.sePc (PS k))) (cnt (PS (k + 1)).n (x.sePc (PS (k + 1)))) ≤ 32768) (hwb : x.writes + 1000 < 2 ^ 31) (hpo : ∀ j : Nat, j < x.npc → ∀ i : Nat, i < (PS j).n → (PS j).o i < x.nser) (hz : 0 < (cnt (PS k).n (x.sePc (PS k)) + cnt (PS (k + 1)).n (x.sePc (PS (k + 1))))) (hc12 : (cnt (PS k).n (x.sePc (PS k)) + cnt (PS (k + 1)).n (x.sePc (PS (k + 1)))) ≤ 12000) (hbl : ∀ (gO O : Nat → Nat) (gT gV T V : Nat → Int64), gat2 (x.sePc (PS k)) (x.sePc (PS (k + 1))) (PS k) (PS (k + 1)) gO gT gV → laid gO (cnt (PS k).n (x.sePc (PS k)) + cnt (PS (k + 1)).n (x.sePc (PS (k + 1)))) (cnt (PS k).n (x.sePc (PS k)) + cnt (PS (k + 1)).n (x.sePc (PS (k + 1)))) gO O → laid gO (cnt (PS k).n (x.sePc (PS k)) + cnt (PS (k + 1)).n (x.sePc (PS (k + 1)))) (cnt (PS k).n (x.sePc (PS k)) + cnt (PS (k + 1)).n (x.sePc (PS (k + 1)))) gT T → laid gO (cnt (PS k).n (x.sePc (PS k)) + cnt (PS (k + 1)).n (x.sePc (PS (k + 1)))) (cnt (PS k).n (x.sePc (PS k)) + cnt (PS (k + 1)).n (x.sePc (PS (k + 1)))) gV V → (mkP (cnt (PS k).n (x.sePc (PS k)) + cnt (PS (k + 1)).n (x.sePc (PS (k + 1)))) O T V).bl = nb) (hf : nb ≤ x.fr PS) (hw : x.jch = false ∨ ¬ x.cutLeft = 0) (hcz : ∀ j : Nat, j < nb + 1 → ¬ cutN x.wjC j = 0) : Met l ⟨"SeriesVault", "compact", "(I)I"⟩ [Cond.code ⟨"SeriesVault", "compact", "(I)I"⟩ prog_1_method_40_code 4 (some FieldType.int)] { frames := 6, cells := 3 * (capR (capR x.gN 0 (cnt (PS k).n (x.sePc (PS k)))) (cnt (PS k).n (x.sePc (PS k))) (cnt (PS (k + 1)).n (x.sePc (PS (k + 1)))) - x.gN) + 5, slots := 6 * (capR (capR x.gN 0 (cnt (PS k).n (x.sePc (PS k)))) (cnt (PS k).n (x.sePc (PS k))) (cnt (PS (k + 1)).n (x.sePc (PS (k + 1)))) - x.gN) + (8 + (3 * (cnt (PS k).n (x.sePc (PS k)) + cnt (PS (k + 1)).n (x.sePc (PS (k + 1)))) + x.nser + 1)), locals := 124 } (pC D dA [.ref h, .int (nI k)] (VW dA h ad x) sz) (va_Qi (fun (r9 : Int32) (u9 : VS) => r9 = nI (x.wjW + (nb + 1) - x.writes) ∧ (∃ (ga2 go2 : Nat → Nat) (gt2 gv2 : Nat → Int64) (O : Nat → Nat) (T V : Nat → Int64) (mp : Nat) (pl1 : va_W), gat2 (x.sePc (PS k)) (x.sePc (PS (k + 1))) (PS k) (PS (k + 1)) go2 gt2 gv2 ∧ laid go2 (cnt (PS k).n (x.sePc (PS k)) + cnt (PS (k + 1)).n (x.sePc (PS (k + 1)))) (cnt (PS k).n (x.sePc (PS k)) + cnt (PS (k + 1)).n (x.sePc (PS (k + 1)))) go2 O ∧ laid go2 (cnt (PS k).n (x.sePc (PS k)) + cnt (PS (k + 1)).n (x.sePc (PS (k + 1)))) (cnt (PS k).n (x.sePc (PS k)) + cnt (PS (k + 1)).n (x.sePc (PS (k + 1)))) gt2 T ∧ laid go2 (cnt (PS k).n (x.sePc (PS k)) + cnt (PS (k + 1)).n (x.sePc (PS (k + 1)))) (cnt (PS k).n (x.sePc (PS k)) + cnt (PS (k + 1)).n (x.sePc (PS (k + 1)))) gv2 V ∧ (∀ q, O q < 256) ∧ isPc dA pl1 mp (mkP (cnt (PS k).n (x.sePc (PS k)) + cnt (PS (k + 1)).n (x.sePc (PS (k + 1)))) O T V) ∧ (∀ c, c ∈ x.pl → c ∈ pl1) ∧ u9 = (x.cp1 PS k nb mp pl1 ga2 go2 gt2 gv2).kmS (sfT (va_up PS k (mkP (cnt (PS k).n (x.sePc (PS k)) + cnt (PS (k + 1)).n (x.sePc (PS (k + 1)))) O T V)) (k + 1) 1 (x.npc - (k + 2))))) (fun (u9 : VS) t9 => bW D (va_A (VW dA h ad x) sz) (VW dA h ad u9) t9) (va_A (VW dA h ad x) sz)) (3 * (capR (capR x.gN 0 (cnt (PS k).n (x.sePc (PS k)))) (cnt (PS k).n (x.sePc (PS k))) (cnt (PS (k + 1)).n (x.sePc (PS (k + 1)))) - x.gN) + 5) (6 * (capR (capR x.gN 0 (cnt (PS k).n (x.sePc (PS k)))) (cnt (PS k).n (x.sePc (PS k))) (cnt (PS (k + 1)).n (x.sePc (PS (k + 1)))) - x.gN) + (8 + (3 * (cnt (PS k).n (x.sePc (PS k)) + cnt (PS (k + 1)).n (x.sePc (PS (k + 1)))) + x.nser + 1))) (va_A (VW dA h ad x) sz) := by
  refine mkC (y := ⟨"SeriesVault", "compact", "(I)I"⟩) (cc := prog_1_method_40_code) (maxL := 4) (av := [.ref h, .int (nI k)]) (ws := VW dA h ad x) (sz := sz) (Qc := fun A => va_Qi (fun (r9 : Int32) (u9 : VS) => r9 = nI (x.wjW + (nb + 1) - x.writes) ∧ (∃ (ga2 go2 : Nat → Nat) (gt2 gv2 : Nat → Int64) (O : Nat → Nat) (T V : Nat → Int64) (mp : Nat) (pl1 : va_W), gat2 (x.sePc (PS k)) (x.sePc (PS (k + 1))) (PS k) (PS (k + 1)) go2 gt2 gv2 ∧ laid go2 (cnt (PS k).n (x.sePc (PS k)) + cnt (PS (k + 1)).n (x.sePc (PS (k + 1)))) (cnt (PS k).n (x.sePc (PS k)) + cnt (PS (k + 1)).n (x.sePc (PS (k + 1)))) go2 O ∧ laid go2 (cnt (PS k).n (x.sePc (PS k)) + cnt (PS (k + 1)).n (x.sePc (PS (k + 1)))) (cnt (PS k).n (x.sePc (PS k)) + cnt (PS (k + 1)).n (x.sePc (PS (k + 1)))) gt2 T ∧ laid go2 (cnt (PS k).n (x.sePc (PS k)) + cnt (PS (k + 1)).n (x.sePc (PS (k + 1)))) (cnt (PS k).n (x.sePc (PS k)) + cnt (PS (k + 1)).n (x.sePc (PS (k + 1)))) gv2 V ∧ (∀ q, O q < 256) ∧ isPc dA pl1 mp (mkP (cnt (PS k).n (x.sePc (PS k)) + cnt (PS (k + 1)).n (x.sePc (PS (k + 1)))) O T V) ∧ (∀ c, c ∈ x.pl → c ∈ pl1) ∧ u9 = (x.cp1 PS k nb mp pl1 ga2 go2 gt2 gv2).kmS (sfT (va_up PS k (mkP (cnt (PS k).n (x.sePc (PS k)) + cnt (PS (k + 1)).n (x.sePc (PS (k + 1)))) O T V)) (k + 1) 1 (x.npc - (k + 2))))) (fun (u9 : VS) t9 => bW D A (VW dA h ad u9) t9) A) (by decide) (Nat.le_of_ble_eq_true rfl) ?_
  intro A p e s m below meth c ls hsz hB
  obtain ⟨hx, hb, hr, hml, hown, hin, hlk, hE, hK, hP, hD, hS, hA, hN, hl⟩ := hB
  have hown : s.vm.findClass "SeriesVault" = some m.cls := hown
  have hl : lv_has ls 4 [(0, .ref h), (1, .int (nI k))] := hl
  obtain ⟨H, hH⟩ : ∃ z, z = s.heap := ⟨_, rfl⟩
  have hP : va_P D vwCl (VW dA h ad x) H := by rw [hH]; exact hP
  have hS : va_S A s.heap H [] := by rw [hH]; exact hS
  rw [← hH]
  refine lv_aload_n hx hb d_V_compact_0 rfl (lv_at hl 0 rfl) ?_
  refine jkV (wr := []) (rnV (As := []) (rest := []) hx hb hml hown hE hK (hN _ _ hS) hP hD (v_checkPower l D dA H.size h ad x ho) (q0 := 0) rfl rfl w278 w276 w279 w280 w277 rfl rfl ⟨⟨by decide, by decide⟩, rfl⟩ ⟨(Nat.le_of_ble_eq_true rfl), (Nat.le_of_ble_eq_true rfl)⟩ rfl hl.1 rfl (Nat.le_of_ble_eq_true rfl) d_V_compact_1 ⟨(show 0 + 0 ≤ 3 * (capR (capR x.gN 0 (cnt (PS k).n (x.sePc (PS k)))) (cnt (PS k).n (x.sePc (PS k))) (cnt (PS (k + 1)).n (x.sePc (PS (k + 1)))) - x.gN) + 5 by omega), (show 0 + 0 ≤ 6 * (capR (capR x.gN 0 (cnt (PS k).n (x.sePc (PS k)))) (cnt (PS k).n (x.sePc (PS k))) (cnt (PS (k + 1)).n (x.sePc (PS (k + 1)))) - x.gN) + (8 + (3 * (cnt (PS k).n (x.sePc (PS k)) + cnt (PS (k + 1)).n (x.sePc (PS (k + 1)))) + x.nser + 1)) by omega)⟩) hP hD hS hA (fun u2 H locs hp9 hP hD hS => ?_)
  have hP : va_P D vwCl (VW dA h ad x) H := hP
  have hD : va_D A (VW dA h ad x) := hD
  refine lv_iload_n hx hb d_V_compact_4 rfl (lv_at hl 1 rfl) ?_
  refine lv_if_lt hx hb d_V_compact_5 (tgt := 21) rfl (fun h9 => absurd h9 (nI_pos (n := k) (by omega))) (fun _ => ?_)
  refine lv_iload_n hx hb d_V_compact_8 rfl (lv_at hl 1 rfl) ?_
  refine lv_aload_n hx hb d_V_compact_9 rfl (lv_at hl 0 rfl) ?_
  refine gF (v := .ref (ad 3)) hx hb hown hE hK hP 0 rfl rfl layV 11 (by decide) w297 rfl d_V_compact_10 ?_
  refine gFN (v := .int (nI x.npc)) hx hb hown hE hK hP 17 rfl rfl layH 1 (by decide) w303 rfl d_V_compact_13 ?_
  refine lv_iconst (v := 1) hx hb d_V_compact_16 (by decide) ?_
  refine lv_isub hx hb d_V_compact_17 (tpi (y := nI (x.npc - 1)) (pk_sub (a := x.npc) (b := 1) (by omega)) ?_)
  refine lv_icmp_lt hx hb d_V_compact_18 (tgt := 29) rfl (fun g3 => ?_) (fun g3 => ?_)
  rotate_left
  · have g3 := mt (nI_ltI (a := k) (b := x.npc - 1) (by omega) (by omega)).mpr g3; exfalso; omega
  have g3 := (nI_ltI (a := k) (b := x.npc - 1) (by omega) (by omega)).mp g3
  obtain ⟨pp, ke, hpp, hpk⟩ := hps k (by omega)
  obtain ⟨qq, ke2, hqq, hqk⟩ := hps (k + 1) (by omega)
  have cl1 := cnt_le (PS k).n (x.sePc (PS k))
  have cl2 := cnt_le (PS (k + 1)).n (x.sePc (PS (k + 1)))
  have pk0 := hpk.1
  have qk0 := hqk.1
  have cm1 := capR_m (capR x.gN 0 (cnt (PS k).n (x.sePc (PS k)))) (cnt (PS k).n (x.sePc (PS k))) (Nat.zero_le (cnt (PS (k + 1)).n (x.sePc (PS (k + 1)))))
  have cm2 : capR (capR x.gN 0 (cnt (PS k).n (x.sePc (PS k)))) (cnt (PS k).n (x.sePc (PS k))) 0 = capR x.gN 0 (cnt (PS k).n (x.sePc (PS k))) := rfl
  have cm3 := capR_m x.gN 0 (Nat.zero_le (cnt (PS k).n (x.sePc (PS k))))
  have cm4 : capR x.gN 0 0 = x.gN := rfl
  have hfe : x.fr PS = x.diskBlocks - 2 - x.jlimit - (x.ncat + sumN x.npc (blN PS)) := rfl
  refine lv_aload_n hx hb d_V_compact_29 rfl (lv_at hl 0 rfl) ?_
  refine gF (v := .ref (ad 2)) hx hb hown hE hK hP 0 rfl rfl layV 10 (by decide) w826 rfl d_V_compact_30 ?_
  refine jkV (wr := []) (rnV (As := []) (rest := []) hx hb hml hown hE hK (hN _ _ hS) hP hD (v_pclear_g l D dA H.size h ad x) (q0 := 13) rfl rfl w579 w577 w580 w581 w578 rfl rfl ⟨⟨by decide, by decide⟩, rfl⟩ ⟨(Nat.le_of_ble_eq_true rfl), (Nat.le_of_ble_eq_true rfl)⟩ rfl hl.1 rfl (Nat.le_of_ble_eq_true rfl) d_V_compact_33 ⟨(show 0 + 0 + 0 ≤ 3 * (capR (capR x.gN 0 (cnt (PS k).n (x.sePc (PS k)))) (cnt (PS k).n (x.sePc (PS k))) (cnt (PS (k + 1)).n (x.sePc (PS (k + 1)))) - x.gN) + 5 by omega), (show 0 + 0 + 0 ≤ 6 * (capR (capR x.gN 0 (cnt (PS k).n (x.sePc (PS k)))) (cnt (PS k).n (x.sePc (PS k))) (cnt (PS (k + 1)).n (x.sePc (PS (k + 1)))) - x.gN) + (8 + (3 * (cnt (PS k).n (x.sePc (PS k)) + cnt (PS (k + 1)).n (x.sePc (PS (k + 1)))) + x.nser + 1)) by omega)⟩) hP hD hS hA (fun u5 H locs hp9 hP hD hS => ?_)
  have hP : va_P D vwCl (VW dA h ad (VS.s_gsize x 0)) H := hP
  have hD : va_D A (VW dA h ad (VS.s_gsize x 0)) := hD
  refine lv_aload_n hx hb d_V_compact_36 rfl (lv_at hl 0 rfl) ?_
  refine gF (v := .ref (ad 3)) hx hb hown hE hK hP 0 rfl rfl layV 11 (by decide) w297 rfl d_V_compact_37 ?_
  refine lv_aload_n hx hb d_V_compact_40 rfl (lv_at hl 0 rfl) ?_
  refine gF (v := .ref (ad 3)) hx hb hown hE hK hP 0 rfl rfl layV 11 (by decide) w297 rfl d_V_compact_41 ?_
  refine gFN (v := .ref (ad 4)) hx hb hown hE hK hP 17 rfl rfl layH 0 (by decide) w1347 rfl d_V_compact_44 ?_
  refine lv_iload_n hx hb d_V_compact_47 rfl (lv_at hl 1 rfl) ?_
  refine nqld (f := x.nP) (n := 32) hx hb hK hP (18) 4 rfl rfl (k) (by omega) (by decide) ke d_V_compact_48 ?_
  refine lv_aload_n hx hb d_V_compact_49 rfl (lv_at hl 0 rfl) ?_
  refine gF (v := .ref (ad 2)) hx hb hown hE hK hP 0 rfl rfl layV 10 (by decide) w826 rfl d_V_compact_50 ?_
  refine jkV (wr := []) (rnV (As := [.ref pp, .ref (ad 2)]) (rest := []) hx hb hml hown hE hK (hN _ _ hS) hP hD (v_gatherSeen l D dA H.size h ad (VS.s_gsize x 0) pp (PS k) hpp hpk (show x.nsc ≤ 64 from by omega) h7 (Nat.zero_le _) (show 0 < x.gN from by omega) (show capR x.gN 0 (cnt (PS k).n (x.sePc (PS k))) ≤ 32768 from by omega)) (q0 := 17) rfl rfl w1751 w1750 w1752 w1753 w583 rfl rfl ⟨⟨by decide, by decide⟩, rfl⟩ ⟨(Nat.le_of_ble_eq_true rfl), (Nat.le_of_ble_eq_true rfl)⟩ rfl hl.1 rfl (Nat.le_of_ble_eq_true rfl) d_V_compact_53 ⟨(show 0 + 0 + 0 + (3 * (capR x.gN 0 (cnt (PS k).n (x.sePc (PS k))) - x.gN)) ≤ 3 * (capR (capR x.gN 0 (cnt (PS k).n (x.sePc (PS k)))) (cnt (PS k).n (x.sePc (PS k))) (cnt (PS (k + 1)).n (x.sePc (PS (k + 1)))) - x.gN) + 5 by omega), (show 0 + 0 + 0 + (6 * (capR x.gN 0 (cnt (PS k).n (x.sePc (PS k))) - x.gN)) ≤ 6 * (capR (capR x.gN 0 (cnt (PS k).n (x.sePc (PS k)))) (cnt (PS k).n (x.sePc (PS k))) (cnt (PS (k + 1)).n (x.sePc (PS (k + 1)))) - x.gN) + (8 + (3 * (cnt (PS k).n (x.sePc (PS k)) + cnt (PS (k + 1)).n (x.sePc (PS (k + 1)))) + x.nser + 1)) by omega)⟩) hP hD hS hA (fun u7 H locs hp9 hP hD hS => ?_)
  obtain ⟨y8, h9u⟩ : ∃ z9, z9 = u7 := ⟨_, rfl⟩
  subst h9u
  have hP : va_P D vwCl (VW dA h ad y8) H := hP
  have hD : va_D A (VW dA h ad y8) := hD
  have f_g_9 := hp9
  obtain ⟨ga, gn, go, gt, gv, gz, ey, z1, z2, z3, z4, z5⟩ := gaR_u f_g_9
  subst ey
  have hP : va_P D vwCl (VW dA h ad (VS.s_gsize (VS.s_gV (VS.s_gT (VS.s_gO (VS.s_gN (VS.s_gA x ga) gn) go) gt) gv) gz)) H := hP
  have hD : va_D A (VW dA h ad (VS.s_gsize (VS.s_gV (VS.s_gT (VS.s_gO (VS.s_gN (VS.s_gA x ga) gn) go) gt) gv) gz)) := hD
  have z1 : gz = cnt (PS k).n (x.sePc (PS k)) := z1.trans (Nat.zero_add _)
  have z3 : gn = capR x.gN 0 (cnt (PS k).n (x.sePc (PS k))) := z3
  have z5a : ∀ j, j < (PS k).n → x.sePc (PS k) j = true → go (0 + cnt j (x.sePc (PS k))) = (PS k).o j ∧ gt (0 + cnt j (x.sePc (PS k))) = (PS k).t j ∧ gv (0 + cnt j (x.sePc (PS k))) = (PS k).v j := z5
  have z2a := z2
  subst z1
  subst z3
  have hP : va_P D vwCl (VW dA h ad (VS.s_gsize (VS.s_gV (VS.s_gT (VS.s_gO (VS.s_gN (VS.s_gA x ga) (capR x.gN 0 (cnt (PS k).n (x.sePc (PS k))))) go) gt) gv) (cnt (PS k).n (x.sePc (PS k))))) H := hP
  have hD : va_D A (VW dA h ad (VS.s_gsize (VS.s_gV (VS.s_gT (VS.s_gO (VS.s_gN (VS.s_gA x ga) (capR x.gN 0 (cnt (PS k).n (x.sePc (PS k))))) go) gt) gv) (cnt (PS k).n (x.sePc (PS k))))) := hD
  refine lv_aload_n hx hb d_V_compact_56 rfl (lv_at hl 0 rfl) ?_
  refine gF (v := .ref (ad 3)) hx hb hown hE hK hP 0 rfl rfl layV 11 (by decide) w297 rfl d_V_compact_57 ?_
  refine lv_aload_n hx hb d_V_compact_60 rfl (lv_at hl 0 rfl) ?_
  refine gF (v := .ref (ad 3)) hx hb hown hE hK hP 0 rfl rfl layV 11 (by decide) w297 rfl d_V_compact_61 ?_
  refine gFN (v := .ref (ad 4)) hx hb hown hE hK hP 17 rfl rfl layH 0 (by decide) w1347 rfl d_V_compact_64 ?_
  refine lv_iload_n hx hb d_V_compact_67 rfl (lv_at hl 1 rfl) ?_
  refine lv_iconst (v := 1) hx hb d_V_compact_68 (by decide) ?_
  refine lv_iadd hx hb d_V_compact_69 (tpi (y := nI (k + 1)) (nI_add (k) (1)) ?_)
  refine nqld (f := x.nP) (n := 32) hx hb hK hP (18) 4 rfl rfl (k + 1) (by omega) (by decide) ke2 d_V_compact_70 ?_
  refine lv_aload_n hx hb d_V_compact_71 rfl (lv_at hl 0 rfl) ?_
  refine gF (v := .ref (ad 2)) hx hb hown hE hK hP 0 rfl rfl layV 10 (by decide) w826 rfl d_V_compact_72 ?_
  refine jkV (wr := []) (rnV (As := [.ref qq, .ref (ad 2)]) (rest := []) hx hb hml hown hE hK (hN _ _ hS) hP hD (v_gatherSeen l D dA H.size h ad (VS.s_gsize (VS.s_gV (VS.s_gT (VS.s_gO (VS.s_gN (VS.s_gA x ga) (capR x.gN 0 (cnt (PS k).n (x.sePc (PS k))))) go) gt) gv) (cnt (PS k).n (x.sePc (PS k)))) qq (PS (k + 1)) hqq hqk (show x.nsc ≤ 64 from by omega) h7 z2a (show 0 < (capR x.gN 0 (cnt (PS k).n (x.sePc (PS k)))) from by omega) hg1) (q0 := 17) rfl rfl w1751 w1750 w1752 w1753 w583 rfl rfl ⟨⟨by decide, by decide⟩, rfl⟩ ⟨(Nat.le_of_ble_eq_true rfl), (Nat.le_of_ble_eq_true rfl)⟩ rfl hl.1 rfl (Nat.le_of_ble_eq_true rfl) d_V_compact_75 ⟨(show 0 + 0 + 0 + (3 * (capR x.gN 0 (cnt (PS k).n (x.sePc (PS k))) - x.gN)) + (3 * (capR (capR x.gN 0 (cnt (PS k).n (x.sePc (PS k)))) (cnt (PS k).n (x.sePc (PS k))) (cnt (PS (k + 1)).n (x.sePc (PS (k + 1)))) - (capR x.gN 0 (cnt (PS k).n (x.sePc (PS k)))))) ≤ 3 * (capR (capR x.gN 0 (cnt (PS k).n (x.sePc (PS k)))) (cnt (PS k).n (x.sePc (PS k))) (cnt (PS (k + 1)).n (x.sePc (PS (k + 1)))) - x.gN) + 5 by omega), (show 0 + 0 + 0 + (6 * (capR x.gN 0 (cnt (PS k).n (x.sePc (PS k))) - x.gN)) + (6 * (capR (capR x.gN 0 (cnt (PS k).n (x.sePc (PS k)))) (cnt (PS k).n (x.sePc (PS k))) (cnt (PS (k + 1)).n (x.sePc (PS (k + 1)))) - (capR x.gN 0 (cnt (PS k).n (x.sePc (PS k)))))) ≤ 6 * (capR (capR x.gN 0 (cnt (PS k).n (x.sePc (PS k)))) (cnt (PS k).n (x.sePc (PS k))) (cnt (PS (k + 1)).n (x.sePc (PS (k + 1)))) - x.gN) + (8 + (3 * (cnt (PS k).n (x.sePc (PS k)) + cnt (PS (k + 1)).n (x.sePc (PS (k + 1)))) + x.nser + 1)) by omega)⟩) hP hD hS hA (fun u11 H locs hp9 hP hD hS => ?_)
  obtain ⟨y12, h9u⟩ : ∃ z9, z9 = u11 := ⟨_, rfl⟩
  subst h9u
  have hP : va_P D vwCl (VW dA h ad y12) H := hP
  have hD : va_D A (VW dA h ad y12) := hD
  have f_g_13 := hp9
  obtain ⟨ga2, gn2, go2, gt2, gv2, gz2, ey, z1, z2, z3, z4, z5⟩ := gaR_u f_g_13
  subst ey
  have hP : va_P D vwCl (VW dA h ad (VS.s_gsize (VS.s_gV (VS.s_gT (VS.s_gO (VS.s_gN (VS.s_gA x ga2) gn2) go2) gt2) gv2) gz2)) H := hP
  have hD : va_D A (VW dA h ad (VS.s_gsize (VS.s_gV (VS.s_gT (VS.s_gO (VS.s_gN (VS.s_gA x ga2) gn2) go2) gt2) gv2) gz2)) := hD
  have z1 : gz2 = (cnt (PS k).n (x.sePc (PS k)) + cnt (PS (k + 1)).n (x.sePc (PS (k + 1)))) := z1
  have z3 : gn2 = capR (capR x.gN 0 (cnt (PS k).n (x.sePc (PS k)))) (cnt (PS k).n (x.sePc (PS k))) (cnt (PS (k + 1)).n (x.sePc (PS (k + 1)))) := z3
  have z2b : gz2 ≤ gn2 := z2
  have hgt : gat2 (x.sePc (PS k)) (x.sePc (PS (k + 1))) (PS k) (PS (k + 1)) go2 gt2 gv2 := gat2_m z5a z4 z5
  subst z1
  subst z3
  have hP : va_P D vwCl (VW dA h ad (VS.s_gsize (VS.s_gV (VS.s_gT (VS.s_gO (VS.s_gN (VS.s_gA x ga2) (capR (capR x.gN 0 (cnt (PS k).n (x.sePc (PS k)))) (cnt (PS k).n (x.sePc (PS k))) (cnt (PS (k + 1)).n (x.sePc (PS (k + 1)))))) go2) gt2) gv2) (cnt (PS k).n (x.sePc (PS k)) + cnt (PS (k + 1)).n (x.sePc (PS (k + 1)))))) H := hP
  have hD : va_D A (VW dA h ad (VS.s_gsize (VS.s_gV (VS.s_gT (VS.s_gO (VS.s_gN (VS.s_gA x ga2) (capR (capR x.gN 0 (cnt (PS k).n (x.sePc (PS k)))) (cnt (PS k).n (x.sePc (PS k))) (cnt (PS (k + 1)).n (x.sePc (PS (k + 1)))))) go2) gt2) gv2) (cnt (PS k).n (x.sePc (PS k)) + cnt (PS (k + 1)).n (x.sePc (PS (k + 1)))))) := hD
  refine lv_aload_n hx hb d_V_compact_78 rfl (lv_at hl 0 rfl) ?_
  refine lv_aload_n hx hb d_V_compact_79 rfl (lv_at hl 0 rfl) ?_
  refine gF (v := .ref (ad 2)) hx hb hown hE hK hP 0 rfl rfl layV 10 (by decide) w826 rfl d_V_compact_80 ?_
  refine jkR (wr := []) (rnV (As := [.ref (ad 2)]) (rest := []) hx hb hml hown hE hK (hN _ _ hS) hP hD (v_packed_1g l D dA H.size h ad (VS.s_gsize (VS.s_gV (VS.s_gT (VS.s_gO (VS.s_gN (VS.s_gA x ga2) (capR (capR x.gN 0 (cnt (PS k).n (x.sePc (PS k)))) (cnt (PS k).n (x.sePc (PS k))) (cnt (PS (k + 1)).n (x.sePc (PS (k + 1)))))) go2) gt2) gv2) (cnt (PS k).n (x.sePc (PS k)) + cnt (PS (k + 1)).n (x.sePc (PS (k + 1))))) hz hc12 z2b (show (capR (capR x.gN 0 (cnt (PS k).n (x.sePc (PS k)))) (cnt (PS k).n (x.sePc (PS k))) (cnt (PS (k + 1)).n (x.sePc (PS (k + 1))))) ≤ 65536 from by omega) hn (gat_o hgt (hpo k (by omega)) (hpo (k + 1) (by omega)))) (q0 := 0) rfl rfl w1383 w1382 w1384 w1385 w277 rfl rfl ⟨⟨by decide, by decide⟩, rfl⟩ ⟨(Nat.le_of_ble_eq_true rfl), (Nat.le_of_ble_eq_true rfl)⟩ rfl hl.1 rfl (Nat.le_of_ble_eq_true rfl) d_V_compact_83 ⟨(show 0 + 0 + 0 + (3 * (capR x.gN 0 (cnt (PS k).n (x.sePc (PS k))) - x.gN)) + (3 * (capR (capR x.gN 0 (cnt (PS k).n (x.sePc (PS k)))) (cnt (PS k).n (x.sePc (PS k))) (cnt (PS (k + 1)).n (x.sePc (PS (k + 1)))) - (capR x.gN 0 (cnt (PS k).n (x.sePc (PS k)))))) + 5 ≤ 3 * (capR (capR x.gN 0 (cnt (PS k).n (x.sePc (PS k)))) (cnt (PS k).n (x.sePc (PS k))) (cnt (PS (k + 1)).n (x.sePc (PS (k + 1)))) - x.gN) + 5 by omega), (show 0 + 0 + 0 + (6 * (capR x.gN 0 (cnt (PS k).n (x.sePc (PS k))) - x.gN)) + (6 * (capR (capR x.gN 0 (cnt (PS k).n (x.sePc (PS k)))) (cnt (PS k).n (x.sePc (PS k))) (cnt (PS (k + 1)).n (x.sePc (PS (k + 1)))) - (capR x.gN 0 (cnt (PS k).n (x.sePc (PS k)))))) + (8 + (3 * (cnt (PS k).n (x.sePc (PS k)) + cnt (PS (k + 1)).n (x.sePc (PS (k + 1)))) + x.nser + 1)) ≤ 6 * (capR (capR x.gN 0 (cnt (PS k).n (x.sePc (PS k)))) (cnt (PS k).n (x.sePc (PS k))) (cnt (PS (k + 1)).n (x.sePc (PS (k + 1)))) - x.gN) + (8 + (3 * (cnt (PS k).n (x.sePc (PS k)) + cnt (PS (k + 1)).n (x.sePc (PS (k + 1)))) + x.nser + 1)) by omega)⟩) hP hD hS hA (fun u14 mp H locs hp9 hP hD hS => ?_)
  obtain ⟨y15, O, T, V⟩ := u14
  have hP : va_P D vwCl (VW dA h ad y15) H := hP
  have hD : va_D A (VW dA h ad y15) := hD
  obtain ⟨f_ey_16, f_pc_17, f_l1_18, f_l2_19, f_l3_20, f_l4_21⟩ := hp9
  obtain ⟨hy, hsub⟩ := f_ey_16
  have hpc := f_pc_17
  obtain ⟨pl1, epl⟩ : ∃ z, z = y15.pl := ⟨_, rfl⟩
  rw [← epl] at hy hsub hpc
  subst hy
  have hP : va_P D vwCl (VW dA h ad (VS.s_pl (VS.s_gsize (VS.s_gV (VS.s_gT (VS.s_gO (VS.s_gN (VS.s_gA x ga2) (capR (capR x.gN 0 (cnt (PS k).n (x.sePc (PS k)))) (cnt (PS k).n (x.sePc (PS k))) (cnt (PS (k + 1)).n (x.sePc (PS (k + 1)))))) go2) gt2) gv2) (cnt (PS k).n (x.sePc (PS k)) + cnt (PS (k + 1)).n (x.sePc (PS (k + 1))))) pl1)) H := hP
  have hD : va_D A (VW dA h ad (VS.s_pl (VS.s_gsize (VS.s_gV (VS.s_gT (VS.s_gO (VS.s_gN (VS.s_gA x ga2) (capR (capR x.gN 0 (cnt (PS k).n (x.sePc (PS k)))) (cnt (PS k).n (x.sePc (PS k))) (cnt (PS (k + 1)).n (x.sePc (PS (k + 1)))))) go2) gt2) gv2) (cnt (PS k).n (x.sePc (PS k)) + cnt (PS (k + 1)).n (x.sePc (PS (k + 1))))) pl1)) := hD
  have hok : pcOk (mkP (cnt (PS k).n (x.sePc (PS k)) + cnt (PS (k + 1)).n (x.sePc (PS (k + 1)))) O T V) := mkP_ok hc12 f_l4_21
  have hps1 := psOk_m hsub hps
  have hb0 := hbl go2 O gt2 gv2 T V hgt f_l1_18 f_l2_19 f_l3_20
  refine lv_astore_n hx hb d_V_compact_86 rfl hl (by decide) rfl (fun ls hl => ?_)
  have hl : lv_has ls 4 [(2, .ref mp), (0, .ref h), (1, .int (nI k))] := hl
  refine lv_aload_n hx hb d_V_compact_87 rfl (lv_at hl 0 rfl) ?_
  refine jkI (wr := []) (rnS (As := [.ref mp]) (rest := []) hx hb hml hown hE hK (hN _ _ hS) hP hD (v_blocksOf l D dA H.size (VW dA h ad (VS.s_pl (VS.s_gsize (VS.s_gV (VS.s_gT (VS.s_gO (VS.s_gN (VS.s_gA x ga2) (capR (capR x.gN 0 (cnt (PS k).n (x.sePc (PS k)))) (cnt (PS k).n (x.sePc (PS k))) (cnt (PS (k + 1)).n (x.sePc (PS (k + 1)))))) go2) gt2) gv2) (cnt (PS k).n (x.sePc (PS k)) + cnt (PS (k + 1)).n (x.sePc (PS (k + 1))))) pl1)) mp (mkP (cnt (PS k).n (x.sePc (PS k)) + cnt (PS (k + 1)).n (x.sePc (PS (k + 1)))) O T V) (isPc_m (fun _ hm => (plm hm)) hpc)) w1391 w1390 w1392 w277 rfl rfl ⟨⟨by decide, by decide⟩, rfl⟩ ⟨(Nat.le_of_ble_eq_true rfl), (Nat.le_of_ble_eq_true rfl)⟩ rfl hl.1 rfl (Nat.le_of_ble_eq_true rfl) d_V_compact_88 ⟨(show 0 + 0 + 0 + (3 * (capR x.gN 0 (cnt (PS k).n (x.sePc (PS k))) - x.gN)) + (3 * (capR (capR x.gN 0 (cnt (PS k).n (x.sePc (PS k)))) (cnt (PS k).n (x.sePc (PS k))) (cnt (PS (k + 1)).n (x.sePc (PS (k + 1)))) - (capR x.gN 0 (cnt (PS k).n (x.sePc (PS k)))))) + 5 + 0 ≤ 3 * (capR (capR x.gN 0 (cnt (PS k).n (x.sePc (PS k)))) (cnt (PS k).n (x.sePc (PS k))) (cnt (PS (k + 1)).n (x.sePc (PS (k + 1)))) - x.gN) + 5 by omega), (show 0 + 0 + 0 + (6 * (capR x.gN 0 (cnt (PS k).n (x.sePc (PS k))) - x.gN)) + (6 * (capR (capR x.gN 0 (cnt (PS k).n (x.sePc (PS k)))) (cnt (PS k).n (x.sePc (PS k))) (cnt (PS (k + 1)).n (x.sePc (PS (k + 1)))) - (capR x.gN 0 (cnt (PS k).n (x.sePc (PS k)))))) + (8 + (3 * (cnt (PS k).n (x.sePc (PS k)) + cnt (PS (k + 1)).n (x.sePc (PS (k + 1)))) + x.nser + 1)) + 0 ≤ 6 * (capR (capR x.gN 0 (cnt (PS k).n (x.sePc (PS k)))) (cnt (PS k).n (x.sePc (PS k))) (cnt (PS (k + 1)).n (x.sePc (PS (k + 1)))) - x.gN) + (8 + (3 * (cnt (PS k).n (x.sePc (PS k)) + cnt (PS (k + 1)).n (x.sePc (PS (k + 1)))) + x.nser + 1)) by omega)⟩) hP hD hS hA (fun r22 u23 H locs hp9 hP hD hS => ?_)
  have hP : va_P D vwCl (VW dA h ad (VS.s_pl (VS.s_gsize (VS.s_gV (VS.s_gT (VS.s_gO (VS.s_gN (VS.s_gA x ga2) (capR (capR x.gN 0 (cnt (PS k).n (x.sePc (PS k)))) (cnt (PS k).n (x.sePc (PS k))) (cnt (PS (k + 1)).n (x.sePc (PS (k + 1)))))) go2) gt2) gv2) (cnt (PS k).n (x.sePc (PS k)) + cnt (PS (k + 1)).n (x.sePc (PS (k + 1))))) pl1)) H := hP
  have hD : va_D A (VW dA h ad (VS.s_pl (VS.s_gsize (VS.s_gV (VS.s_gT (VS.s_gO (VS.s_gN (VS.s_gA x ga2) (capR (capR x.gN 0 (cnt (PS k).n (x.sePc (PS k)))) (cnt (PS k).n (x.sePc (PS k))) (cnt (PS (k + 1)).n (x.sePc (PS (k + 1)))))) go2) gt2) gv2) (cnt (PS k).n (x.sePc (PS k)) + cnt (PS (k + 1)).n (x.sePc (PS (k + 1))))) pl1)) := hD
  replace hp9 : nI (mkP (cnt (PS k).n (x.sePc (PS k)) + cnt (PS (k + 1)).n (x.sePc (PS (k + 1)))) O T V).bl = r22 := Eq.symm hp9
  subst hp9
  refine tpi (y := nI nb) (blX hb0) ?_
  refine lv_aload_n hx hb d_V_compact_91 rfl (lv_at hl 1 rfl) ?_
  refine jkI (wr := []) (rnV (As := []) (rest := [.int (nI nb)]) hx hb hml hown hE hK (hN _ _ hS) hP hD (v_freeBlocks l D dA H.size h ad (VS.s_pl (VS.s_gsize (VS.s_gV (VS.s_gT (VS.s_gO (VS.s_gN (VS.s_gA x ga2) (capR (capR x.gN 0 (cnt (PS k).n (x.sePc (PS k)))) (cnt (PS k).n (x.sePc (PS k))) (cnt (PS (k + 1)).n (x.sePc (PS (k + 1)))))) go2) gt2) gv2) (cnt (PS k).n (x.sePc (PS k)) + cnt (PS (k + 1)).n (x.sePc (PS (k + 1))))) pl1) PS hps1 (show x.npc ≤ 32 from by omega) hfr) (q0 := 0) rfl rfl w644 w643 w645 w646 w277 rfl rfl ⟨⟨by decide, by decide⟩, rfl⟩ ⟨(Nat.le_of_ble_eq_true rfl), (Nat.le_of_ble_eq_true rfl)⟩ rfl hl.1 rfl (Nat.le_of_ble_eq_true rfl) d_V_compact_92 ⟨(show 0 + 0 + 0 + (3 * (capR x.gN 0 (cnt (PS k).n (x.sePc (PS k))) - x.gN)) + (3 * (capR (capR x.gN 0 (cnt (PS k).n (x.sePc (PS k)))) (cnt (PS k).n (x.sePc (PS k))) (cnt (PS (k + 1)).n (x.sePc (PS (k + 1)))) - (capR x.gN 0 (cnt (PS k).n (x.sePc (PS k)))))) + 5 + 0 + 0 ≤ 3 * (capR (capR x.gN 0 (cnt (PS k).n (x.sePc (PS k)))) (cnt (PS k).n (x.sePc (PS k))) (cnt (PS (k + 1)).n (x.sePc (PS (k + 1)))) - x.gN) + 5 by omega), (show 0 + 0 + 0 + (6 * (capR x.gN 0 (cnt (PS k).n (x.sePc (PS k))) - x.gN)) + (6 * (capR (capR x.gN 0 (cnt (PS k).n (x.sePc (PS k)))) (cnt (PS k).n (x.sePc (PS k))) (cnt (PS (k + 1)).n (x.sePc (PS (k + 1)))) - (capR x.gN 0 (cnt (PS k).n (x.sePc (PS k)))))) + (8 + (3 * (cnt (PS k).n (x.sePc (PS k)) + cnt (PS (k + 1)).n (x.sePc (PS (k + 1)))) + x.nser + 1)) + 0 + 0 ≤ 6 * (capR (capR x.gN 0 (cnt (PS k).n (x.sePc (PS k)))) (cnt (PS k).n (x.sePc (PS k))) (cnt (PS (k + 1)).n (x.sePc (PS (k + 1)))) - x.gN) + (8 + (3 * (cnt (PS k).n (x.sePc (PS k)) + cnt (PS (k + 1)).n (x.sePc (PS (k + 1)))) + x.nser + 1)) by omega)⟩) hP hD hS hA (fun r24 u25 H locs hp9 hP hD hS => ?_)
  have hP : va_P D vwCl (VW dA h ad (VS.s_pl (VS.s_gsize (VS.s_gV (VS.s_gT (VS.s_gO (VS.s_gN (VS.s_gA x ga2) (capR (capR x.gN 0 (cnt (PS k).n (x.sePc (PS k)))) (cnt (PS k).n (x.sePc (PS k))) (cnt (PS (k + 1)).n (x.sePc (PS (k + 1)))))) go2) gt2) gv2) (cnt (PS k).n (x.sePc (PS k)) + cnt (PS (k + 1)).n (x.sePc (PS (k + 1))))) pl1)) H := hP
  have hD : va_D A (VW dA h ad (VS.s_pl (VS.s_gsize (VS.s_gV (VS.s_gT (VS.s_gO (VS.s_gN (VS.s_gA x ga2) (capR (capR x.gN 0 (cnt (PS k).n (x.sePc (PS k)))) (cnt (PS k).n (x.sePc (PS k))) (cnt (PS (k + 1)).n (x.sePc (PS (k + 1)))))) go2) gt2) gv2) (cnt (PS k).n (x.sePc (PS k)) + cnt (PS (k + 1)).n (x.sePc (PS (k + 1))))) pl1)) := hD
  replace hp9 : nI (x.fr PS) = r24 := Eq.symm hp9
  subst hp9
  refine lv_icmp_le hx hb d_V_compact_95 (tgt := 106) rfl (fun _ => ?_) (fun h9 => absurd ((nI_leI (a := nb) (b := x.fr PS) (by omega) (by omega)).mpr hf) h9)
  refine lv_aload_n hx hb d_V_compact_106 rfl (lv_at hl 1 rfl) ?_
  refine gF (v := .int (nI x.writes)) hx hb hown hE hK hP 0 rfl rfl layV 7 (by decide) w209 rfl d_V_compact_107 ?_
  refine lv_istore_n hx hb d_V_compact_110 rfl hl (by decide) rfl (fun ls hl => ?_)
  have hl : lv_has ls 4 [(3, .int (nI x.writes)), (2, .ref mp), (0, .ref h), (1, .int (nI k))] := hl
  refine lv_aload_n hx hb d_V_compact_111 rfl (lv_at hl 2 rfl) ?_
  refine jkI (wr := []) (rnV (As := []) (rest := []) hx hb hml hown hE hK (hN _ _ hS) hP hD (v_wjb l D dA H.size h ad (VS.s_pl (VS.s_gsize (VS.s_gV (VS.s_gT (VS.s_gO (VS.s_gN (VS.s_gA x ga2) (capR (capR x.gN 0 (cnt (PS k).n (x.sePc (PS k)))) (cnt (PS k).n (x.sePc (PS k))) (cnt (PS (k + 1)).n (x.sePc (PS (k + 1)))))) go2) gt2) gv2) (cnt (PS k).n (x.sePc (PS k)) + cnt (PS (k + 1)).n (x.sePc (PS (k + 1))))) pl1) hw) (q0 := 0) rfl rfl w315 w314 w316 w317 w277 rfl rfl ⟨⟨by decide, by decide⟩, rfl⟩ ⟨(Nat.le_of_ble_eq_true rfl), (Nat.le_of_ble_eq_true rfl)⟩ rfl hl.1 rfl (Nat.le_of_ble_eq_true rfl) d_V_compact_112 ⟨(show 0 + 0 + 0 + (3 * (capR x.gN 0 (cnt (PS k).n (x.sePc (PS k))) - x.gN)) + (3 * (capR (capR x.gN 0 (cnt (PS k).n (x.sePc (PS k)))) (cnt (PS k).n (x.sePc (PS k))) (cnt (PS (k + 1)).n (x.sePc (PS (k + 1)))) - (capR x.gN 0 (cnt (PS k).n (x.sePc (PS k)))))) + 5 + 0 + 0 + 0 ≤ 3 * (capR (capR x.gN 0 (cnt (PS k).n (x.sePc (PS k)))) (cnt (PS k).n (x.sePc (PS k))) (cnt (PS (k + 1)).n (x.sePc (PS (k + 1)))) - x.gN) + 5 by omega), (show 0 + 0 + 0 + (6 * (capR x.gN 0 (cnt (PS k).n (x.sePc (PS k))) - x.gN)) + (6 * (capR (capR x.gN 0 (cnt (PS k).n (x.sePc (PS k)))) (cnt (PS k).n (x.sePc (PS k))) (cnt (PS (k + 1)).n (x.sePc (PS (k + 1)))) - (capR x.gN 0 (cnt (PS k).n (x.sePc (PS k)))))) + (8 + (3 * (cnt (PS k).n (x.sePc (PS k)) + cnt (PS (k + 1)).n (x.sePc (PS (k + 1)))) + x.nser + 1)) + 0 + 0 + 0 ≤ 6 * (capR (capR x.gN 0 (cnt (PS k).n (x.sePc (PS k)))) (cnt (PS k).n (x.sePc (PS k))) (cnt (PS (k + 1)).n (x.sePc (PS (k + 1)))) - x.gN) + (8 + (3 * (cnt (PS k).n (x.sePc (PS k)) + cnt (PS (k + 1)).n (x.sePc (PS (k + 1)))) + x.nser + 1)) by omega)⟩) hP hD hS hA (fun r26 u27 H locs hp9 hP hD hS => ?_)
  obtain ⟨y28, h9u⟩ : ∃ z9, z9 = u27 := ⟨_, rfl⟩
  subst h9u
  have hP : va_P D vwCl (VW dA h ad y28) H := hP
  have hD : va_D A (VW dA h ad y28) := hD
  obtain ⟨hp9, f_e_29⟩ := hp9
  replace hp9 : bI x.jch = r26 := Eq.symm hp9
  subst hp9
  refine lv_pop hx hb d_V_compact_115 rfl ?_
  have hw9 := f_e_29
  rw [wjS_r] at hw9
  subst hw9
  have hP : va_P D vwCl (VW dA h ad (VS.s_pl (VS.s_gsize (VS.s_gV (VS.s_gT (VS.s_gO (VS.s_gN (VS.s_gA (VS.s_jch (VS.s_jkept (VS.s_writes (VS.s_cutLeft x x.wjC) x.wjW) x.wjK) false) ga2) (capR (capR x.gN 0 (cnt (PS k).n (x.sePc (PS k)))) (cnt (PS k).n (x.sePc (PS k))) (cnt (PS (k + 1)).n (x.sePc (PS (k + 1)))))) go2) gt2) gv2) (cnt (PS k).n (x.sePc (PS k)) + cnt (PS (k + 1)).n (x.sePc (PS (k + 1))))) pl1)) H := hP
  have hD : va_D A (VW dA h ad (VS.s_pl (VS.s_gsize (VS.s_gV (VS.s_gT (VS.s_gO (VS.s_gN (VS.s_gA (VS.s_jch (VS.s_jkept (VS.s_writes (VS.s_cutLeft x x.wjC) x.wjW) x.wjK) false) ga2) (capR (capR x.gN 0 (cnt (PS k).n (x.sePc (PS k)))) (cnt (PS k).n (x.sePc (PS k))) (cnt (PS (k + 1)).n (x.sePc (PS (k + 1)))))) go2) gt2) gv2) (cnt (PS k).n (x.sePc (PS k)) + cnt (PS (k + 1)).n (x.sePc (PS (k + 1))))) pl1)) := hD
  have ww := wjW_le x
  refine lv_aload_n hx hb d_V_compact_116 rfl (lv_at hl 2 rfl) ?_
  refine lv_aload_n hx hb d_V_compact_117 rfl (lv_at hl 1 rfl) ?_
  refine jkI (wr := []) (rnS (As := [.ref mp]) (rest := [.ref h]) hx hb hml hown hE hK (hN _ _ hS) hP hD (v_blocksOf l D dA H.size (VW dA h ad (VS.s_pl (VS.s_gsize (VS.s_gV (VS.s_gT (VS.s_gO (VS.s_gN (VS.s_gA (VS.s_jch (VS.s_jkept (VS.s_writes (VS.s_cutLeft x x.wjC) x.wjW) x.wjK) false) ga2) (capR (capR x.gN 0 (cnt (PS k).n (x.sePc (PS k)))) (cnt (PS k).n (x.sePc (PS k))) (cnt (PS (k + 1)).n (x.sePc (PS (k + 1)))))) go2) gt2) gv2) (cnt (PS k).n (x.sePc (PS k)) + cnt (PS (k + 1)).n (x.sePc (PS (k + 1))))) pl1)) mp (mkP (cnt (PS k).n (x.sePc (PS k)) + cnt (PS (k + 1)).n (x.sePc (PS (k + 1)))) O T V) (isPc_m (fun _ hm => (plm hm)) hpc)) w1391 w1390 w1392 w277 rfl rfl ⟨⟨by decide, by decide⟩, rfl⟩ ⟨(Nat.le_of_ble_eq_true rfl), (Nat.le_of_ble_eq_true rfl)⟩ rfl hl.1 rfl (Nat.le_of_ble_eq_true rfl) d_V_compact_118 ⟨(show 0 + 0 + 0 + (3 * (capR x.gN 0 (cnt (PS k).n (x.sePc (PS k))) - x.gN)) + (3 * (capR (capR x.gN 0 (cnt (PS k).n (x.sePc (PS k)))) (cnt (PS k).n (x.sePc (PS k))) (cnt (PS (k + 1)).n (x.sePc (PS (k + 1)))) - (capR x.gN 0 (cnt (PS k).n (x.sePc (PS k)))))) + 5 + 0 + 0 + 0 + 0 ≤ 3 * (capR (capR x.gN 0 (cnt (PS k).n (x.sePc (PS k)))) (cnt (PS k).n (x.sePc (PS k))) (cnt (PS (k + 1)).n (x.sePc (PS (k + 1)))) - x.gN) + 5 by omega), (show 0 + 0 + 0 + (6 * (capR x.gN 0 (cnt (PS k).n (x.sePc (PS k))) - x.gN)) + (6 * (capR (capR x.gN 0 (cnt (PS k).n (x.sePc (PS k)))) (cnt (PS k).n (x.sePc (PS k))) (cnt (PS (k + 1)).n (x.sePc (PS (k + 1)))) - (capR x.gN 0 (cnt (PS k).n (x.sePc (PS k)))))) + (8 + (3 * (cnt (PS k).n (x.sePc (PS k)) + cnt (PS (k + 1)).n (x.sePc (PS (k + 1)))) + x.nser + 1)) + 0 + 0 + 0 + 0 ≤ 6 * (capR (capR x.gN 0 (cnt (PS k).n (x.sePc (PS k)))) (cnt (PS k).n (x.sePc (PS k))) (cnt (PS (k + 1)).n (x.sePc (PS (k + 1)))) - x.gN) + (8 + (3 * (cnt (PS k).n (x.sePc (PS k)) + cnt (PS (k + 1)).n (x.sePc (PS (k + 1)))) + x.nser + 1)) by omega)⟩) hP hD hS hA (fun r30 u31 H locs hp9 hP hD hS => ?_)
  have hP : va_P D vwCl (VW dA h ad (VS.s_pl (VS.s_gsize (VS.s_gV (VS.s_gT (VS.s_gO (VS.s_gN (VS.s_gA (VS.s_jch (VS.s_jkept (VS.s_writes (VS.s_cutLeft x x.wjC) x.wjW) x.wjK) false) ga2) (capR (capR x.gN 0 (cnt (PS k).n (x.sePc (PS k)))) (cnt (PS k).n (x.sePc (PS k))) (cnt (PS (k + 1)).n (x.sePc (PS (k + 1)))))) go2) gt2) gv2) (cnt (PS k).n (x.sePc (PS k)) + cnt (PS (k + 1)).n (x.sePc (PS (k + 1))))) pl1)) H := hP
  have hD : va_D A (VW dA h ad (VS.s_pl (VS.s_gsize (VS.s_gV (VS.s_gT (VS.s_gO (VS.s_gN (VS.s_gA (VS.s_jch (VS.s_jkept (VS.s_writes (VS.s_cutLeft x x.wjC) x.wjW) x.wjK) false) ga2) (capR (capR x.gN 0 (cnt (PS k).n (x.sePc (PS k)))) (cnt (PS k).n (x.sePc (PS k))) (cnt (PS (k + 1)).n (x.sePc (PS (k + 1)))))) go2) gt2) gv2) (cnt (PS k).n (x.sePc (PS k)) + cnt (PS (k + 1)).n (x.sePc (PS (k + 1))))) pl1)) := hD
  replace hp9 : nI (mkP (cnt (PS k).n (x.sePc (PS k)) + cnt (PS (k + 1)).n (x.sePc (PS (k + 1)))) O T V).bl = r30 := Eq.symm hp9
  subst hp9
  refine tpi (y := nI nb) (blX hb0) ?_
  refine lv_iconst (v := 1) hx hb d_V_compact_121 (by decide) ?_
  refine lv_iadd hx hb d_V_compact_122 (tpi (y := nI (nb + 1)) (nI_add (nb) (1)) ?_)
  refine jkV (wr := []) (rnV (As := [.int (nI (nb + 1))]) (rest := []) hx hb hml hown hE hK (hN _ _ hS) hP hD (v_writeBlocks l D dA H.size h ad (VS.s_pl (VS.s_gsize (VS.s_gV (VS.s_gT (VS.s_gO (VS.s_gN (VS.s_gA (VS.s_jch (VS.s_jkept (VS.s_writes (VS.s_cutLeft x x.wjC) x.wjW) x.wjK) false) ga2) (capR (capR x.gN 0 (cnt (PS k).n (x.sePc (PS k)))) (cnt (PS k).n (x.sePc (PS k))) (cnt (PS (k + 1)).n (x.sePc (PS (k + 1)))))) go2) gt2) gv2) (cnt (PS k).n (x.sePc (PS k)) + cnt (PS (k + 1)).n (x.sePc (PS (k + 1))))) pl1) (nb + 1) (show (nb + 1) < 2 ^ 31 from by omega) hcz) (q0 := 0) rfl rfl w1394 w1393 w1395 w1396 w277 rfl rfl ⟨⟨by decide, by decide⟩, rfl⟩ ⟨(Nat.le_of_ble_eq_true rfl), (Nat.le_of_ble_eq_true rfl)⟩ rfl hl.1 rfl (Nat.le_of_ble_eq_true rfl) d_V_compact_123 ⟨(show 0 + 0 + 0 + (3 * (capR x.gN 0 (cnt (PS k).n (x.sePc (PS k))) - x.gN)) + (3 * (capR (capR x.gN 0 (cnt (PS k).n (x.sePc (PS k)))) (cnt (PS k).n (x.sePc (PS k))) (cnt (PS (k + 1)).n (x.sePc (PS (k + 1)))) - (capR x.gN 0 (cnt (PS k).n (x.sePc (PS k)))))) + 5 + 0 + 0 + 0 + 0 + 0 ≤ 3 * (capR (capR x.gN 0 (cnt (PS k).n (x.sePc (PS k)))) (cnt (PS k).n (x.sePc (PS k))) (cnt (PS (k + 1)).n (x.sePc (PS (k + 1)))) - x.gN) + 5 by omega), (show 0 + 0 + 0 + (6 * (capR x.gN 0 (cnt (PS k).n (x.sePc (PS k))) - x.gN)) + (6 * (capR (capR x.gN 0 (cnt (PS k).n (x.sePc (PS k)))) (cnt (PS k).n (x.sePc (PS k))) (cnt (PS (k + 1)).n (x.sePc (PS (k + 1)))) - (capR x.gN 0 (cnt (PS k).n (x.sePc (PS k)))))) + (8 + (3 * (cnt (PS k).n (x.sePc (PS k)) + cnt (PS (k + 1)).n (x.sePc (PS (k + 1)))) + x.nser + 1)) + 0 + 0 + 0 + 0 + 0 ≤ 6 * (capR (capR x.gN 0 (cnt (PS k).n (x.sePc (PS k)))) (cnt (PS k).n (x.sePc (PS k))) (cnt (PS (k + 1)).n (x.sePc (PS (k + 1)))) - x.gN) + (8 + (3 * (cnt (PS k).n (x.sePc (PS k)) + cnt (PS (k + 1)).n (x.sePc (PS (k + 1)))) + x.nser + 1)) by omega)⟩) hP hD hS hA (fun u33 H locs hp9 hP hD hS => ?_)
  have hP : va_P D vwCl (VW dA h ad (VS.s_pl (VS.s_gsize (VS.s_gV (VS.s_gT (VS.s_gO (VS.s_gN (VS.s_gA (VS.s_jch (VS.s_jkept (VS.s_writes (VS.s_cutLeft x (cutN x.wjC (nb + 1))) (x.wjW + (nb + 1))) x.wjK) false) ga2) (capR (capR x.gN 0 (cnt (PS k).n (x.sePc (PS k)))) (cnt (PS k).n (x.sePc (PS k))) (cnt (PS (k + 1)).n (x.sePc (PS (k + 1)))))) go2) gt2) gv2) (cnt (PS k).n (x.sePc (PS k)) + cnt (PS (k + 1)).n (x.sePc (PS (k + 1))))) pl1)) H := hP
  have hD : va_D A (VW dA h ad (VS.s_pl (VS.s_gsize (VS.s_gV (VS.s_gT (VS.s_gO (VS.s_gN (VS.s_gA (VS.s_jch (VS.s_jkept (VS.s_writes (VS.s_cutLeft x (cutN x.wjC (nb + 1))) (x.wjW + (nb + 1))) x.wjK) false) ga2) (capR (capR x.gN 0 (cnt (PS k).n (x.sePc (PS k)))) (cnt (PS k).n (x.sePc (PS k))) (cnt (PS (k + 1)).n (x.sePc (PS (k + 1)))))) go2) gt2) gv2) (cnt (PS k).n (x.sePc (PS k)) + cnt (PS (k + 1)).n (x.sePc (PS (k + 1))))) pl1)) := hD
  refine lv_aload_n hx hb d_V_compact_126 rfl (lv_at hl 2 rfl) ?_
  refine gF (v := .ref (ad 3)) hx hb hown hE hK hP 0 rfl rfl layV 11 (by decide) w297 rfl d_V_compact_127 ?_
  refine lv_iload_n hx hb d_V_compact_130 rfl (lv_at hl 3 rfl) ?_
  refine lv_aload_n hx hb d_V_compact_131 rfl (lv_at hl 1 rfl) ?_
  refine jkV (wr := []) (rnV (As := [.int (nI k), .ref mp]) (rest := []) hx hb hml hown hE hK (hN _ _ hS) hP hD (v_putTogether_1 l D dA H.size h ad (VS.s_pl (VS.s_gsize (VS.s_gV (VS.s_gT (VS.s_gO (VS.s_gN (VS.s_gA (VS.s_jch (VS.s_jkept (VS.s_writes (VS.s_cutLeft x (cutN x.wjC (nb + 1))) (x.wjW + (nb + 1))) x.wjK) false) ga2) (capR (capR x.gN 0 (cnt (PS k).n (x.sePc (PS k)))) (cnt (PS k).n (x.sePc (PS k))) (cnt (PS (k + 1)).n (x.sePc (PS (k + 1)))))) go2) gt2) gv2) (cnt (PS k).n (x.sePc (PS k)) + cnt (PS (k + 1)).n (x.sePc (PS (k + 1))))) pl1) PS k mp (mkP (cnt (PS k).n (x.sePc (PS k)) + cnt (PS (k + 1)).n (x.sePc (PS (k + 1)))) O T V) hps1 (show x.npc ≤ 32 from by omega) (show k + 2 ≤ x.npc from by omega) hpc) (q0 := 17) rfl rfl w1755 w1754 w1756 w1757 w583 rfl rfl ⟨⟨by decide, by decide⟩, rfl⟩ ⟨(Nat.le_of_ble_eq_true rfl), (Nat.le_of_ble_eq_true rfl)⟩ rfl hl.1 rfl (Nat.le_of_ble_eq_true rfl) d_V_compact_132 ⟨(show 0 + 0 + 0 + (3 * (capR x.gN 0 (cnt (PS k).n (x.sePc (PS k))) - x.gN)) + (3 * (capR (capR x.gN 0 (cnt (PS k).n (x.sePc (PS k)))) (cnt (PS k).n (x.sePc (PS k))) (cnt (PS (k + 1)).n (x.sePc (PS (k + 1)))) - (capR x.gN 0 (cnt (PS k).n (x.sePc (PS k)))))) + 5 + 0 + 0 + 0 + 0 + 0 + 0 ≤ 3 * (capR (capR x.gN 0 (cnt (PS k).n (x.sePc (PS k)))) (cnt (PS k).n (x.sePc (PS k))) (cnt (PS (k + 1)).n (x.sePc (PS (k + 1)))) - x.gN) + 5 by omega), (show 0 + 0 + 0 + (6 * (capR x.gN 0 (cnt (PS k).n (x.sePc (PS k))) - x.gN)) + (6 * (capR (capR x.gN 0 (cnt (PS k).n (x.sePc (PS k)))) (cnt (PS k).n (x.sePc (PS k))) (cnt (PS (k + 1)).n (x.sePc (PS (k + 1)))) - (capR x.gN 0 (cnt (PS k).n (x.sePc (PS k)))))) + (8 + (3 * (cnt (PS k).n (x.sePc (PS k)) + cnt (PS (k + 1)).n (x.sePc (PS (k + 1)))) + x.nser + 1)) + 0 + 0 + 0 + 0 + 0 + 0 ≤ 6 * (capR (capR x.gN 0 (cnt (PS k).n (x.sePc (PS k)))) (cnt (PS k).n (x.sePc (PS k))) (cnt (PS (k + 1)).n (x.sePc (PS (k + 1)))) - x.gN) + (8 + (3 * (cnt (PS k).n (x.sePc (PS k)) + cnt (PS (k + 1)).n (x.sePc (PS (k + 1)))) + x.nser + 1)) by omega)⟩) hP hD hS hA (fun u35 H locs hp9 hP hD hS => ?_)
  have hP : va_P D vwCl (VW dA h ad (VS.s_pl (VS.s_npc (VS.s_nP (VS.s_gsize (VS.s_gV (VS.s_gT (VS.s_gO (VS.s_gN (VS.s_gA (VS.s_jch (VS.s_jkept (VS.s_writes (VS.s_cutLeft x (cutN x.wjC (nb + 1))) (x.wjW + (nb + 1))) x.wjK) false) ga2) (capR (capR x.gN 0 (cnt (PS k).n (x.sePc (PS k)))) (cnt (PS k).n (x.sePc (PS k))) (cnt (PS (k + 1)).n (x.sePc (PS (k + 1)))))) go2) gt2) gv2) (cnt (PS k).n (x.sePc (PS k)) + cnt (PS (k + 1)).n (x.sePc (PS (k + 1))))) (sfT (va_up x.nP k (some mp)) (k + 1) 1 (x.npc - (k + 2)))) (x.npc - 1)) pl1)) H := hP
  have hD : va_D A (VW dA h ad (VS.s_pl (VS.s_npc (VS.s_nP (VS.s_gsize (VS.s_gV (VS.s_gT (VS.s_gO (VS.s_gN (VS.s_gA (VS.s_jch (VS.s_jkept (VS.s_writes (VS.s_cutLeft x (cutN x.wjC (nb + 1))) (x.wjW + (nb + 1))) x.wjK) false) ga2) (capR (capR x.gN 0 (cnt (PS k).n (x.sePc (PS k)))) (cnt (PS k).n (x.sePc (PS k))) (cnt (PS (k + 1)).n (x.sePc (PS (k + 1)))))) go2) gt2) gv2) (cnt (PS k).n (x.sePc (PS k)) + cnt (PS (k + 1)).n (x.sePc (PS (k + 1))))) (sfT (va_up x.nP k (some mp)) (k + 1) 1 (x.npc - (k + 2)))) (x.npc - 1)) pl1)) := hD
  refine lv_aload_n hx hb d_V_compact_135 rfl (lv_at hl 2 rfl) ?_
  refine jkV (wr := []) (rnV (As := []) (rest := []) hx hb hml hown hE hK (hN _ _ hS) hP hD (v_keepManifest l D dA H.size h ad (VS.s_pl (VS.s_npc (VS.s_nP (VS.s_gsize (VS.s_gV (VS.s_gT (VS.s_gO (VS.s_gN (VS.s_gA (VS.s_jch (VS.s_jkept (VS.s_writes (VS.s_cutLeft x (cutN x.wjC (nb + 1))) (x.wjW + (nb + 1))) x.wjK) false) ga2) (capR (capR x.gN 0 (cnt (PS k).n (x.sePc (PS k)))) (cnt (PS k).n (x.sePc (PS k))) (cnt (PS (k + 1)).n (x.sePc (PS (k + 1)))))) go2) gt2) gv2) (cnt (PS k).n (x.sePc (PS k)) + cnt (PS (k + 1)).n (x.sePc (PS (k + 1))))) (sfT (va_up x.nP k (some mp)) (k + 1) 1 (x.npc - (k + 2)))) (x.npc - 1)) pl1) (sfT (va_up PS k (mkP (cnt (PS k).n (x.sePc (PS k)) + cnt (PS (k + 1)).n (x.sePc (PS (k + 1)))) O T V)) (k + 1) 1 (x.npc - (k + 2))) (ps_sf1 hk hps1 hpc hok) (show (x.npc - 1) ≤ 32 from by omega) (show x.nsc ≤ 64 from by omega) h7) (q0 := 0) rfl rfl w749 w748 w750 w751 w277 rfl rfl ⟨⟨by decide, by decide⟩, rfl⟩ ⟨(Nat.le_of_ble_eq_true rfl), (Nat.le_of_ble_eq_true rfl)⟩ rfl hl.1 rfl (Nat.le_of_ble_eq_true rfl) d_V_compact_136 ⟨(show 0 + 0 + 0 + (3 * (capR x.gN 0 (cnt (PS k).n (x.sePc (PS k))) - x.gN)) + (3 * (capR (capR x.gN 0 (cnt (PS k).n (x.sePc (PS k)))) (cnt (PS k).n (x.sePc (PS k))) (cnt (PS (k + 1)).n (x.sePc (PS (k + 1)))) - (capR x.gN 0 (cnt (PS k).n (x.sePc (PS k)))))) + 5 + 0 + 0 + 0 + 0 + 0 + 0 + 0 ≤ 3 * (capR (capR x.gN 0 (cnt (PS k).n (x.sePc (PS k)))) (cnt (PS k).n (x.sePc (PS k))) (cnt (PS (k + 1)).n (x.sePc (PS (k + 1)))) - x.gN) + 5 by omega), (show 0 + 0 + 0 + (6 * (capR x.gN 0 (cnt (PS k).n (x.sePc (PS k))) - x.gN)) + (6 * (capR (capR x.gN 0 (cnt (PS k).n (x.sePc (PS k)))) (cnt (PS k).n (x.sePc (PS k))) (cnt (PS (k + 1)).n (x.sePc (PS (k + 1)))) - (capR x.gN 0 (cnt (PS k).n (x.sePc (PS k)))))) + (8 + (3 * (cnt (PS k).n (x.sePc (PS k)) + cnt (PS (k + 1)).n (x.sePc (PS (k + 1)))) + x.nser + 1)) + 0 + 0 + 0 + 0 + 0 + 0 + 0 ≤ 6 * (capR (capR x.gN 0 (cnt (PS k).n (x.sePc (PS k)))) (cnt (PS k).n (x.sePc (PS k))) (cnt (PS (k + 1)).n (x.sePc (PS (k + 1)))) - x.gN) + (8 + (3 * (cnt (PS k).n (x.sePc (PS k)) + cnt (PS (k + 1)).n (x.sePc (PS (k + 1)))) + x.nser + 1)) by omega)⟩) hP hD hS hA (fun u37 H locs hp9 hP hD hS => ?_)
  have hP : va_P D vwCl (VW dA h ad (VS.s_pl (VS.s_shor (VS.s_ssc (VS.s_ssT (VS.s_ssF (VS.s_ssO (VS.s_spc (VS.s_sP (VS.s_nsc (VS.s_nsP (VS.s_nsT (VS.s_nsF (VS.s_nsO (VS.s_npc (VS.s_nP (VS.s_gsize (VS.s_gV (VS.s_gT (VS.s_gO (VS.s_gN (VS.s_gA (VS.s_jch (VS.s_jkept (VS.s_writes (VS.s_cutLeft x (cutN x.wjC (nb + 1))) (x.wjW + (nb + 1))) x.wjK) false) ga2) (capR (capR x.gN 0 (cnt (PS k).n (x.sePc (PS k)))) (cnt (PS k).n (x.sePc (PS k))) (cnt (PS (k + 1)).n (x.sePc (PS (k + 1)))))) go2) gt2) gv2) (cnt (PS k).n (x.sePc (PS k)) + cnt (PS (k + 1)).n (x.sePc (PS (k + 1))))) (sfT (va_up x.nP k (some mp)) (k + 1) 1 (x.npc - (k + 2)))) (x.npc - 1)) (tdT ((VS.s_pl (VS.s_npc (VS.s_nP (VS.s_gsize (VS.s_gV (VS.s_gT (VS.s_gO (VS.s_gN (VS.s_gA (VS.s_jch (VS.s_jkept (VS.s_writes (VS.s_cutLeft x (cutN x.wjC (nb + 1))) (x.wjW + (nb + 1))) x.wjK) false) ga2) (capR (capR x.gN 0 (cnt (PS k).n (x.sePc (PS k)))) (cnt (PS k).n (x.sePc (PS k))) (cnt (PS (k + 1)).n (x.sePc (PS (k + 1)))))) go2) gt2) gv2) (cnt (PS k).n (x.sePc (PS k)) + cnt (PS (k + 1)).n (x.sePc (PS (k + 1))))) (sfT (va_up x.nP k (some mp)) (k + 1) 1 (x.npc - (k + 2)))) (x.npc - 1)) pl1).esC (sfT (va_up PS k (mkP (cnt (PS k).n (x.sePc (PS k)) + cnt (PS (k + 1)).n (x.sePc (PS (k + 1)))) O T V)) (k + 1) 1 (x.npc - (k + 2)))) x.nsO x.nsc)) (tdT ((VS.s_pl (VS.s_npc (VS.s_nP (VS.s_gsize (VS.s_gV (VS.s_gT (VS.s_gO (VS.s_gN (VS.s_gA (VS.s_jch (VS.s_jkept (VS.s_writes (VS.s_cutLeft x (cutN x.wjC (nb + 1))) (x.wjW + (nb + 1))) x.wjK) false) ga2) (capR (capR x.gN 0 (cnt (PS k).n (x.sePc (PS k)))) (cnt (PS k).n (x.sePc (PS k))) (cnt (PS (k + 1)).n (x.sePc (PS (k + 1)))))) go2) gt2) gv2) (cnt (PS k).n (x.sePc (PS k)) + cnt (PS (k + 1)).n (x.sePc (PS (k + 1))))) (sfT (va_up x.nP k (some mp)) (k + 1) 1 (x.npc - (k + 2)))) (x.npc - 1)) pl1).esC (sfT (va_up PS k (mkP (cnt (PS k).n (x.sePc (PS k)) + cnt (PS (k + 1)).n (x.sePc (PS (k + 1)))) O T V)) (k + 1) 1 (x.npc - (k + 2)))) x.nsF x.nsc)) (tdT ((VS.s_pl (VS.s_npc (VS.s_nP (VS.s_gsize (VS.s_gV (VS.s_gT (VS.s_gO (VS.s_gN (VS.s_gA (VS.s_jch (VS.s_jkept (VS.s_writes (VS.s_cutLeft x (cutN x.wjC (nb + 1))) (x.wjW + (nb + 1))) x.wjK) false) ga2) (capR (capR x.gN 0 (cnt (PS k).n (x.sePc (PS k)))) (cnt (PS k).n (x.sePc (PS k))) (cnt (PS (k + 1)).n (x.sePc (PS (k + 1)))))) go2) gt2) gv2) (cnt (PS k).n (x.sePc (PS k)) + cnt (PS (k + 1)).n (x.sePc (PS (k + 1))))) (sfT (va_up x.nP k (some mp)) (k + 1) 1 (x.npc - (k + 2)))) (x.npc - 1)) pl1).esC (sfT (va_up PS k (mkP (cnt (PS k).n (x.sePc (PS k)) + cnt (PS (k + 1)).n (x.sePc (PS (k + 1)))) O T V)) (k + 1) 1 (x.npc - (k + 2)))) x.nsT x.nsc)) ((VS.s_pl (VS.s_npc (VS.s_nP (VS.s_gsize (VS.s_gV (VS.s_gT (VS.s_gO (VS.s_gN (VS.s_gA (VS.s_jch (VS.s_jkept (VS.s_writes (VS.s_cutLeft x (cutN x.wjC (nb + 1))) (x.wjW + (nb + 1))) x.wjK) false) ga2) (capR (capR x.gN 0 (cnt (PS k).n (x.sePc (PS k)))) (cnt (PS k).n (x.sePc (PS k))) (cnt (PS (k + 1)).n (x.sePc (PS (k + 1)))))) go2) gt2) gv2) (cnt (PS k).n (x.sePc (PS k)) + cnt (PS (k + 1)).n (x.sePc (PS (k + 1))))) (sfT (va_up x.nP k (some mp)) (k + 1) 1 (x.npc - (k + 2)))) (x.npc - 1)) pl1).esG (sfT (va_up PS k (mkP (cnt (PS k).n (x.sePc (PS k)) + cnt (PS (k + 1)).n (x.sePc (PS (k + 1)))) O T V)) (k + 1) 1 (x.npc - (k + 2))))) (cnt x.nsc ((VS.s_pl (VS.s_npc (VS.s_nP (VS.s_gsize (VS.s_gV (VS.s_gT (VS.s_gO (VS.s_gN (VS.s_gA (VS.s_jch (VS.s_jkept (VS.s_writes (VS.s_cutLeft x (cutN x.wjC (nb + 1))) (x.wjW + (nb + 1))) x.wjK) false) ga2) (capR (capR x.gN 0 (cnt (PS k).n (x.sePc (PS k)))) (cnt (PS k).n (x.sePc (PS k))) (cnt (PS (k + 1)).n (x.sePc (PS (k + 1)))))) go2) gt2) gv2) (cnt (PS k).n (x.sePc (PS k)) + cnt (PS (k + 1)).n (x.sePc (PS (k + 1))))) (sfT (va_up x.nP k (some mp)) (k + 1) 1 (x.npc - (k + 2)))) (x.npc - 1)) pl1).esC (sfT (va_up PS k (mkP (cnt (PS k).n (x.sePc (PS k)) + cnt (PS (k + 1)).n (x.sePc (PS (k + 1)))) O T V)) (k + 1) 1 (x.npc - (k + 2)))))) (va_cpy (sfT (va_up x.nP k (some mp)) (k + 1) 1 (x.npc - (k + 2))) x.sP 0 0 (x.npc - 1))) (x.npc - 1)) (va_cpy (tdT ((VS.s_pl (VS.s_npc (VS.s_nP (VS.s_gsize (VS.s_gV (VS.s_gT (VS.s_gO (VS.s_gN (VS.s_gA (VS.s_jch (VS.s_jkept (VS.s_writes (VS.s_cutLeft x (cutN x.wjC (nb + 1))) (x.wjW + (nb + 1))) x.wjK) false) ga2) (capR (capR x.gN 0 (cnt (PS k).n (x.sePc (PS k)))) (cnt (PS k).n (x.sePc (PS k))) (cnt (PS (k + 1)).n (x.sePc (PS (k + 1)))))) go2) gt2) gv2) (cnt (PS k).n (x.sePc (PS k)) + cnt (PS (k + 1)).n (x.sePc (PS (k + 1))))) (sfT (va_up x.nP k (some mp)) (k + 1) 1 (x.npc - (k + 2)))) (x.npc - 1)) pl1).esC (sfT (va_up PS k (mkP (cnt (PS k).n (x.sePc (PS k)) + cnt (PS (k + 1)).n (x.sePc (PS (k + 1)))) O T V)) (k + 1) 1 (x.npc - (k + 2)))) x.nsO x.nsc) x.ssO 0 0 (cnt x.nsc ((VS.s_pl (VS.s_npc (VS.s_nP (VS.s_gsize (VS.s_gV (VS.s_gT (VS.s_gO (VS.s_gN (VS.s_gA (VS.s_jch (VS.s_jkept (VS.s_writes (VS.s_cutLeft x (cutN x.wjC (nb + 1))) (x.wjW + (nb + 1))) x.wjK) false) ga2) (capR (capR x.gN 0 (cnt (PS k).n (x.sePc (PS k)))) (cnt (PS k).n (x.sePc (PS k))) (cnt (PS (k + 1)).n (x.sePc (PS (k + 1)))))) go2) gt2) gv2) (cnt (PS k).n (x.sePc (PS k)) + cnt (PS (k + 1)).n (x.sePc (PS (k + 1))))) (sfT (va_up x.nP k (some mp)) (k + 1) 1 (x.npc - (k + 2)))) (x.npc - 1)) pl1).esC (sfT (va_up PS k (mkP (cnt (PS k).n (x.sePc (PS k)) + cnt (PS (k + 1)).n (x.sePc (PS (k + 1)))) O T V)) (k + 1) 1 (x.npc - (k + 2))))))) (va_cpy (tdT ((VS.s_pl (VS.s_npc (VS.s_nP (VS.s_gsize (VS.s_gV (VS.s_gT (VS.s_gO (VS.s_gN (VS.s_gA (VS.s_jch (VS.s_jkept (VS.s_writes (VS.s_cutLeft x (cutN x.wjC (nb + 1))) (x.wjW + (nb + 1))) x.wjK) false) ga2) (capR (capR x.gN 0 (cnt (PS k).n (x.sePc (PS k)))) (cnt (PS k).n (x.sePc (PS k))) (cnt (PS (k + 1)).n (x.sePc (PS (k + 1)))))) go2) gt2) gv2) (cnt (PS k).n (x.sePc (PS k)) + cnt (PS (k + 1)).n (x.sePc (PS (k + 1))))) (sfT (va_up x.nP k (some mp)) (k + 1) 1 (x.npc - (k + 2)))) (x.npc - 1)) pl1).esC (sfT (va_up PS k (mkP (cnt (PS k).n (x.sePc (PS k)) + cnt (PS (k + 1)).n (x.sePc (PS (k + 1)))) O T V)) (k + 1) 1 (x.npc - (k + 2)))) x.nsF x.nsc) x.ssF 0 0 (cnt x.nsc ((VS.s_pl (VS.s_npc (VS.s_nP (VS.s_gsize (VS.s_gV (VS.s_gT (VS.s_gO (VS.s_gN (VS.s_gA (VS.s_jch (VS.s_jkept (VS.s_writes (VS.s_cutLeft x (cutN x.wjC (nb + 1))) (x.wjW + (nb + 1))) x.wjK) false) ga2) (capR (capR x.gN 0 (cnt (PS k).n (x.sePc (PS k)))) (cnt (PS k).n (x.sePc (PS k))) (cnt (PS (k + 1)).n (x.sePc (PS (k + 1)))))) go2) gt2) gv2) (cnt (PS k).n (x.sePc (PS k)) + cnt (PS (k + 1)).n (x.sePc (PS (k + 1))))) (sfT (va_up x.nP k (some mp)) (k + 1) 1 (x.npc - (k + 2)))) (x.npc - 1)) pl1).esC (sfT (va_up PS k (mkP (cnt (PS k).n (x.sePc (PS k)) + cnt (PS (k + 1)).n (x.sePc (PS (k + 1)))) O T V)) (k + 1) 1 (x.npc - (k + 2))))))) (va_cpy (tdT ((VS.s_pl (VS.s_npc (VS.s_nP (VS.s_gsize (VS.s_gV (VS.s_gT (VS.s_gO (VS.s_gN (VS.s_gA (VS.s_jch (VS.s_jkept (VS.s_writes (VS.s_cutLeft x (cutN x.wjC (nb + 1))) (x.wjW + (nb + 1))) x.wjK) false) ga2) (capR (capR x.gN 0 (cnt (PS k).n (x.sePc (PS k)))) (cnt (PS k).n (x.sePc (PS k))) (cnt (PS (k + 1)).n (x.sePc (PS (k + 1)))))) go2) gt2) gv2) (cnt (PS k).n (x.sePc (PS k)) + cnt (PS (k + 1)).n (x.sePc (PS (k + 1))))) (sfT (va_up x.nP k (some mp)) (k + 1) 1 (x.npc - (k + 2)))) (x.npc - 1)) pl1).esC (sfT (va_up PS k (mkP (cnt (PS k).n (x.sePc (PS k)) + cnt (PS (k + 1)).n (x.sePc (PS (k + 1)))) O T V)) (k + 1) 1 (x.npc - (k + 2)))) x.nsT x.nsc) x.ssT 0 0 (cnt x.nsc ((VS.s_pl (VS.s_npc (VS.s_nP (VS.s_gsize (VS.s_gV (VS.s_gT (VS.s_gO (VS.s_gN (VS.s_gA (VS.s_jch (VS.s_jkept (VS.s_writes (VS.s_cutLeft x (cutN x.wjC (nb + 1))) (x.wjW + (nb + 1))) x.wjK) false) ga2) (capR (capR x.gN 0 (cnt (PS k).n (x.sePc (PS k)))) (cnt (PS k).n (x.sePc (PS k))) (cnt (PS (k + 1)).n (x.sePc (PS (k + 1)))))) go2) gt2) gv2) (cnt (PS k).n (x.sePc (PS k)) + cnt (PS (k + 1)).n (x.sePc (PS (k + 1))))) (sfT (va_up x.nP k (some mp)) (k + 1) 1 (x.npc - (k + 2)))) (x.npc - 1)) pl1).esC (sfT (va_up PS k (mkP (cnt (PS k).n (x.sePc (PS k)) + cnt (PS (k + 1)).n (x.sePc (PS (k + 1)))) O T V)) (k + 1) 1 (x.npc - (k + 2))))))) (cnt x.nsc ((VS.s_pl (VS.s_npc (VS.s_nP (VS.s_gsize (VS.s_gV (VS.s_gT (VS.s_gO (VS.s_gN (VS.s_gA (VS.s_jch (VS.s_jkept (VS.s_writes (VS.s_cutLeft x (cutN x.wjC (nb + 1))) (x.wjW + (nb + 1))) x.wjK) false) ga2) (capR (capR x.gN 0 (cnt (PS k).n (x.sePc (PS k)))) (cnt (PS k).n (x.sePc (PS k))) (cnt (PS (k + 1)).n (x.sePc (PS (k + 1)))))) go2) gt2) gv2) (cnt (PS k).n (x.sePc (PS k)) + cnt (PS (k + 1)).n (x.sePc (PS (k + 1))))) (sfT (va_up x.nP k (some mp)) (k + 1) 1 (x.npc - (k + 2)))) (x.npc - 1)) pl1).esC (sfT (va_up PS k (mkP (cnt (PS k).n (x.sePc (PS k)) + cnt (PS (k + 1)).n (x.sePc (PS (k + 1)))) O T V)) (k + 1) 1 (x.npc - (k + 2)))))) x.nhor) pl1)) H := hP
  have hD : va_D A (VW dA h ad (VS.s_pl (VS.s_shor (VS.s_ssc (VS.s_ssT (VS.s_ssF (VS.s_ssO (VS.s_spc (VS.s_sP (VS.s_nsc (VS.s_nsP (VS.s_nsT (VS.s_nsF (VS.s_nsO (VS.s_npc (VS.s_nP (VS.s_gsize (VS.s_gV (VS.s_gT (VS.s_gO (VS.s_gN (VS.s_gA (VS.s_jch (VS.s_jkept (VS.s_writes (VS.s_cutLeft x (cutN x.wjC (nb + 1))) (x.wjW + (nb + 1))) x.wjK) false) ga2) (capR (capR x.gN 0 (cnt (PS k).n (x.sePc (PS k)))) (cnt (PS k).n (x.sePc (PS k))) (cnt (PS (k + 1)).n (x.sePc (PS (k + 1)))))) go2) gt2) gv2) (cnt (PS k).n (x.sePc (PS k)) + cnt (PS (k + 1)).n (x.sePc (PS (k + 1))))) (sfT (va_up x.nP k (some mp)) (k + 1) 1 (x.npc - (k + 2)))) (x.npc - 1)) (tdT ((VS.s_pl (VS.s_npc (VS.s_nP (VS.s_gsize (VS.s_gV (VS.s_gT (VS.s_gO (VS.s_gN (VS.s_gA (VS.s_jch (VS.s_jkept (VS.s_writes (VS.s_cutLeft x (cutN x.wjC (nb + 1))) (x.wjW + (nb + 1))) x.wjK) false) ga2) (capR (capR x.gN 0 (cnt (PS k).n (x.sePc (PS k)))) (cnt (PS k).n (x.sePc (PS k))) (cnt (PS (k + 1)).n (x.sePc (PS (k + 1)))))) go2) gt2) gv2) (cnt (PS k).n (x.sePc (PS k)) + cnt (PS (k + 1)).n (x.sePc (PS (k + 1))))) (sfT (va_up x.nP k (some mp)) (k + 1) 1 (x.npc - (k + 2)))) (x.npc - 1)) pl1).esC (sfT (va_up PS k (mkP (cnt (PS k).n (x.sePc (PS k)) + cnt (PS (k + 1)).n (x.sePc (PS (k + 1)))) O T V)) (k + 1) 1 (x.npc - (k + 2)))) x.nsO x.nsc)) (tdT ((VS.s_pl (VS.s_npc (VS.s_nP (VS.s_gsize (VS.s_gV (VS.s_gT (VS.s_gO (VS.s_gN (VS.s_gA (VS.s_jch (VS.s_jkept (VS.s_writes (VS.s_cutLeft x (cutN x.wjC (nb + 1))) (x.wjW + (nb + 1))) x.wjK) false) ga2) (capR (capR x.gN 0 (cnt (PS k).n (x.sePc (PS k)))) (cnt (PS k).n (x.sePc (PS k))) (cnt (PS (k + 1)).n (x.sePc (PS (k + 1)))))) go2) gt2) gv2) (cnt (PS k).n (x.sePc (PS k)) + cnt (PS (k + 1)).n (x.sePc (PS (k + 1))))) (sfT (va_up x.nP k (some mp)) (k + 1) 1 (x.npc - (k + 2)))) (x.npc - 1)) pl1).esC (sfT (va_up PS k (mkP (cnt (PS k).n (x.sePc (PS k)) + cnt (PS (k + 1)).n (x.sePc (PS (k + 1)))) O T V)) (k + 1) 1 (x.npc - (k + 2)))) x.nsF x.nsc)) (tdT ((VS.s_pl (VS.s_npc (VS.s_nP (VS.s_gsize (VS.s_gV (VS.s_gT (VS.s_gO (VS.s_gN (VS.s_gA (VS.s_jch (VS.s_jkept (VS.s_writes (VS.s_cutLeft x (cutN x.wjC (nb + 1))) (x.wjW + (nb + 1))) x.wjK) false) ga2) (capR (capR x.gN 0 (cnt (PS k).n (x.sePc (PS k)))) (cnt (PS k).n (x.sePc (PS k))) (cnt (PS (k + 1)).n (x.sePc (PS (k + 1)))))) go2) gt2) gv2) (cnt (PS k).n (x.sePc (PS k)) + cnt (PS (k + 1)).n (x.sePc (PS (k + 1))))) (sfT (va_up x.nP k (some mp)) (k + 1) 1 (x.npc - (k + 2)))) (x.npc - 1)) pl1).esC (sfT (va_up PS k (mkP (cnt (PS k).n (x.sePc (PS k)) + cnt (PS (k + 1)).n (x.sePc (PS (k + 1)))) O T V)) (k + 1) 1 (x.npc - (k + 2)))) x.nsT x.nsc)) ((VS.s_pl (VS.s_npc (VS.s_nP (VS.s_gsize (VS.s_gV (VS.s_gT (VS.s_gO (VS.s_gN (VS.s_gA (VS.s_jch (VS.s_jkept (VS.s_writes (VS.s_cutLeft x (cutN x.wjC (nb + 1))) (x.wjW + (nb + 1))) x.wjK) false) ga2) (capR (capR x.gN 0 (cnt (PS k).n (x.sePc (PS k)))) (cnt (PS k).n (x.sePc (PS k))) (cnt (PS (k + 1)).n (x.sePc (PS (k + 1)))))) go2) gt2) gv2) (cnt (PS k).n (x.sePc (PS k)) + cnt (PS (k + 1)).n (x.sePc (PS (k + 1))))) (sfT (va_up x.nP k (some mp)) (k + 1) 1 (x.npc - (k + 2)))) (x.npc - 1)) pl1).esG (sfT (va_up PS k (mkP (cnt (PS k).n (x.sePc (PS k)) + cnt (PS (k + 1)).n (x.sePc (PS (k + 1)))) O T V)) (k + 1) 1 (x.npc - (k + 2))))) (cnt x.nsc ((VS.s_pl (VS.s_npc (VS.s_nP (VS.s_gsize (VS.s_gV (VS.s_gT (VS.s_gO (VS.s_gN (VS.s_gA (VS.s_jch (VS.s_jkept (VS.s_writes (VS.s_cutLeft x (cutN x.wjC (nb + 1))) (x.wjW + (nb + 1))) x.wjK) false) ga2) (capR (capR x.gN 0 (cnt (PS k).n (x.sePc (PS k)))) (cnt (PS k).n (x.sePc (PS k))) (cnt (PS (k + 1)).n (x.sePc (PS (k + 1)))))) go2) gt2) gv2) (cnt (PS k).n (x.sePc (PS k)) + cnt (PS (k + 1)).n (x.sePc (PS (k + 1))))) (sfT (va_up x.nP k (some mp)) (k + 1) 1 (x.npc - (k + 2)))) (x.npc - 1)) pl1).esC (sfT (va_up PS k (mkP (cnt (PS k).n (x.sePc (PS k)) + cnt (PS (k + 1)).n (x.sePc (PS (k + 1)))) O T V)) (k + 1) 1 (x.npc - (k + 2)))))) (va_cpy (sfT (va_up x.nP k (some mp)) (k + 1) 1 (x.npc - (k + 2))) x.sP 0 0 (x.npc - 1))) (x.npc - 1)) (va_cpy (tdT ((VS.s_pl (VS.s_npc (VS.s_nP (VS.s_gsize (VS.s_gV (VS.s_gT (VS.s_gO (VS.s_gN (VS.s_gA (VS.s_jch (VS.s_jkept (VS.s_writes (VS.s_cutLeft x (cutN x.wjC (nb + 1))) (x.wjW + (nb + 1))) x.wjK) false) ga2) (capR (capR x.gN 0 (cnt (PS k).n (x.sePc (PS k)))) (cnt (PS k).n (x.sePc (PS k))) (cnt (PS (k + 1)).n (x.sePc (PS (k + 1)))))) go2) gt2) gv2) (cnt (PS k).n (x.sePc (PS k)) + cnt (PS (k + 1)).n (x.sePc (PS (k + 1))))) (sfT (va_up x.nP k (some mp)) (k + 1) 1 (x.npc - (k + 2)))) (x.npc - 1)) pl1).esC (sfT (va_up PS k (mkP (cnt (PS k).n (x.sePc (PS k)) + cnt (PS (k + 1)).n (x.sePc (PS (k + 1)))) O T V)) (k + 1) 1 (x.npc - (k + 2)))) x.nsO x.nsc) x.ssO 0 0 (cnt x.nsc ((VS.s_pl (VS.s_npc (VS.s_nP (VS.s_gsize (VS.s_gV (VS.s_gT (VS.s_gO (VS.s_gN (VS.s_gA (VS.s_jch (VS.s_jkept (VS.s_writes (VS.s_cutLeft x (cutN x.wjC (nb + 1))) (x.wjW + (nb + 1))) x.wjK) false) ga2) (capR (capR x.gN 0 (cnt (PS k).n (x.sePc (PS k)))) (cnt (PS k).n (x.sePc (PS k))) (cnt (PS (k + 1)).n (x.sePc (PS (k + 1)))))) go2) gt2) gv2) (cnt (PS k).n (x.sePc (PS k)) + cnt (PS (k + 1)).n (x.sePc (PS (k + 1))))) (sfT (va_up x.nP k (some mp)) (k + 1) 1 (x.npc - (k + 2)))) (x.npc - 1)) pl1).esC (sfT (va_up PS k (mkP (cnt (PS k).n (x.sePc (PS k)) + cnt (PS (k + 1)).n (x.sePc (PS (k + 1)))) O T V)) (k + 1) 1 (x.npc - (k + 2))))))) (va_cpy (tdT ((VS.s_pl (VS.s_npc (VS.s_nP (VS.s_gsize (VS.s_gV (VS.s_gT (VS.s_gO (VS.s_gN (VS.s_gA (VS.s_jch (VS.s_jkept (VS.s_writes (VS.s_cutLeft x (cutN x.wjC (nb + 1))) (x.wjW + (nb + 1))) x.wjK) false) ga2) (capR (capR x.gN 0 (cnt (PS k).n (x.sePc (PS k)))) (cnt (PS k).n (x.sePc (PS k))) (cnt (PS (k + 1)).n (x.sePc (PS (k + 1)))))) go2) gt2) gv2) (cnt (PS k).n (x.sePc (PS k)) + cnt (PS (k + 1)).n (x.sePc (PS (k + 1))))) (sfT (va_up x.nP k (some mp)) (k + 1) 1 (x.npc - (k + 2)))) (x.npc - 1)) pl1).esC (sfT (va_up PS k (mkP (cnt (PS k).n (x.sePc (PS k)) + cnt (PS (k + 1)).n (x.sePc (PS (k + 1)))) O T V)) (k + 1) 1 (x.npc - (k + 2)))) x.nsF x.nsc) x.ssF 0 0 (cnt x.nsc ((VS.s_pl (VS.s_npc (VS.s_nP (VS.s_gsize (VS.s_gV (VS.s_gT (VS.s_gO (VS.s_gN (VS.s_gA (VS.s_jch (VS.s_jkept (VS.s_writes (VS.s_cutLeft x (cutN x.wjC (nb + 1))) (x.wjW + (nb + 1))) x.wjK) false) ga2) (capR (capR x.gN 0 (cnt (PS k).n (x.sePc (PS k)))) (cnt (PS k).n (x.sePc (PS k))) (cnt (PS (k + 1)).n (x.sePc (PS (k + 1)))))) go2) gt2) gv2) (cnt (PS k).n (x.sePc (PS k)) + cnt (PS (k + 1)).n (x.sePc (PS (k + 1))))) (sfT (va_up x.nP k (some mp)) (k + 1) 1 (x.npc - (k + 2)))) (x.npc - 1)) pl1).esC (sfT (va_up PS k (mkP (cnt (PS k).n (x.sePc (PS k)) + cnt (PS (k + 1)).n (x.sePc (PS (k + 1)))) O T V)) (k + 1) 1 (x.npc - (k + 2))))))) (va_cpy (tdT ((VS.s_pl (VS.s_npc (VS.s_nP (VS.s_gsize (VS.s_gV (VS.s_gT (VS.s_gO (VS.s_gN (VS.s_gA (VS.s_jch (VS.s_jkept (VS.s_writes (VS.s_cutLeft x (cutN x.wjC (nb + 1))) (x.wjW + (nb + 1))) x.wjK) false) ga2) (capR (capR x.gN 0 (cnt (PS k).n (x.sePc (PS k)))) (cnt (PS k).n (x.sePc (PS k))) (cnt (PS (k + 1)).n (x.sePc (PS (k + 1)))))) go2) gt2) gv2) (cnt (PS k).n (x.sePc (PS k)) + cnt (PS (k + 1)).n (x.sePc (PS (k + 1))))) (sfT (va_up x.nP k (some mp)) (k + 1) 1 (x.npc - (k + 2)))) (x.npc - 1)) pl1).esC (sfT (va_up PS k (mkP (cnt (PS k).n (x.sePc (PS k)) + cnt (PS (k + 1)).n (x.sePc (PS (k + 1)))) O T V)) (k + 1) 1 (x.npc - (k + 2)))) x.nsT x.nsc) x.ssT 0 0 (cnt x.nsc ((VS.s_pl (VS.s_npc (VS.s_nP (VS.s_gsize (VS.s_gV (VS.s_gT (VS.s_gO (VS.s_gN (VS.s_gA (VS.s_jch (VS.s_jkept (VS.s_writes (VS.s_cutLeft x (cutN x.wjC (nb + 1))) (x.wjW + (nb + 1))) x.wjK) false) ga2) (capR (capR x.gN 0 (cnt (PS k).n (x.sePc (PS k)))) (cnt (PS k).n (x.sePc (PS k))) (cnt (PS (k + 1)).n (x.sePc (PS (k + 1)))))) go2) gt2) gv2) (cnt (PS k).n (x.sePc (PS k)) + cnt (PS (k + 1)).n (x.sePc (PS (k + 1))))) (sfT (va_up x.nP k (some mp)) (k + 1) 1 (x.npc - (k + 2)))) (x.npc - 1)) pl1).esC (sfT (va_up PS k (mkP (cnt (PS k).n (x.sePc (PS k)) + cnt (PS (k + 1)).n (x.sePc (PS (k + 1)))) O T V)) (k + 1) 1 (x.npc - (k + 2))))))) (cnt x.nsc ((VS.s_pl (VS.s_npc (VS.s_nP (VS.s_gsize (VS.s_gV (VS.s_gT (VS.s_gO (VS.s_gN (VS.s_gA (VS.s_jch (VS.s_jkept (VS.s_writes (VS.s_cutLeft x (cutN x.wjC (nb + 1))) (x.wjW + (nb + 1))) x.wjK) false) ga2) (capR (capR x.gN 0 (cnt (PS k).n (x.sePc (PS k)))) (cnt (PS k).n (x.sePc (PS k))) (cnt (PS (k + 1)).n (x.sePc (PS (k + 1)))))) go2) gt2) gv2) (cnt (PS k).n (x.sePc (PS k)) + cnt (PS (k + 1)).n (x.sePc (PS (k + 1))))) (sfT (va_up x.nP k (some mp)) (k + 1) 1 (x.npc - (k + 2)))) (x.npc - 1)) pl1).esC (sfT (va_up PS k (mkP (cnt (PS k).n (x.sePc (PS k)) + cnt (PS (k + 1)).n (x.sePc (PS (k + 1)))) O T V)) (k + 1) 1 (x.npc - (k + 2)))))) x.nhor) pl1)) := hD
  refine lv_aload_n hx hb d_V_compact_139 rfl (lv_at hl 2 rfl) ?_
  refine gF (v := .int (nI (x.wjW + (nb + 1)))) hx hb hown hE hK hP 0 rfl rfl layV 7 (by decide) w209 rfl d_V_compact_140 ?_
  refine lv_iload_n hx hb d_V_compact_143 rfl (lv_at hl 0 rfl) ?_
  refine lv_isub hx hb d_V_compact_144 (tpi (y := nI ((x.wjW + (nb + 1)) - x.writes)) (pk_sub (a := x.wjW + (nb + 1)) (b := x.writes) (by omega)) ?_)
  exact rfI hx hb hr hlk hS (VS.s_pl (VS.s_shor (VS.s_ssc (VS.s_ssT (VS.s_ssF (VS.s_ssO (VS.s_spc (VS.s_sP (VS.s_nsc (VS.s_nsP (VS.s_nsT (VS.s_nsF (VS.s_nsO (VS.s_npc (VS.s_nP (VS.s_gsize (VS.s_gV (VS.s_gT (VS.s_gO (VS.s_gN (VS.s_gA (VS.s_jch (VS.s_jkept (VS.s_writes (VS.s_cutLeft x (cutN x.wjC (nb + 1))) (x.wjW + (nb + 1))) x.wjK) false) ga2) (capR (capR x.gN 0 (cnt (PS k).n (x.sePc (PS k)))) (cnt (PS k).n (x.sePc (PS k))) (cnt (PS (k + 1)).n (x.sePc (PS (k + 1)))))) go2) gt2) gv2) (cnt (PS k).n (x.sePc (PS k)) + cnt (PS (k + 1)).n (x.sePc (PS (k + 1))))) (sfT (va_up x.nP k (some mp)) (k + 1) 1 (x.npc - (k + 2)))) (x.npc - 1)) (tdT ((VS.s_pl (VS.s_npc (VS.s_nP (VS.s_gsize (VS.s_gV (VS.s_gT (VS.s_gO (VS.s_gN (VS.s_gA (VS.s_jch (VS.s_jkept (VS.s_writes (VS.s_cutLeft x (cutN x.wjC (nb + 1))) (x.wjW + (nb + 1))) x.wjK) false) ga2) (capR (capR x.gN 0 (cnt (PS k).n (x.sePc (PS k)))) (cnt (PS k).n (x.sePc (PS k))) (cnt (PS (k + 1)).n (x.sePc (PS (k + 1)))))) go2) gt2) gv2) (cnt (PS k).n (x.sePc (PS k)) + cnt (PS (k + 1)).n (x.sePc (PS (k + 1))))) (sfT (va_up x.nP k (some mp)) (k + 1) 1 (x.npc - (k + 2)))) (x.npc - 1)) pl1).esC (sfT (va_up PS k (mkP (cnt (PS k).n (x.sePc (PS k)) + cnt (PS (k + 1)).n (x.sePc (PS (k + 1)))) O T V)) (k + 1) 1 (x.npc - (k + 2)))) x.nsO x.nsc)) (tdT ((VS.s_pl (VS.s_npc (VS.s_nP (VS.s_gsize (VS.s_gV (VS.s_gT (VS.s_gO (VS.s_gN (VS.s_gA (VS.s_jch (VS.s_jkept (VS.s_writes (VS.s_cutLeft x (cutN x.wjC (nb + 1))) (x.wjW + (nb + 1))) x.wjK) false) ga2) (capR (capR x.gN 0 (cnt (PS k).n (x.sePc (PS k)))) (cnt (PS k).n (x.sePc (PS k))) (cnt (PS (k + 1)).n (x.sePc (PS (k + 1)))))) go2) gt2) gv2) (cnt (PS k).n (x.sePc (PS k)) + cnt (PS (k + 1)).n (x.sePc (PS (k + 1))))) (sfT (va_up x.nP k (some mp)) (k + 1) 1 (x.npc - (k + 2)))) (x.npc - 1)) pl1).esC (sfT (va_up PS k (mkP (cnt (PS k).n (x.sePc (PS k)) + cnt (PS (k + 1)).n (x.sePc (PS (k + 1)))) O T V)) (k + 1) 1 (x.npc - (k + 2)))) x.nsF x.nsc)) (tdT ((VS.s_pl (VS.s_npc (VS.s_nP (VS.s_gsize (VS.s_gV (VS.s_gT (VS.s_gO (VS.s_gN (VS.s_gA (VS.s_jch (VS.s_jkept (VS.s_writes (VS.s_cutLeft x (cutN x.wjC (nb + 1))) (x.wjW + (nb + 1))) x.wjK) false) ga2) (capR (capR x.gN 0 (cnt (PS k).n (x.sePc (PS k)))) (cnt (PS k).n (x.sePc (PS k))) (cnt (PS (k + 1)).n (x.sePc (PS (k + 1)))))) go2) gt2) gv2) (cnt (PS k).n (x.sePc (PS k)) + cnt (PS (k + 1)).n (x.sePc (PS (k + 1))))) (sfT (va_up x.nP k (some mp)) (k + 1) 1 (x.npc - (k + 2)))) (x.npc - 1)) pl1).esC (sfT (va_up PS k (mkP (cnt (PS k).n (x.sePc (PS k)) + cnt (PS (k + 1)).n (x.sePc (PS (k + 1)))) O T V)) (k + 1) 1 (x.npc - (k + 2)))) x.nsT x.nsc)) ((VS.s_pl (VS.s_npc (VS.s_nP (VS.s_gsize (VS.s_gV (VS.s_gT (VS.s_gO (VS.s_gN (VS.s_gA (VS.s_jch (VS.s_jkept (VS.s_writes (VS.s_cutLeft x (cutN x.wjC (nb + 1))) (x.wjW + (nb + 1))) x.wjK) false) ga2) (capR (capR x.gN 0 (cnt (PS k).n (x.sePc (PS k)))) (cnt (PS k).n (x.sePc (PS k))) (cnt (PS (k + 1)).n (x.sePc (PS (k + 1)))))) go2) gt2) gv2) (cnt (PS k).n (x.sePc (PS k)) + cnt (PS (k + 1)).n (x.sePc (PS (k + 1))))) (sfT (va_up x.nP k (some mp)) (k + 1) 1 (x.npc - (k + 2)))) (x.npc - 1)) pl1).esG (sfT (va_up PS k (mkP (cnt (PS k).n (x.sePc (PS k)) + cnt (PS (k + 1)).n (x.sePc (PS (k + 1)))) O T V)) (k + 1) 1 (x.npc - (k + 2))))) (cnt x.nsc ((VS.s_pl (VS.s_npc (VS.s_nP (VS.s_gsize (VS.s_gV (VS.s_gT (VS.s_gO (VS.s_gN (VS.s_gA (VS.s_jch (VS.s_jkept (VS.s_writes (VS.s_cutLeft x (cutN x.wjC (nb + 1))) (x.wjW + (nb + 1))) x.wjK) false) ga2) (capR (capR x.gN 0 (cnt (PS k).n (x.sePc (PS k)))) (cnt (PS k).n (x.sePc (PS k))) (cnt (PS (k + 1)).n (x.sePc (PS (k + 1)))))) go2) gt2) gv2) (cnt (PS k).n (x.sePc (PS k)) + cnt (PS (k + 1)).n (x.sePc (PS (k + 1))))) (sfT (va_up x.nP k (some mp)) (k + 1) 1 (x.npc - (k + 2)))) (x.npc - 1)) pl1).esC (sfT (va_up PS k (mkP (cnt (PS k).n (x.sePc (PS k)) + cnt (PS (k + 1)).n (x.sePc (PS (k + 1)))) O T V)) (k + 1) 1 (x.npc - (k + 2)))))) (va_cpy (sfT (va_up x.nP k (some mp)) (k + 1) 1 (x.npc - (k + 2))) x.sP 0 0 (x.npc - 1))) (x.npc - 1)) (va_cpy (tdT ((VS.s_pl (VS.s_npc (VS.s_nP (VS.s_gsize (VS.s_gV (VS.s_gT (VS.s_gO (VS.s_gN (VS.s_gA (VS.s_jch (VS.s_jkept (VS.s_writes (VS.s_cutLeft x (cutN x.wjC (nb + 1))) (x.wjW + (nb + 1))) x.wjK) false) ga2) (capR (capR x.gN 0 (cnt (PS k).n (x.sePc (PS k)))) (cnt (PS k).n (x.sePc (PS k))) (cnt (PS (k + 1)).n (x.sePc (PS (k + 1)))))) go2) gt2) gv2) (cnt (PS k).n (x.sePc (PS k)) + cnt (PS (k + 1)).n (x.sePc (PS (k + 1))))) (sfT (va_up x.nP k (some mp)) (k + 1) 1 (x.npc - (k + 2)))) (x.npc - 1)) pl1).esC (sfT (va_up PS k (mkP (cnt (PS k).n (x.sePc (PS k)) + cnt (PS (k + 1)).n (x.sePc (PS (k + 1)))) O T V)) (k + 1) 1 (x.npc - (k + 2)))) x.nsO x.nsc) x.ssO 0 0 (cnt x.nsc ((VS.s_pl (VS.s_npc (VS.s_nP (VS.s_gsize (VS.s_gV (VS.s_gT (VS.s_gO (VS.s_gN (VS.s_gA (VS.s_jch (VS.s_jkept (VS.s_writes (VS.s_cutLeft x (cutN x.wjC (nb + 1))) (x.wjW + (nb + 1))) x.wjK) false) ga2) (capR (capR x.gN 0 (cnt (PS k).n (x.sePc (PS k)))) (cnt (PS k).n (x.sePc (PS k))) (cnt (PS (k + 1)).n (x.sePc (PS (k + 1)))))) go2) gt2) gv2) (cnt (PS k).n (x.sePc (PS k)) + cnt (PS (k + 1)).n (x.sePc (PS (k + 1))))) (sfT (va_up x.nP k (some mp)) (k + 1) 1 (x.npc - (k + 2)))) (x.npc - 1)) pl1).esC (sfT (va_up PS k (mkP (cnt (PS k).n (x.sePc (PS k)) + cnt (PS (k + 1)).n (x.sePc (PS (k + 1)))) O T V)) (k + 1) 1 (x.npc - (k + 2))))))) (va_cpy (tdT ((VS.s_pl (VS.s_npc (VS.s_nP (VS.s_gsize (VS.s_gV (VS.s_gT (VS.s_gO (VS.s_gN (VS.s_gA (VS.s_jch (VS.s_jkept (VS.s_writes (VS.s_cutLeft x (cutN x.wjC (nb + 1))) (x.wjW + (nb + 1))) x.wjK) false) ga2) (capR (capR x.gN 0 (cnt (PS k).n (x.sePc (PS k)))) (cnt (PS k).n (x.sePc (PS k))) (cnt (PS (k + 1)).n (x.sePc (PS (k + 1)))))) go2) gt2) gv2) (cnt (PS k).n (x.sePc (PS k)) + cnt (PS (k + 1)).n (x.sePc (PS (k + 1))))) (sfT (va_up x.nP k (some mp)) (k + 1) 1 (x.npc - (k + 2)))) (x.npc - 1)) pl1).esC (sfT (va_up PS k (mkP (cnt (PS k).n (x.sePc (PS k)) + cnt (PS (k + 1)).n (x.sePc (PS (k + 1)))) O T V)) (k + 1) 1 (x.npc - (k + 2)))) x.nsF x.nsc) x.ssF 0 0 (cnt x.nsc ((VS.s_pl (VS.s_npc (VS.s_nP (VS.s_gsize (VS.s_gV (VS.s_gT (VS.s_gO (VS.s_gN (VS.s_gA (VS.s_jch (VS.s_jkept (VS.s_writes (VS.s_cutLeft x (cutN x.wjC (nb + 1))) (x.wjW + (nb + 1))) x.wjK) false) ga2) (capR (capR x.gN 0 (cnt (PS k).n (x.sePc (PS k)))) (cnt (PS k).n (x.sePc (PS k))) (cnt (PS (k + 1)).n (x.sePc (PS (k + 1)))))) go2) gt2) gv2) (cnt (PS k).n (x.sePc (PS k)) + cnt (PS (k + 1)).n (x.sePc (PS (k + 1))))) (sfT (va_up x.nP k (some mp)) (k + 1) 1 (x.npc - (k + 2)))) (x.npc - 1)) pl1).esC (sfT (va_up PS k (mkP (cnt (PS k).n (x.sePc (PS k)) + cnt (PS (k + 1)).n (x.sePc (PS (k + 1)))) O T V)) (k + 1) 1 (x.npc - (k + 2))))))) (va_cpy (tdT ((VS.s_pl (VS.s_npc (VS.s_nP (VS.s_gsize (VS.s_gV (VS.s_gT (VS.s_gO (VS.s_gN (VS.s_gA (VS.s_jch (VS.s_jkept (VS.s_writes (VS.s_cutLeft x (cutN x.wjC (nb + 1))) (x.wjW + (nb + 1))) x.wjK) false) ga2) (capR (capR x.gN 0 (cnt (PS k).n (x.sePc (PS k)))) (cnt (PS k).n (x.sePc (PS k))) (cnt (PS (k + 1)).n (x.sePc (PS (k + 1)))))) go2) gt2) gv2) (cnt (PS k).n (x.sePc (PS k)) + cnt (PS (k + 1)).n (x.sePc (PS (k + 1))))) (sfT (va_up x.nP k (some mp)) (k + 1) 1 (x.npc - (k + 2)))) (x.npc - 1)) pl1).esC (sfT (va_up PS k (mkP (cnt (PS k).n (x.sePc (PS k)) + cnt (PS (k + 1)).n (x.sePc (PS (k + 1)))) O T V)) (k + 1) 1 (x.npc - (k + 2)))) x.nsT x.nsc) x.ssT 0 0 (cnt x.nsc ((VS.s_pl (VS.s_npc (VS.s_nP (VS.s_gsize (VS.s_gV (VS.s_gT (VS.s_gO (VS.s_gN (VS.s_gA (VS.s_jch (VS.s_jkept (VS.s_writes (VS.s_cutLeft x (cutN x.wjC (nb + 1))) (x.wjW + (nb + 1))) x.wjK) false) ga2) (capR (capR x.gN 0 (cnt (PS k).n (x.sePc (PS k)))) (cnt (PS k).n (x.sePc (PS k))) (cnt (PS (k + 1)).n (x.sePc (PS (k + 1)))))) go2) gt2) gv2) (cnt (PS k).n (x.sePc (PS k)) + cnt (PS (k + 1)).n (x.sePc (PS (k + 1))))) (sfT (va_up x.nP k (some mp)) (k + 1) 1 (x.npc - (k + 2)))) (x.npc - 1)) pl1).esC (sfT (va_up PS k (mkP (cnt (PS k).n (x.sePc (PS k)) + cnt (PS (k + 1)).n (x.sePc (PS (k + 1)))) O T V)) (k + 1) 1 (x.npc - (k + 2))))))) (cnt x.nsc ((VS.s_pl (VS.s_npc (VS.s_nP (VS.s_gsize (VS.s_gV (VS.s_gT (VS.s_gO (VS.s_gN (VS.s_gA (VS.s_jch (VS.s_jkept (VS.s_writes (VS.s_cutLeft x (cutN x.wjC (nb + 1))) (x.wjW + (nb + 1))) x.wjK) false) ga2) (capR (capR x.gN 0 (cnt (PS k).n (x.sePc (PS k)))) (cnt (PS k).n (x.sePc (PS k))) (cnt (PS (k + 1)).n (x.sePc (PS (k + 1)))))) go2) gt2) gv2) (cnt (PS k).n (x.sePc (PS k)) + cnt (PS (k + 1)).n (x.sePc (PS (k + 1))))) (sfT (va_up x.nP k (some mp)) (k + 1) 1 (x.npc - (k + 2)))) (x.npc - 1)) pl1).esC (sfT (va_up PS k (mkP (cnt (PS k).n (x.sePc (PS k)) + cnt (PS (k + 1)).n (x.sePc (PS (k + 1)))) O T V)) (k + 1) 1 (x.npc - (k + 2)))))) x.nhor) pl1) ⟨rfl, ga2, go2, gt2, gv2, O, T, V, mp, pl1, hgt, f_l1_18, f_l2_19, f_l3_20, f_l4_21, hpc, hsub, rfl⟩ hP hD (show 0 + 0 + 0 + (3 * (capR x.gN 0 (cnt (PS k).n (x.sePc (PS k))) - x.gN)) + (3 * (capR (capR x.gN 0 (cnt (PS k).n (x.sePc (PS k)))) (cnt (PS k).n (x.sePc (PS k))) (cnt (PS (k + 1)).n (x.sePc (PS (k + 1)))) - (capR x.gN 0 (cnt (PS k).n (x.sePc (PS k)))))) + 5 + 0 + 0 + 0 + 0 + 0 + 0 + 0 ≤ 3 * (capR (capR x.gN 0 (cnt (PS k).n (x.sePc (PS k)))) (cnt (PS k).n (x.sePc (PS k))) (cnt (PS (k + 1)).n (x.sePc (PS (k + 1)))) - x.gN) + 5 by omega) (show 0 + 0 + 0 + (6 * (capR x.gN 0 (cnt (PS k).n (x.sePc (PS k))) - x.gN)) + (6 * (capR (capR x.gN 0 (cnt (PS k).n (x.sePc (PS k)))) (cnt (PS k).n (x.sePc (PS k))) (cnt (PS (k + 1)).n (x.sePc (PS (k + 1)))) - (capR x.gN 0 (cnt (PS k).n (x.sePc (PS k)))))) + (8 + (3 * (cnt (PS k).n (x.sePc (PS k)) + cnt (PS (k + 1)).n (x.sePc (PS (k + 1)))) + x.nser + 1)) + 0 + 0 + 0 + 0 + 0 + 0 + 0 ≤ 6 * (capR (capR x.gN 0 (cnt (PS k).n (x.sePc (PS k)))) (cnt (PS k).n (x.sePc (PS k))) (cnt (PS (k + 1)).n (x.sePc (PS (k + 1)))) - x.gN) + (8 + (3 * (cnt (PS k).n (x.sePc (PS k)) + cnt (PS (k + 1)).n (x.sePc (PS (k + 1)))) + x.nser + 1)) by omega) d_V_compact_145
theorem d_V_compact_98 : decode prog_1_method_40_code 98 = .ok (.new 76, 3) := by decide +kernel
theorem d_V_compact_101 : decode prog_1_method_40_code 101 = .ok (.dup, 1) := by decide +kernel
theorem d_V_compact_102 : decode prog_1_method_40_code 102 = .ok (.invokespecial 78, 3) := by decide +kernel
theorem d_V_compact_105 : decode prog_1_method_40_code 105 = .ok (.athrow, 1) := by decide +kernel
set_option maxHeartbeats 4000000 in
set_option maxRecDepth 100000 in
theorem v_compact_u1 (l : Launch) (htr : l.stackTraces = false) (D : va_G) (dA : Nat → ClassId) (sz : Nat) (h : Nat) (ad : Nat → Nat) (x : VS) (PS : Nat → PT) (k : Nat) (nb : Nat) (ho : x.powered = true) (hk : k + 2 ≤ x.npc) (hps : psOk dA x.nP x.npc x.pl PS) (hpn : x.npc ≤ 32) (h1 : x.nsc ≤ 64) (h7 : ∀ q : Nat, q < x.nsc → x.nsO q < 2 ^ 31) (hfr : x.jlimit + 2 + (x.ncat + sumN x.npc (blN PS)) ≤ x.diskBlocks) (hn : x.nser ≤ 256) (hdk : x.diskBlocks ≤ 256) (hg0 : 0 < x.gN) (hg1 : capR (capR x.gN 0 (cnt (PS k).n (x.sePc (PS k)))) (cnt (PS k).n (x.sePc (PS k))) (cnt (PS (k + 1)).n (x.sePc (PS (k + 1)))) ≤ 32768) (hwb : x.writes + 1000 < 2 ^ 31) (hpo : ∀ j : Nat, j < x.npc → ∀ i : Nat, i < (PS j).n → (PS j).o i < x.nser) (hz : 0 < (cnt (PS k).n (x.sePc (PS k)) + cnt (PS (k + 1)).n (x.sePc (PS (k + 1))))) (hc12 : (cnt (PS k).n (x.sePc (PS k)) + cnt (PS (k + 1)).n (x.sePc (PS (k + 1)))) ≤ 12000) (hbl : ∀ (gO O : Nat → Nat) (gT gV T V : Nat → Int64), gat2 (x.sePc (PS k)) (x.sePc (PS (k + 1))) (PS k) (PS (k + 1)) gO gT gV → laid gO (cnt (PS k).n (x.sePc (PS k)) + cnt (PS (k + 1)).n (x.sePc (PS (k + 1)))) (cnt (PS k).n (x.sePc (PS k)) + cnt (PS (k + 1)).n (x.sePc (PS (k + 1)))) gO O → laid gO (cnt (PS k).n (x.sePc (PS k)) + cnt (PS (k + 1)).n (x.sePc (PS (k + 1)))) (cnt (PS k).n (x.sePc (PS k)) + cnt (PS (k + 1)).n (x.sePc (PS (k + 1)))) gT T → laid gO (cnt (PS k).n (x.sePc (PS k)) + cnt (PS (k + 1)).n (x.sePc (PS (k + 1)))) (cnt (PS k).n (x.sePc (PS k)) + cnt (PS (k + 1)).n (x.sePc (PS (k + 1)))) gV V → (mkP (cnt (PS k).n (x.sePc (PS k)) + cnt (PS (k + 1)).n (x.sePc (PS (k + 1)))) O T V).bl = nb) (hf : x.fr PS < nb) (hc9 : nb < 2 ^ 31) : mX l ⟨"SeriesVault", "compact", "(I)I"⟩ [Cond.code ⟨"SeriesVault", "compact", "(I)I"⟩ prog_1_method_40_code 4 (some FieldType.int)] { frames := 6, cells := 3 * (capR (capR x.gN 0 (cnt (PS k).n (x.sePc (PS k)))) (cnt (PS k).n (x.sePc (PS k))) (cnt (PS (k + 1)).n (x.sePc (PS (k + 1)))) - x.gN) + 6, slots := 6 * (capR (capR x.gN 0 (cnt (PS k).n (x.sePc (PS k)))) (cnt (PS k).n (x.sePc (PS k))) (cnt (PS (k + 1)).n (x.sePc (PS (k + 1)))) - x.gN) + (14 + (3 * (cnt (PS k).n (x.sePc (PS k)) + cnt (PS (k + 1)).n (x.sePc (PS (k + 1)))) + x.nser + 1)), locals := 124 } (pC D dA [.ref h, .int (nI k)] (VW dA h ad x) sz) "java/lang/UnsupportedOperationException" (fun st9 t9 => va_F (va_A (VW dA h ad x) sz) st9 t9 ∧ ∃ u9 : VS, ((∃ (ga2 go2 : Nat → Nat) (gt2 gv2 : Nat → Int64) (pl1 : va_W), (∀ c, c ∈ x.pl → c ∈ pl1) ∧ u9 = x.cpU PS k ga2 go2 gt2 gv2 pl1)) ∧ bW D (va_A (VW dA h ad x) sz) (VW dA h ad u9) t9) (3 * (capR (capR x.gN 0 (cnt (PS k).n (x.sePc (PS k)))) (cnt (PS k).n (x.sePc (PS k))) (cnt (PS (k + 1)).n (x.sePc (PS (k + 1)))) - x.gN) + 6) (6 * (capR (capR x.gN 0 (cnt (PS k).n (x.sePc (PS k)))) (cnt (PS k).n (x.sePc (PS k))) (cnt (PS (k + 1)).n (x.sePc (PS (k + 1)))) - x.gN) + (14 + (3 * (cnt (PS k).n (x.sePc (PS k)) + cnt (PS (k + 1)).n (x.sePc (PS (k + 1)))) + x.nser + 1))) (va_A (VW dA h ad x) sz) := by
  refine mkX (y := ⟨"SeriesVault", "compact", "(I)I"⟩) (cc := prog_1_method_40_code) (maxL := 4) (av := [.ref h, .int (nI k)]) (ws := VW dA h ad x) (sz := sz) (B := fun A => (fun st9 t9 => va_F A st9 t9 ∧ ∃ u9 : VS, ((∃ (ga2 go2 : Nat → Nat) (gt2 gv2 : Nat → Int64) (pl1 : va_W), (∀ c, c ∈ x.pl → c ∈ pl1) ∧ u9 = x.cpU PS k ga2 go2 gt2 gv2 pl1)) ∧ bW D A (VW dA h ad u9) t9)) (by decide) (Nat.le_of_ble_eq_true rfl) ?_
  intro A p e s m below meth c ls hsz hno hB
  obtain ⟨hx, hb, hr, hml, hown, hin, hlk, hE, hK, hP, hD, hS, hA, hN, hl⟩ := hB
  have hown : s.vm.findClass "SeriesVault" = some m.cls := hown
  have hl : lv_has ls 4 [(0, .ref h), (1, .int (nI k))] := hl
  obtain ⟨H, hH⟩ : ∃ z, z = s.heap := ⟨_, rfl⟩
  have hP : va_P D vwCl (VW dA h ad x) H := by rw [hH]; exact hP
  have hS : va_S A s.heap H [] := by rw [hH]; exact hS
  rw [← hH]
  refine lv_aload_n hx hb d_V_compact_0 rfl (lv_at hl 0 rfl) ?_
  refine jkV (wr := []) (rnV (As := []) (rest := []) hx hb hml hown hE hK (hN _ _ hS) hP hD (v_checkPower l D dA H.size h ad x ho) (q0 := 0) rfl rfl w278 w276 w279 w280 w277 rfl rfl ⟨⟨by decide, by decide⟩, rfl⟩ ⟨(Nat.le_of_ble_eq_true rfl), (Nat.le_of_ble_eq_true rfl)⟩ rfl hl.1 rfl (Nat.le_of_ble_eq_true rfl) d_V_compact_1 ⟨(show 0 + 0 ≤ 3 * (capR (capR x.gN 0 (cnt (PS k).n (x.sePc (PS k)))) (cnt (PS k).n (x.sePc (PS k))) (cnt (PS (k + 1)).n (x.sePc (PS (k + 1)))) - x.gN) + 6 by omega), (show 0 + 0 ≤ 6 * (capR (capR x.gN 0 (cnt (PS k).n (x.sePc (PS k)))) (cnt (PS k).n (x.sePc (PS k))) (cnt (PS (k + 1)).n (x.sePc (PS (k + 1)))) - x.gN) + (14 + (3 * (cnt (PS k).n (x.sePc (PS k)) + cnt (PS (k + 1)).n (x.sePc (PS (k + 1)))) + x.nser + 1)) by omega)⟩) hP hD hS hA (fun u2 H locs hp9 hP hD hS => ?_)
  have hP : va_P D vwCl (VW dA h ad x) H := hP
  have hD : va_D A (VW dA h ad x) := hD
  refine lv_iload_n hx hb d_V_compact_4 rfl (lv_at hl 1 rfl) ?_
  refine lv_if_lt hx hb d_V_compact_5 (tgt := 21) rfl (fun h9 => absurd h9 (nI_pos (n := k) (by omega))) (fun _ => ?_)
  refine lv_iload_n hx hb d_V_compact_8 rfl (lv_at hl 1 rfl) ?_
  refine lv_aload_n hx hb d_V_compact_9 rfl (lv_at hl 0 rfl) ?_
  refine gF (v := .ref (ad 3)) hx hb hown hE hK hP 0 rfl rfl layV 11 (by decide) w297 rfl d_V_compact_10 ?_
  refine gFN (v := .int (nI x.npc)) hx hb hown hE hK hP 17 rfl rfl layH 1 (by decide) w303 rfl d_V_compact_13 ?_
  refine lv_iconst (v := 1) hx hb d_V_compact_16 (by decide) ?_
  refine lv_isub hx hb d_V_compact_17 (tpi (y := nI (x.npc - 1)) (pk_sub (a := x.npc) (b := 1) (by omega)) ?_)
  refine lv_icmp_lt hx hb d_V_compact_18 (tgt := 29) rfl (fun g3 => ?_) (fun g3 => ?_)
  rotate_left
  · have g3 := mt (nI_ltI (a := k) (b := x.npc - 1) (by omega) (by omega)).mpr g3; exfalso; omega
  have g3 := (nI_ltI (a := k) (b := x.npc - 1) (by omega) (by omega)).mp g3
  obtain ⟨pp, ke, hpp, hpk⟩ := hps k (by omega)
  obtain ⟨qq, ke2, hqq, hqk⟩ := hps (k + 1) (by omega)
  have cl1 := cnt_le (PS k).n (x.sePc (PS k))
  have cl2 := cnt_le (PS (k + 1)).n (x.sePc (PS (k + 1)))
  have pk0 := hpk.1
  have qk0 := hqk.1
  have cm1 := capR_m (capR x.gN 0 (cnt (PS k).n (x.sePc (PS k)))) (cnt (PS k).n (x.sePc (PS k))) (Nat.zero_le (cnt (PS (k + 1)).n (x.sePc (PS (k + 1)))))
  have cm2 : capR (capR x.gN 0 (cnt (PS k).n (x.sePc (PS k)))) (cnt (PS k).n (x.sePc (PS k))) 0 = capR x.gN 0 (cnt (PS k).n (x.sePc (PS k))) := rfl
  have cm3 := capR_m x.gN 0 (Nat.zero_le (cnt (PS k).n (x.sePc (PS k))))
  have cm4 : capR x.gN 0 0 = x.gN := rfl
  have hfe : x.fr PS = x.diskBlocks - 2 - x.jlimit - (x.ncat + sumN x.npc (blN PS)) := rfl
  refine lv_aload_n hx hb d_V_compact_29 rfl (lv_at hl 0 rfl) ?_
  refine gF (v := .ref (ad 2)) hx hb hown hE hK hP 0 rfl rfl layV 10 (by decide) w826 rfl d_V_compact_30 ?_
  refine jkV (wr := []) (rnV (As := []) (rest := []) hx hb hml hown hE hK (hN _ _ hS) hP hD (v_pclear_g l D dA H.size h ad x) (q0 := 13) rfl rfl w579 w577 w580 w581 w578 rfl rfl ⟨⟨by decide, by decide⟩, rfl⟩ ⟨(Nat.le_of_ble_eq_true rfl), (Nat.le_of_ble_eq_true rfl)⟩ rfl hl.1 rfl (Nat.le_of_ble_eq_true rfl) d_V_compact_33 ⟨(show 0 + 0 + 0 ≤ 3 * (capR (capR x.gN 0 (cnt (PS k).n (x.sePc (PS k)))) (cnt (PS k).n (x.sePc (PS k))) (cnt (PS (k + 1)).n (x.sePc (PS (k + 1)))) - x.gN) + 6 by omega), (show 0 + 0 + 0 ≤ 6 * (capR (capR x.gN 0 (cnt (PS k).n (x.sePc (PS k)))) (cnt (PS k).n (x.sePc (PS k))) (cnt (PS (k + 1)).n (x.sePc (PS (k + 1)))) - x.gN) + (14 + (3 * (cnt (PS k).n (x.sePc (PS k)) + cnt (PS (k + 1)).n (x.sePc (PS (k + 1)))) + x.nser + 1)) by omega)⟩) hP hD hS hA (fun u5 H locs hp9 hP hD hS => ?_)
  have hP : va_P D vwCl (VW dA h ad (VS.s_gsize x 0)) H := hP
  have hD : va_D A (VW dA h ad (VS.s_gsize x 0)) := hD
  refine lv_aload_n hx hb d_V_compact_36 rfl (lv_at hl 0 rfl) ?_
  refine gF (v := .ref (ad 3)) hx hb hown hE hK hP 0 rfl rfl layV 11 (by decide) w297 rfl d_V_compact_37 ?_
  refine lv_aload_n hx hb d_V_compact_40 rfl (lv_at hl 0 rfl) ?_
  refine gF (v := .ref (ad 3)) hx hb hown hE hK hP 0 rfl rfl layV 11 (by decide) w297 rfl d_V_compact_41 ?_
  refine gFN (v := .ref (ad 4)) hx hb hown hE hK hP 17 rfl rfl layH 0 (by decide) w1347 rfl d_V_compact_44 ?_
  refine lv_iload_n hx hb d_V_compact_47 rfl (lv_at hl 1 rfl) ?_
  refine nqld (f := x.nP) (n := 32) hx hb hK hP (18) 4 rfl rfl (k) (by omega) (by decide) ke d_V_compact_48 ?_
  refine lv_aload_n hx hb d_V_compact_49 rfl (lv_at hl 0 rfl) ?_
  refine gF (v := .ref (ad 2)) hx hb hown hE hK hP 0 rfl rfl layV 10 (by decide) w826 rfl d_V_compact_50 ?_
  refine jkV (wr := []) (rnV (As := [.ref pp, .ref (ad 2)]) (rest := []) hx hb hml hown hE hK (hN _ _ hS) hP hD (v_gatherSeen l D dA H.size h ad (VS.s_gsize x 0) pp (PS k) hpp hpk (show x.nsc ≤ 64 from by omega) h7 (Nat.zero_le _) (show 0 < x.gN from by omega) (show capR x.gN 0 (cnt (PS k).n (x.sePc (PS k))) ≤ 32768 from by omega)) (q0 := 17) rfl rfl w1751 w1750 w1752 w1753 w583 rfl rfl ⟨⟨by decide, by decide⟩, rfl⟩ ⟨(Nat.le_of_ble_eq_true rfl), (Nat.le_of_ble_eq_true rfl)⟩ rfl hl.1 rfl (Nat.le_of_ble_eq_true rfl) d_V_compact_53 ⟨(show 0 + 0 + 0 + (3 * (capR x.gN 0 (cnt (PS k).n (x.sePc (PS k))) - x.gN)) ≤ 3 * (capR (capR x.gN 0 (cnt (PS k).n (x.sePc (PS k)))) (cnt (PS k).n (x.sePc (PS k))) (cnt (PS (k + 1)).n (x.sePc (PS (k + 1)))) - x.gN) + 6 by omega), (show 0 + 0 + 0 + (6 * (capR x.gN 0 (cnt (PS k).n (x.sePc (PS k))) - x.gN)) ≤ 6 * (capR (capR x.gN 0 (cnt (PS k).n (x.sePc (PS k)))) (cnt (PS k).n (x.sePc (PS k))) (cnt (PS (k + 1)).n (x.sePc (PS (k + 1)))) - x.gN) + (14 + (3 * (cnt (PS k).n (x.sePc (PS k)) + cnt (PS (k + 1)).n (x.sePc (PS (k + 1)))) + x.nser + 1)) by omega)⟩) hP hD hS hA (fun u7 H locs hp9 hP hD hS => ?_)
  obtain ⟨y8, h9u⟩ : ∃ z9, z9 = u7 := ⟨_, rfl⟩
  subst h9u
  have hP : va_P D vwCl (VW dA h ad y8) H := hP
  have hD : va_D A (VW dA h ad y8) := hD
  have f_g_9 := hp9
  obtain ⟨ga, gn, go, gt, gv, gz, ey, z1, z2, z3, z4, z5⟩ := gaR_u f_g_9
  subst ey
  have hP : va_P D vwCl (VW dA h ad (VS.s_gsize (VS.s_gV (VS.s_gT (VS.s_gO (VS.s_gN (VS.s_gA x ga) gn) go) gt) gv) gz)) H := hP
  have hD : va_D A (VW dA h ad (VS.s_gsize (VS.s_gV (VS.s_gT (VS.s_gO (VS.s_gN (VS.s_gA x ga) gn) go) gt) gv) gz)) := hD
  have z1 : gz = cnt (PS k).n (x.sePc (PS k)) := z1.trans (Nat.zero_add _)
  have z3 : gn = capR x.gN 0 (cnt (PS k).n (x.sePc (PS k))) := z3
  have z5a : ∀ j, j < (PS k).n → x.sePc (PS k) j = true → go (0 + cnt j (x.sePc (PS k))) = (PS k).o j ∧ gt (0 + cnt j (x.sePc (PS k))) = (PS k).t j ∧ gv (0 + cnt j (x.sePc (PS k))) = (PS k).v j := z5
  have z2a := z2
  subst z1
  subst z3
  have hP : va_P D vwCl (VW dA h ad (VS.s_gsize (VS.s_gV (VS.s_gT (VS.s_gO (VS.s_gN (VS.s_gA x ga) (capR x.gN 0 (cnt (PS k).n (x.sePc (PS k))))) go) gt) gv) (cnt (PS k).n (x.sePc (PS k))))) H := hP
  have hD : va_D A (VW dA h ad (VS.s_gsize (VS.s_gV (VS.s_gT (VS.s_gO (VS.s_gN (VS.s_gA x ga) (capR x.gN 0 (cnt (PS k).n (x.sePc (PS k))))) go) gt) gv) (cnt (PS k).n (x.sePc (PS k))))) := hD
  refine lv_aload_n hx hb d_V_compact_56 rfl (lv_at hl 0 rfl) ?_
  refine gF (v := .ref (ad 3)) hx hb hown hE hK hP 0 rfl rfl layV 11 (by decide) w297 rfl d_V_compact_57 ?_
  refine lv_aload_n hx hb d_V_compact_60 rfl (lv_at hl 0 rfl) ?_
  refine gF (v := .ref (ad 3)) hx hb hown hE hK hP 0 rfl rfl layV 11 (by decide) w297 rfl d_V_compact_61 ?_
  refine gFN (v := .ref (ad 4)) hx hb hown hE hK hP 17 rfl rfl layH 0 (by decide) w1347 rfl d_V_compact_64 ?_
  refine lv_iload_n hx hb d_V_compact_67 rfl (lv_at hl 1 rfl) ?_
  refine lv_iconst (v := 1) hx hb d_V_compact_68 (by decide) ?_
  refine lv_iadd hx hb d_V_compact_69 (tpi (y := nI (k + 1)) (nI_add (k) (1)) ?_)
  refine nqld (f := x.nP) (n := 32) hx hb hK hP (18) 4 rfl rfl (k + 1) (by omega) (by decide) ke2 d_V_compact_70 ?_
  refine lv_aload_n hx hb d_V_compact_71 rfl (lv_at hl 0 rfl) ?_
  refine gF (v := .ref (ad 2)) hx hb hown hE hK hP 0 rfl rfl layV 10 (by decide) w826 rfl d_V_compact_72 ?_
  refine jkV (wr := []) (rnV (As := [.ref qq, .ref (ad 2)]) (rest := []) hx hb hml hown hE hK (hN _ _ hS) hP hD (v_gatherSeen l D dA H.size h ad (VS.s_gsize (VS.s_gV (VS.s_gT (VS.s_gO (VS.s_gN (VS.s_gA x ga) (capR x.gN 0 (cnt (PS k).n (x.sePc (PS k))))) go) gt) gv) (cnt (PS k).n (x.sePc (PS k)))) qq (PS (k + 1)) hqq hqk (show x.nsc ≤ 64 from by omega) h7 z2a (show 0 < (capR x.gN 0 (cnt (PS k).n (x.sePc (PS k)))) from by omega) hg1) (q0 := 17) rfl rfl w1751 w1750 w1752 w1753 w583 rfl rfl ⟨⟨by decide, by decide⟩, rfl⟩ ⟨(Nat.le_of_ble_eq_true rfl), (Nat.le_of_ble_eq_true rfl)⟩ rfl hl.1 rfl (Nat.le_of_ble_eq_true rfl) d_V_compact_75 ⟨(show 0 + 0 + 0 + (3 * (capR x.gN 0 (cnt (PS k).n (x.sePc (PS k))) - x.gN)) + (3 * (capR (capR x.gN 0 (cnt (PS k).n (x.sePc (PS k)))) (cnt (PS k).n (x.sePc (PS k))) (cnt (PS (k + 1)).n (x.sePc (PS (k + 1)))) - (capR x.gN 0 (cnt (PS k).n (x.sePc (PS k)))))) ≤ 3 * (capR (capR x.gN 0 (cnt (PS k).n (x.sePc (PS k)))) (cnt (PS k).n (x.sePc (PS k))) (cnt (PS (k + 1)).n (x.sePc (PS (k + 1)))) - x.gN) + 6 by omega), (show 0 + 0 + 0 + (6 * (capR x.gN 0 (cnt (PS k).n (x.sePc (PS k))) - x.gN)) + (6 * (capR (capR x.gN 0 (cnt (PS k).n (x.sePc (PS k)))) (cnt (PS k).n (x.sePc (PS k))) (cnt (PS (k + 1)).n (x.sePc (PS (k + 1)))) - (capR x.gN 0 (cnt (PS k).n (x.sePc (PS k)))))) ≤ 6 * (capR (capR x.gN 0 (cnt (PS k).n (x.sePc (PS k)))) (cnt (PS k).n (x.sePc (PS k))) (cnt (PS (k + 1)).n (x.sePc (PS (k + 1)))) - x.gN) + (14 + (3 * (cnt (PS k).n (x.sePc (PS k)) + cnt (PS (k + 1)).n (x.sePc (PS (k + 1)))) + x.nser + 1)) by omega)⟩) hP hD hS hA (fun u11 H locs hp9 hP hD hS => ?_)
  obtain ⟨y12, h9u⟩ : ∃ z9, z9 = u11 := ⟨_, rfl⟩
  subst h9u
  have hP : va_P D vwCl (VW dA h ad y12) H := hP
  have hD : va_D A (VW dA h ad y12) := hD
  have f_g_13 := hp9
  obtain ⟨ga2, gn2, go2, gt2, gv2, gz2, ey, z1, z2, z3, z4, z5⟩ := gaR_u f_g_13
  subst ey
  have hP : va_P D vwCl (VW dA h ad (VS.s_gsize (VS.s_gV (VS.s_gT (VS.s_gO (VS.s_gN (VS.s_gA x ga2) gn2) go2) gt2) gv2) gz2)) H := hP
  have hD : va_D A (VW dA h ad (VS.s_gsize (VS.s_gV (VS.s_gT (VS.s_gO (VS.s_gN (VS.s_gA x ga2) gn2) go2) gt2) gv2) gz2)) := hD
  have z1 : gz2 = (cnt (PS k).n (x.sePc (PS k)) + cnt (PS (k + 1)).n (x.sePc (PS (k + 1)))) := z1
  have z3 : gn2 = capR (capR x.gN 0 (cnt (PS k).n (x.sePc (PS k)))) (cnt (PS k).n (x.sePc (PS k))) (cnt (PS (k + 1)).n (x.sePc (PS (k + 1)))) := z3
  have z2b : gz2 ≤ gn2 := z2
  have hgt : gat2 (x.sePc (PS k)) (x.sePc (PS (k + 1))) (PS k) (PS (k + 1)) go2 gt2 gv2 := gat2_m z5a z4 z5
  subst z1
  subst z3
  have hP : va_P D vwCl (VW dA h ad (VS.s_gsize (VS.s_gV (VS.s_gT (VS.s_gO (VS.s_gN (VS.s_gA x ga2) (capR (capR x.gN 0 (cnt (PS k).n (x.sePc (PS k)))) (cnt (PS k).n (x.sePc (PS k))) (cnt (PS (k + 1)).n (x.sePc (PS (k + 1)))))) go2) gt2) gv2) (cnt (PS k).n (x.sePc (PS k)) + cnt (PS (k + 1)).n (x.sePc (PS (k + 1)))))) H := hP
  have hD : va_D A (VW dA h ad (VS.s_gsize (VS.s_gV (VS.s_gT (VS.s_gO (VS.s_gN (VS.s_gA x ga2) (capR (capR x.gN 0 (cnt (PS k).n (x.sePc (PS k)))) (cnt (PS k).n (x.sePc (PS k))) (cnt (PS (k + 1)).n (x.sePc (PS (k + 1)))))) go2) gt2) gv2) (cnt (PS k).n (x.sePc (PS k)) + cnt (PS (k + 1)).n (x.sePc (PS (k + 1)))))) := hD
  refine lv_aload_n hx hb d_V_compact_78 rfl (lv_at hl 0 rfl) ?_
  refine lv_aload_n hx hb d_V_compact_79 rfl (lv_at hl 0 rfl) ?_
  refine gF (v := .ref (ad 2)) hx hb hown hE hK hP 0 rfl rfl layV 10 (by decide) w826 rfl d_V_compact_80 ?_
  refine jkR (wr := []) (rnV (As := [.ref (ad 2)]) (rest := []) hx hb hml hown hE hK (hN _ _ hS) hP hD (v_packed_1g l D dA H.size h ad (VS.s_gsize (VS.s_gV (VS.s_gT (VS.s_gO (VS.s_gN (VS.s_gA x ga2) (capR (capR x.gN 0 (cnt (PS k).n (x.sePc (PS k)))) (cnt (PS k).n (x.sePc (PS k))) (cnt (PS (k + 1)).n (x.sePc (PS (k + 1)))))) go2) gt2) gv2) (cnt (PS k).n (x.sePc (PS k)) + cnt (PS (k + 1)).n (x.sePc (PS (k + 1))))) hz hc12 z2b (show (capR (capR x.gN 0 (cnt (PS k).n (x.sePc (PS k)))) (cnt (PS k).n (x.sePc (PS k))) (cnt (PS (k + 1)).n (x.sePc (PS (k + 1))))) ≤ 65536 from by omega) hn (gat_o hgt (hpo k (by omega)) (hpo (k + 1) (by omega)))) (q0 := 0) rfl rfl w1383 w1382 w1384 w1385 w277 rfl rfl ⟨⟨by decide, by decide⟩, rfl⟩ ⟨(Nat.le_of_ble_eq_true rfl), (Nat.le_of_ble_eq_true rfl)⟩ rfl hl.1 rfl (Nat.le_of_ble_eq_true rfl) d_V_compact_83 ⟨(show 0 + 0 + 0 + (3 * (capR x.gN 0 (cnt (PS k).n (x.sePc (PS k))) - x.gN)) + (3 * (capR (capR x.gN 0 (cnt (PS k).n (x.sePc (PS k)))) (cnt (PS k).n (x.sePc (PS k))) (cnt (PS (k + 1)).n (x.sePc (PS (k + 1)))) - (capR x.gN 0 (cnt (PS k).n (x.sePc (PS k)))))) + 5 ≤ 3 * (capR (capR x.gN 0 (cnt (PS k).n (x.sePc (PS k)))) (cnt (PS k).n (x.sePc (PS k))) (cnt (PS (k + 1)).n (x.sePc (PS (k + 1)))) - x.gN) + 6 by omega), (show 0 + 0 + 0 + (6 * (capR x.gN 0 (cnt (PS k).n (x.sePc (PS k))) - x.gN)) + (6 * (capR (capR x.gN 0 (cnt (PS k).n (x.sePc (PS k)))) (cnt (PS k).n (x.sePc (PS k))) (cnt (PS (k + 1)).n (x.sePc (PS (k + 1)))) - (capR x.gN 0 (cnt (PS k).n (x.sePc (PS k)))))) + (8 + (3 * (cnt (PS k).n (x.sePc (PS k)) + cnt (PS (k + 1)).n (x.sePc (PS (k + 1)))) + x.nser + 1)) ≤ 6 * (capR (capR x.gN 0 (cnt (PS k).n (x.sePc (PS k)))) (cnt (PS k).n (x.sePc (PS k))) (cnt (PS (k + 1)).n (x.sePc (PS (k + 1)))) - x.gN) + (14 + (3 * (cnt (PS k).n (x.sePc (PS k)) + cnt (PS (k + 1)).n (x.sePc (PS (k + 1)))) + x.nser + 1)) by omega)⟩) hP hD hS hA (fun u14 mp H locs hp9 hP hD hS => ?_)
  obtain ⟨y15, O, T, V⟩ := u14
  have hP : va_P D vwCl (VW dA h ad y15) H := hP
  have hD : va_D A (VW dA h ad y15) := hD
  obtain ⟨f_ey_16, f_pc_17, f_l1_18, f_l2_19, f_l3_20, f_l4_21⟩ := hp9
  obtain ⟨hy, hsub⟩ := f_ey_16
  have hpc := f_pc_17
  obtain ⟨pl1, epl⟩ : ∃ z, z = y15.pl := ⟨_, rfl⟩
  rw [← epl] at hy hsub hpc
  subst hy
  have hP : va_P D vwCl (VW dA h ad (VS.s_pl (VS.s_gsize (VS.s_gV (VS.s_gT (VS.s_gO (VS.s_gN (VS.s_gA x ga2) (capR (capR x.gN 0 (cnt (PS k).n (x.sePc (PS k)))) (cnt (PS k).n (x.sePc (PS k))) (cnt (PS (k + 1)).n (x.sePc (PS (k + 1)))))) go2) gt2) gv2) (cnt (PS k).n (x.sePc (PS k)) + cnt (PS (k + 1)).n (x.sePc (PS (k + 1))))) pl1)) H := hP
  have hD : va_D A (VW dA h ad (VS.s_pl (VS.s_gsize (VS.s_gV (VS.s_gT (VS.s_gO (VS.s_gN (VS.s_gA x ga2) (capR (capR x.gN 0 (cnt (PS k).n (x.sePc (PS k)))) (cnt (PS k).n (x.sePc (PS k))) (cnt (PS (k + 1)).n (x.sePc (PS (k + 1)))))) go2) gt2) gv2) (cnt (PS k).n (x.sePc (PS k)) + cnt (PS (k + 1)).n (x.sePc (PS (k + 1))))) pl1)) := hD
  have hok : pcOk (mkP (cnt (PS k).n (x.sePc (PS k)) + cnt (PS (k + 1)).n (x.sePc (PS (k + 1)))) O T V) := mkP_ok hc12 f_l4_21
  have hps1 := psOk_m hsub hps
  have hb0 := hbl go2 O gt2 gv2 T V hgt f_l1_18 f_l2_19 f_l3_20
  refine lv_astore_n hx hb d_V_compact_86 rfl hl (by decide) rfl (fun ls hl => ?_)
  have hl : lv_has ls 4 [(2, .ref mp), (0, .ref h), (1, .int (nI k))] := hl
  refine lv_aload_n hx hb d_V_compact_87 rfl (lv_at hl 0 rfl) ?_
  refine jkI (wr := []) (rnS (As := [.ref mp]) (rest := []) hx hb hml hown hE hK (hN _ _ hS) hP hD (v_blocksOf l D dA H.size (VW dA h ad (VS.s_pl (VS.s_gsize (VS.s_gV (VS.s_gT (VS.s_gO (VS.s_gN (VS.s_gA x ga2) (capR (capR x.gN 0 (cnt (PS k).n (x.sePc (PS k)))) (cnt (PS k).n (x.sePc (PS k))) (cnt (PS (k + 1)).n (x.sePc (PS (k + 1)))))) go2) gt2) gv2) (cnt (PS k).n (x.sePc (PS k)) + cnt (PS (k + 1)).n (x.sePc (PS (k + 1))))) pl1)) mp (mkP (cnt (PS k).n (x.sePc (PS k)) + cnt (PS (k + 1)).n (x.sePc (PS (k + 1)))) O T V) (isPc_m (fun _ hm => (plm hm)) hpc)) w1391 w1390 w1392 w277 rfl rfl ⟨⟨by decide, by decide⟩, rfl⟩ ⟨(Nat.le_of_ble_eq_true rfl), (Nat.le_of_ble_eq_true rfl)⟩ rfl hl.1 rfl (Nat.le_of_ble_eq_true rfl) d_V_compact_88 ⟨(show 0 + 0 + 0 + (3 * (capR x.gN 0 (cnt (PS k).n (x.sePc (PS k))) - x.gN)) + (3 * (capR (capR x.gN 0 (cnt (PS k).n (x.sePc (PS k)))) (cnt (PS k).n (x.sePc (PS k))) (cnt (PS (k + 1)).n (x.sePc (PS (k + 1)))) - (capR x.gN 0 (cnt (PS k).n (x.sePc (PS k)))))) + 5 + 0 ≤ 3 * (capR (capR x.gN 0 (cnt (PS k).n (x.sePc (PS k)))) (cnt (PS k).n (x.sePc (PS k))) (cnt (PS (k + 1)).n (x.sePc (PS (k + 1)))) - x.gN) + 6 by omega), (show 0 + 0 + 0 + (6 * (capR x.gN 0 (cnt (PS k).n (x.sePc (PS k))) - x.gN)) + (6 * (capR (capR x.gN 0 (cnt (PS k).n (x.sePc (PS k)))) (cnt (PS k).n (x.sePc (PS k))) (cnt (PS (k + 1)).n (x.sePc (PS (k + 1)))) - (capR x.gN 0 (cnt (PS k).n (x.sePc (PS k)))))) + (8 + (3 * (cnt (PS k).n (x.sePc (PS k)) + cnt (PS (k + 1)).n (x.sePc (PS (k + 1)))) + x.nser + 1)) + 0 ≤ 6 * (capR (capR x.gN 0 (cnt (PS k).n (x.sePc (PS k)))) (cnt (PS k).n (x.sePc (PS k))) (cnt (PS (k + 1)).n (x.sePc (PS (k + 1)))) - x.gN) + (14 + (3 * (cnt (PS k).n (x.sePc (PS k)) + cnt (PS (k + 1)).n (x.sePc (PS (k + 1)))) + x.nser + 1)) by omega)⟩) hP hD hS hA (fun r22 u23 H locs hp9 hP hD hS => ?_)
  have hP : va_P D vwCl (VW dA h ad (VS.s_pl (VS.s_gsize (VS.s_gV (VS.s_gT (VS.s_gO (VS.s_gN (VS.s_gA x ga2) (capR (capR x.gN 0 (cnt (PS k).n (x.sePc (PS k)))) (cnt (PS k).n (x.sePc (PS k))) (cnt (PS (k + 1)).n (x.sePc (PS (k + 1)))))) go2) gt2) gv2) (cnt (PS k).n (x.sePc (PS k)) + cnt (PS (k + 1)).n (x.sePc (PS (k + 1))))) pl1)) H := hP
  have hD : va_D A (VW dA h ad (VS.s_pl (VS.s_gsize (VS.s_gV (VS.s_gT (VS.s_gO (VS.s_gN (VS.s_gA x ga2) (capR (capR x.gN 0 (cnt (PS k).n (x.sePc (PS k)))) (cnt (PS k).n (x.sePc (PS k))) (cnt (PS (k + 1)).n (x.sePc (PS (k + 1)))))) go2) gt2) gv2) (cnt (PS k).n (x.sePc (PS k)) + cnt (PS (k + 1)).n (x.sePc (PS (k + 1))))) pl1)) := hD
  replace hp9 : nI (mkP (cnt (PS k).n (x.sePc (PS k)) + cnt (PS (k + 1)).n (x.sePc (PS (k + 1)))) O T V).bl = r22 := Eq.symm hp9
  subst hp9
  refine tpi (y := nI nb) (blX hb0) ?_
  refine lv_aload_n hx hb d_V_compact_91 rfl (lv_at hl 1 rfl) ?_
  refine jkI (wr := []) (rnV (As := []) (rest := [.int (nI nb)]) hx hb hml hown hE hK (hN _ _ hS) hP hD (v_freeBlocks l D dA H.size h ad (VS.s_pl (VS.s_gsize (VS.s_gV (VS.s_gT (VS.s_gO (VS.s_gN (VS.s_gA x ga2) (capR (capR x.gN 0 (cnt (PS k).n (x.sePc (PS k)))) (cnt (PS k).n (x.sePc (PS k))) (cnt (PS (k + 1)).n (x.sePc (PS (k + 1)))))) go2) gt2) gv2) (cnt (PS k).n (x.sePc (PS k)) + cnt (PS (k + 1)).n (x.sePc (PS (k + 1))))) pl1) PS hps1 (show x.npc ≤ 32 from by omega) hfr) (q0 := 0) rfl rfl w644 w643 w645 w646 w277 rfl rfl ⟨⟨by decide, by decide⟩, rfl⟩ ⟨(Nat.le_of_ble_eq_true rfl), (Nat.le_of_ble_eq_true rfl)⟩ rfl hl.1 rfl (Nat.le_of_ble_eq_true rfl) d_V_compact_92 ⟨(show 0 + 0 + 0 + (3 * (capR x.gN 0 (cnt (PS k).n (x.sePc (PS k))) - x.gN)) + (3 * (capR (capR x.gN 0 (cnt (PS k).n (x.sePc (PS k)))) (cnt (PS k).n (x.sePc (PS k))) (cnt (PS (k + 1)).n (x.sePc (PS (k + 1)))) - (capR x.gN 0 (cnt (PS k).n (x.sePc (PS k)))))) + 5 + 0 + 0 ≤ 3 * (capR (capR x.gN 0 (cnt (PS k).n (x.sePc (PS k)))) (cnt (PS k).n (x.sePc (PS k))) (cnt (PS (k + 1)).n (x.sePc (PS (k + 1)))) - x.gN) + 6 by omega), (show 0 + 0 + 0 + (6 * (capR x.gN 0 (cnt (PS k).n (x.sePc (PS k))) - x.gN)) + (6 * (capR (capR x.gN 0 (cnt (PS k).n (x.sePc (PS k)))) (cnt (PS k).n (x.sePc (PS k))) (cnt (PS (k + 1)).n (x.sePc (PS (k + 1)))) - (capR x.gN 0 (cnt (PS k).n (x.sePc (PS k)))))) + (8 + (3 * (cnt (PS k).n (x.sePc (PS k)) + cnt (PS (k + 1)).n (x.sePc (PS (k + 1)))) + x.nser + 1)) + 0 + 0 ≤ 6 * (capR (capR x.gN 0 (cnt (PS k).n (x.sePc (PS k)))) (cnt (PS k).n (x.sePc (PS k))) (cnt (PS (k + 1)).n (x.sePc (PS (k + 1)))) - x.gN) + (14 + (3 * (cnt (PS k).n (x.sePc (PS k)) + cnt (PS (k + 1)).n (x.sePc (PS (k + 1)))) + x.nser + 1)) by omega)⟩) hP hD hS hA (fun r24 u25 H locs hp9 hP hD hS => ?_)
  have hP : va_P D vwCl (VW dA h ad (VS.s_pl (VS.s_gsize (VS.s_gV (VS.s_gT (VS.s_gO (VS.s_gN (VS.s_gA x ga2) (capR (capR x.gN 0 (cnt (PS k).n (x.sePc (PS k)))) (cnt (PS k).n (x.sePc (PS k))) (cnt (PS (k + 1)).n (x.sePc (PS (k + 1)))))) go2) gt2) gv2) (cnt (PS k).n (x.sePc (PS k)) + cnt (PS (k + 1)).n (x.sePc (PS (k + 1))))) pl1)) H := hP
  have hD : va_D A (VW dA h ad (VS.s_pl (VS.s_gsize (VS.s_gV (VS.s_gT (VS.s_gO (VS.s_gN (VS.s_gA x ga2) (capR (capR x.gN 0 (cnt (PS k).n (x.sePc (PS k)))) (cnt (PS k).n (x.sePc (PS k))) (cnt (PS (k + 1)).n (x.sePc (PS (k + 1)))))) go2) gt2) gv2) (cnt (PS k).n (x.sePc (PS k)) + cnt (PS (k + 1)).n (x.sePc (PS (k + 1))))) pl1)) := hD
  replace hp9 : nI (x.fr PS) = r24 := Eq.symm hp9
  subst hp9
  refine lv_icmp_le hx hb d_V_compact_95 (tgt := 106) rfl (fun h9 => absurd h9 (mt (nI_leI (a := nb) (b := x.fr PS) (by omega) (by omega)).mp (Nat.not_le.mpr hf))) (fun _ => ?_)
  exact xNew (E := "java/lang/UnsupportedOperationException") (names := ["java/lang/RuntimeException", "java/lang/Exception"]) hx hb htr hown (by decide) (by decide) hE w1156 w1157 (fun U hU => at_V_UOE hU) (hN _ _ hS) (hl.1.trans hml.symm) d_V_compact_98 d_V_compact_101 d_V_compact_102 d_V_compact_105 hno (Nat.le_of_ble_eq_true rfl) (Nat.le_of_ble_eq_true rfl) (show 0 + 0 + 0 + (3 * (capR x.gN 0 (cnt (PS k).n (x.sePc (PS k))) - x.gN)) + (3 * (capR (capR x.gN 0 (cnt (PS k).n (x.sePc (PS k)))) (cnt (PS k).n (x.sePc (PS k))) (cnt (PS (k + 1)).n (x.sePc (PS (k + 1)))) - (capR x.gN 0 (cnt (PS k).n (x.sePc (PS k)))))) + 5 + 0 + 0 + 1 ≤ 3 * (capR (capR x.gN 0 (cnt (PS k).n (x.sePc (PS k)))) (cnt (PS k).n (x.sePc (PS k))) (cnt (PS (k + 1)).n (x.sePc (PS (k + 1)))) - x.gN) + 6 by omega) (show 0 + 0 + 0 + (6 * (capR x.gN 0 (cnt (PS k).n (x.sePc (PS k))) - x.gN)) + (6 * (capR (capR x.gN 0 (cnt (PS k).n (x.sePc (PS k)))) (cnt (PS k).n (x.sePc (PS k))) (cnt (PS (k + 1)).n (x.sePc (PS (k + 1)))) - (capR x.gN 0 (cnt (PS k).n (x.sePc (PS k)))))) + (8 + (3 * (cnt (PS k).n (x.sePc (PS k)) + cnt (PS (k + 1)).n (x.sePc (PS (k + 1)))) + x.nser + 1)) + 0 + 0 + 6 ≤ 6 * (capR (capR x.gN 0 (cnt (PS k).n (x.sePc (PS k)))) (cnt (PS k).n (x.sePc (PS k))) (cnt (PS (k + 1)).n (x.sePc (PS (k + 1)))) - x.gN) + (14 + (3 * (cnt (PS k).n (x.sePc (PS k)) + cnt (PS (k + 1)).n (x.sePc (PS (k + 1)))) + x.nser + 1)) by omega) hlk (fun t h1 h2 => xkE (VS.s_pl (VS.s_gsize (VS.s_gV (VS.s_gT (VS.s_gO (VS.s_gN (VS.s_gA x ga2) (capR (capR x.gN 0 (cnt (PS k).n (x.sePc (PS k)))) (cnt (PS k).n (x.sePc (PS k))) (cnt (PS (k + 1)).n (x.sePc (PS (k + 1)))))) go2) gt2) gv2) (cnt (PS k).n (x.sePc (PS k)) + cnt (PS (k + 1)).n (x.sePc (PS (k + 1))))) pl1) ⟨ga2, go2, gt2, gv2, pl1, hsub, rfl⟩ hP hD hS t h1 h2) hS.2.2 (show 0 + 0 + 0 + (3 * (capR x.gN 0 (cnt (PS k).n (x.sePc (PS k))) - x.gN)) + (3 * (capR (capR x.gN 0 (cnt (PS k).n (x.sePc (PS k)))) (cnt (PS k).n (x.sePc (PS k))) (cnt (PS (k + 1)).n (x.sePc (PS (k + 1)))) - (capR x.gN 0 (cnt (PS k).n (x.sePc (PS k)))))) + 5 + 0 + 0 + 1 ≤ 3 * (capR (capR x.gN 0 (cnt (PS k).n (x.sePc (PS k)))) (cnt (PS k).n (x.sePc (PS k))) (cnt (PS (k + 1)).n (x.sePc (PS (k + 1)))) - x.gN) + 6 by omega) (show 0 + 0 + 0 + (6 * (capR x.gN 0 (cnt (PS k).n (x.sePc (PS k))) - x.gN)) + (6 * (capR (capR x.gN 0 (cnt (PS k).n (x.sePc (PS k)))) (cnt (PS k).n (x.sePc (PS k))) (cnt (PS (k + 1)).n (x.sePc (PS (k + 1)))) - (capR x.gN 0 (cnt (PS k).n (x.sePc (PS k)))))) + (8 + (3 * (cnt (PS k).n (x.sePc (PS k)) + cnt (PS (k + 1)).n (x.sePc (PS (k + 1)))) + x.nser + 1)) + 0 + 0 + 6 ≤ 6 * (capR (capR x.gN 0 (cnt (PS k).n (x.sePc (PS k)))) (cnt (PS k).n (x.sePc (PS k))) (cnt (PS (k + 1)).n (x.sePc (PS (k + 1)))) - x.gN) + (14 + (3 * (cnt (PS k).n (x.sePc (PS k)) + cnt (PS (k + 1)).n (x.sePc (PS (k + 1)))) + x.nser + 1)) by omega)
set_option maxHeartbeats 4000000 in
set_option maxRecDepth 100000 in
theorem v_compact_i1 (l : Launch) (htr : l.stackTraces = false) (D : va_G) (dA : Nat → ClassId) (sz : Nat) (h : Nat) (ad : Nat → Nat) (x : VS) (PS : Nat → PT) (k : Nat) (nb : Nat) (ho : x.powered = true) (hk : k + 2 ≤ x.npc) (hps : psOk dA x.nP x.npc x.pl PS) (hpn : x.npc ≤ 32) (h1 : x.nsc ≤ 64) (h7 : ∀ q : Nat, q < x.nsc → x.nsO q < 2 ^ 31) (hfr : x.jlimit + 2 + (x.ncat + sumN x.npc (blN PS)) ≤ x.diskBlocks) (hn : x.nser ≤ 256) (hdk : x.diskBlocks ≤ 256) (hg0 : 0 < x.gN) (hg1 : capR (capR x.gN 0 (cnt (PS k).n (x.sePc (PS k)))) (cnt (PS k).n (x.sePc (PS k))) (cnt (PS (k + 1)).n (x.sePc (PS (k + 1)))) ≤ 32768) (hwb : x.writes + 1000 < 2 ^ 31) (hpo : ∀ j : Nat, j < x.npc → ∀ i : Nat, i < (PS j).n → (PS j).o i < x.nser) (hz : 0 < (cnt (PS k).n (x.sePc (PS k)) + cnt (PS (k + 1)).n (x.sePc (PS (k + 1))))) (hc12 : (cnt (PS k).n (x.sePc (PS k)) + cnt (PS (k + 1)).n (x.sePc (PS (k + 1)))) ≤ 12000) (hbl : ∀ (gO O : Nat → Nat) (gT gV T V : Nat → Int64), gat2 (x.sePc (PS k)) (x.sePc (PS (k + 1))) (PS k) (PS (k + 1)) gO gT gV → laid gO (cnt (PS k).n (x.sePc (PS k)) + cnt (PS (k + 1)).n (x.sePc (PS (k + 1)))) (cnt (PS k).n (x.sePc (PS k)) + cnt (PS (k + 1)).n (x.sePc (PS (k + 1)))) gO O → laid gO (cnt (PS k).n (x.sePc (PS k)) + cnt (PS (k + 1)).n (x.sePc (PS (k + 1)))) (cnt (PS k).n (x.sePc (PS k)) + cnt (PS (k + 1)).n (x.sePc (PS (k + 1)))) gT T → laid gO (cnt (PS k).n (x.sePc (PS k)) + cnt (PS (k + 1)).n (x.sePc (PS (k + 1)))) (cnt (PS k).n (x.sePc (PS k)) + cnt (PS (k + 1)).n (x.sePc (PS (k + 1)))) gV V → (mkP (cnt (PS k).n (x.sePc (PS k)) + cnt (PS (k + 1)).n (x.sePc (PS (k + 1)))) O T V).bl = nb) (hf : nb ≤ x.fr PS) (hc2 : x.jch = true) (hc : x.cutLeft = 0) : mX l ⟨"SeriesVault", "compact", "(I)I"⟩ [Cond.code ⟨"SeriesVault", "compact", "(I)I"⟩ prog_1_method_40_code 4 (some FieldType.int)] { frames := 8, cells := 3 * (capR (capR x.gN 0 (cnt (PS k).n (x.sePc (PS k)))) (cnt (PS k).n (x.sePc (PS k))) (cnt (PS (k + 1)).n (x.sePc (PS (k + 1)))) - x.gN) + 6, slots := 6 * (capR (capR x.gN 0 (cnt (PS k).n (x.sePc (PS k)))) (cnt (PS k).n (x.sePc (PS k))) (cnt (PS (k + 1)).n (x.sePc (PS (k + 1)))) - x.gN) + (14 + (3 * (cnt (PS k).n (x.sePc (PS k)) + cnt (PS (k + 1)).n (x.sePc (PS (k + 1)))) + x.nser + 1)), locals := 124 } (pC D dA [.ref h, .int (nI k)] (VW dA h ad x) sz) "java/lang/IllegalStateException" (fun st9 t9 => va_F (va_A (VW dA h ad x) sz) st9 t9 ∧ ∃ u9 : VS, ((∃ (ga2 go2 : Nat → Nat) (gt2 gv2 : Nat → Int64) (pl1 : va_W), (∀ c, c ∈ x.pl → c ∈ pl1) ∧ u9 = x.cpI PS k ga2 go2 gt2 gv2 pl1)) ∧ bW D (va_A (VW dA h ad x) sz) (VW dA h ad u9) t9) (3 * (capR (capR x.gN 0 (cnt (PS k).n (x.sePc (PS k)))) (cnt (PS k).n (x.sePc (PS k))) (cnt (PS (k + 1)).n (x.sePc (PS (k + 1)))) - x.gN) + 6) (6 * (capR (capR x.gN 0 (cnt (PS k).n (x.sePc (PS k)))) (cnt (PS k).n (x.sePc (PS k))) (cnt (PS (k + 1)).n (x.sePc (PS (k + 1)))) - x.gN) + (14 + (3 * (cnt (PS k).n (x.sePc (PS k)) + cnt (PS (k + 1)).n (x.sePc (PS (k + 1)))) + x.nser + 1))) (va_A (VW dA h ad x) sz) := by
  refine mkX (y := ⟨"SeriesVault", "compact", "(I)I"⟩) (cc := prog_1_method_40_code) (maxL := 4) (av := [.ref h, .int (nI k)]) (ws := VW dA h ad x) (sz := sz) (B := fun A => (fun st9 t9 => va_F A st9 t9 ∧ ∃ u9 : VS, ((∃ (ga2 go2 : Nat → Nat) (gt2 gv2 : Nat → Int64) (pl1 : va_W), (∀ c, c ∈ x.pl → c ∈ pl1) ∧ u9 = x.cpI PS k ga2 go2 gt2 gv2 pl1)) ∧ bW D A (VW dA h ad u9) t9)) (by decide) (Nat.le_of_ble_eq_true rfl) ?_
  intro A p e s m below meth c ls hsz hno hB
  obtain ⟨hx, hb, hr, hml, hown, hin, hlk, hE, hK, hP, hD, hS, hA, hN, hl⟩ := hB
  have hown : s.vm.findClass "SeriesVault" = some m.cls := hown
  have hl : lv_has ls 4 [(0, .ref h), (1, .int (nI k))] := hl
  obtain ⟨H, hH⟩ : ∃ z, z = s.heap := ⟨_, rfl⟩
  have hP : va_P D vwCl (VW dA h ad x) H := by rw [hH]; exact hP
  have hS : va_S A s.heap H [] := by rw [hH]; exact hS
  rw [← hH]
  refine lv_aload_n hx hb d_V_compact_0 rfl (lv_at hl 0 rfl) ?_
  refine jkV (wr := []) (rnV (As := []) (rest := []) hx hb hml hown hE hK (hN _ _ hS) hP hD (v_checkPower l D dA H.size h ad x ho) (q0 := 0) rfl rfl w278 w276 w279 w280 w277 rfl rfl ⟨⟨by decide, by decide⟩, rfl⟩ ⟨(Nat.le_of_ble_eq_true rfl), (Nat.le_of_ble_eq_true rfl)⟩ rfl hl.1 rfl (Nat.le_of_ble_eq_true rfl) d_V_compact_1 ⟨(show 0 + 0 ≤ 3 * (capR (capR x.gN 0 (cnt (PS k).n (x.sePc (PS k)))) (cnt (PS k).n (x.sePc (PS k))) (cnt (PS (k + 1)).n (x.sePc (PS (k + 1)))) - x.gN) + 6 by omega), (show 0 + 0 ≤ 6 * (capR (capR x.gN 0 (cnt (PS k).n (x.sePc (PS k)))) (cnt (PS k).n (x.sePc (PS k))) (cnt (PS (k + 1)).n (x.sePc (PS (k + 1)))) - x.gN) + (14 + (3 * (cnt (PS k).n (x.sePc (PS k)) + cnt (PS (k + 1)).n (x.sePc (PS (k + 1)))) + x.nser + 1)) by omega)⟩) hP hD hS hA (fun u2 H locs hp9 hP hD hS => ?_)
  have hP : va_P D vwCl (VW dA h ad x) H := hP
  have hD : va_D A (VW dA h ad x) := hD
  refine lv_iload_n hx hb d_V_compact_4 rfl (lv_at hl 1 rfl) ?_
  refine lv_if_lt hx hb d_V_compact_5 (tgt := 21) rfl (fun h9 => absurd h9 (nI_pos (n := k) (by omega))) (fun _ => ?_)
  refine lv_iload_n hx hb d_V_compact_8 rfl (lv_at hl 1 rfl) ?_
  refine lv_aload_n hx hb d_V_compact_9 rfl (lv_at hl 0 rfl) ?_
  refine gF (v := .ref (ad 3)) hx hb hown hE hK hP 0 rfl rfl layV 11 (by decide) w297 rfl d_V_compact_10 ?_
  refine gFN (v := .int (nI x.npc)) hx hb hown hE hK hP 17 rfl rfl layH 1 (by decide) w303 rfl d_V_compact_13 ?_
  refine lv_iconst (v := 1) hx hb d_V_compact_16 (by decide) ?_
  refine lv_isub hx hb d_V_compact_17 (tpi (y := nI (x.npc - 1)) (pk_sub (a := x.npc) (b := 1) (by omega)) ?_)
  refine lv_icmp_lt hx hb d_V_compact_18 (tgt := 29) rfl (fun g3 => ?_) (fun g3 => ?_)
  rotate_left
  · have g3 := mt (nI_ltI (a := k) (b := x.npc - 1) (by omega) (by omega)).mpr g3; exfalso; omega
  have g3 := (nI_ltI (a := k) (b := x.npc - 1) (by omega) (by omega)).mp g3
  obtain ⟨pp, ke, hpp, hpk⟩ := hps k (by omega)
  obtain ⟨qq, ke2, hqq, hqk⟩ := hps (k + 1) (by omega)
  have cl1 := cnt_le (PS k).n (x.sePc (PS k))
  have cl2 := cnt_le (PS (k + 1)).n (x.sePc (PS (k + 1)))
  have pk0 := hpk.1
  have qk0 := hqk.1
  have cm1 := capR_m (capR x.gN 0 (cnt (PS k).n (x.sePc (PS k)))) (cnt (PS k).n (x.sePc (PS k))) (Nat.zero_le (cnt (PS (k + 1)).n (x.sePc (PS (k + 1)))))
  have cm2 : capR (capR x.gN 0 (cnt (PS k).n (x.sePc (PS k)))) (cnt (PS k).n (x.sePc (PS k))) 0 = capR x.gN 0 (cnt (PS k).n (x.sePc (PS k))) := rfl
  have cm3 := capR_m x.gN 0 (Nat.zero_le (cnt (PS k).n (x.sePc (PS k))))
  have cm4 : capR x.gN 0 0 = x.gN := rfl
  have hfe : x.fr PS = x.diskBlocks - 2 - x.jlimit - (x.ncat + sumN x.npc (blN PS)) := rfl
  refine lv_aload_n hx hb d_V_compact_29 rfl (lv_at hl 0 rfl) ?_
  refine gF (v := .ref (ad 2)) hx hb hown hE hK hP 0 rfl rfl layV 10 (by decide) w826 rfl d_V_compact_30 ?_
  refine jkV (wr := []) (rnV (As := []) (rest := []) hx hb hml hown hE hK (hN _ _ hS) hP hD (v_pclear_g l D dA H.size h ad x) (q0 := 13) rfl rfl w579 w577 w580 w581 w578 rfl rfl ⟨⟨by decide, by decide⟩, rfl⟩ ⟨(Nat.le_of_ble_eq_true rfl), (Nat.le_of_ble_eq_true rfl)⟩ rfl hl.1 rfl (Nat.le_of_ble_eq_true rfl) d_V_compact_33 ⟨(show 0 + 0 + 0 ≤ 3 * (capR (capR x.gN 0 (cnt (PS k).n (x.sePc (PS k)))) (cnt (PS k).n (x.sePc (PS k))) (cnt (PS (k + 1)).n (x.sePc (PS (k + 1)))) - x.gN) + 6 by omega), (show 0 + 0 + 0 ≤ 6 * (capR (capR x.gN 0 (cnt (PS k).n (x.sePc (PS k)))) (cnt (PS k).n (x.sePc (PS k))) (cnt (PS (k + 1)).n (x.sePc (PS (k + 1)))) - x.gN) + (14 + (3 * (cnt (PS k).n (x.sePc (PS k)) + cnt (PS (k + 1)).n (x.sePc (PS (k + 1)))) + x.nser + 1)) by omega)⟩) hP hD hS hA (fun u5 H locs hp9 hP hD hS => ?_)
  have hP : va_P D vwCl (VW dA h ad (VS.s_gsize x 0)) H := hP
  have hD : va_D A (VW dA h ad (VS.s_gsize x 0)) := hD
  refine lv_aload_n hx hb d_V_compact_36 rfl (lv_at hl 0 rfl) ?_
  refine gF (v := .ref (ad 3)) hx hb hown hE hK hP 0 rfl rfl layV 11 (by decide) w297 rfl d_V_compact_37 ?_
  refine lv_aload_n hx hb d_V_compact_40 rfl (lv_at hl 0 rfl) ?_
  refine gF (v := .ref (ad 3)) hx hb hown hE hK hP 0 rfl rfl layV 11 (by decide) w297 rfl d_V_compact_41 ?_
  refine gFN (v := .ref (ad 4)) hx hb hown hE hK hP 17 rfl rfl layH 0 (by decide) w1347 rfl d_V_compact_44 ?_
  refine lv_iload_n hx hb d_V_compact_47 rfl (lv_at hl 1 rfl) ?_
  refine nqld (f := x.nP) (n := 32) hx hb hK hP (18) 4 rfl rfl (k) (by omega) (by decide) ke d_V_compact_48 ?_
  refine lv_aload_n hx hb d_V_compact_49 rfl (lv_at hl 0 rfl) ?_
  refine gF (v := .ref (ad 2)) hx hb hown hE hK hP 0 rfl rfl layV 10 (by decide) w826 rfl d_V_compact_50 ?_
  refine jkV (wr := []) (rnV (As := [.ref pp, .ref (ad 2)]) (rest := []) hx hb hml hown hE hK (hN _ _ hS) hP hD (v_gatherSeen l D dA H.size h ad (VS.s_gsize x 0) pp (PS k) hpp hpk (show x.nsc ≤ 64 from by omega) h7 (Nat.zero_le _) (show 0 < x.gN from by omega) (show capR x.gN 0 (cnt (PS k).n (x.sePc (PS k))) ≤ 32768 from by omega)) (q0 := 17) rfl rfl w1751 w1750 w1752 w1753 w583 rfl rfl ⟨⟨by decide, by decide⟩, rfl⟩ ⟨(Nat.le_of_ble_eq_true rfl), (Nat.le_of_ble_eq_true rfl)⟩ rfl hl.1 rfl (Nat.le_of_ble_eq_true rfl) d_V_compact_53 ⟨(show 0 + 0 + 0 + (3 * (capR x.gN 0 (cnt (PS k).n (x.sePc (PS k))) - x.gN)) ≤ 3 * (capR (capR x.gN 0 (cnt (PS k).n (x.sePc (PS k)))) (cnt (PS k).n (x.sePc (PS k))) (cnt (PS (k + 1)).n (x.sePc (PS (k + 1)))) - x.gN) + 6 by omega), (show 0 + 0 + 0 + (6 * (capR x.gN 0 (cnt (PS k).n (x.sePc (PS k))) - x.gN)) ≤ 6 * (capR (capR x.gN 0 (cnt (PS k).n (x.sePc (PS k)))) (cnt (PS k).n (x.sePc (PS k))) (cnt (PS (k + 1)).n (x.sePc (PS (k + 1)))) - x.gN) + (14 + (3 * (cnt (PS k).n (x.sePc (PS k)) + cnt (PS (k + 1)).n (x.sePc (PS (k + 1)))) + x.nser + 1)) by omega)⟩) hP hD hS hA (fun u7 H locs hp9 hP hD hS => ?_)
  obtain ⟨y8, h9u⟩ : ∃ z9, z9 = u7 := ⟨_, rfl⟩
  subst h9u
  have hP : va_P D vwCl (VW dA h ad y8) H := hP
  have hD : va_D A (VW dA h ad y8) := hD
  have f_g_9 := hp9
  obtain ⟨ga, gn, go, gt, gv, gz, ey, z1, z2, z3, z4, z5⟩ := gaR_u f_g_9
  subst ey
  have hP : va_P D vwCl (VW dA h ad (VS.s_gsize (VS.s_gV (VS.s_gT (VS.s_gO (VS.s_gN (VS.s_gA x ga) gn) go) gt) gv) gz)) H := hP
  have hD : va_D A (VW dA h ad (VS.s_gsize (VS.s_gV (VS.s_gT (VS.s_gO (VS.s_gN (VS.s_gA x ga) gn) go) gt) gv) gz)) := hD
  have z1 : gz = cnt (PS k).n (x.sePc (PS k)) := z1.trans (Nat.zero_add _)
  have z3 : gn = capR x.gN 0 (cnt (PS k).n (x.sePc (PS k))) := z3
  have z5a : ∀ j, j < (PS k).n → x.sePc (PS k) j = true → go (0 + cnt j (x.sePc (PS k))) = (PS k).o j ∧ gt (0 + cnt j (x.sePc (PS k))) = (PS k).t j ∧ gv (0 + cnt j (x.sePc (PS k))) = (PS k).v j := z5
  have z2a := z2
  subst z1
  subst z3
  have hP : va_P D vwCl (VW dA h ad (VS.s_gsize (VS.s_gV (VS.s_gT (VS.s_gO (VS.s_gN (VS.s_gA x ga) (capR x.gN 0 (cnt (PS k).n (x.sePc (PS k))))) go) gt) gv) (cnt (PS k).n (x.sePc (PS k))))) H := hP
  have hD : va_D A (VW dA h ad (VS.s_gsize (VS.s_gV (VS.s_gT (VS.s_gO (VS.s_gN (VS.s_gA x ga) (capR x.gN 0 (cnt (PS k).n (x.sePc (PS k))))) go) gt) gv) (cnt (PS k).n (x.sePc (PS k))))) := hD
  refine lv_aload_n hx hb d_V_compact_56 rfl (lv_at hl 0 rfl) ?_
  refine gF (v := .ref (ad 3)) hx hb hown hE hK hP 0 rfl rfl layV 11 (by decide) w297 rfl d_V_compact_57 ?_
  refine lv_aload_n hx hb d_V_compact_60 rfl (lv_at hl 0 rfl) ?_
  refine gF (v := .ref (ad 3)) hx hb hown hE hK hP 0 rfl rfl layV 11 (by decide) w297 rfl d_V_compact_61 ?_
  refine gFN (v := .ref (ad 4)) hx hb hown hE hK hP 17 rfl rfl layH 0 (by decide) w1347 rfl d_V_compact_64 ?_
  refine lv_iload_n hx hb d_V_compact_67 rfl (lv_at hl 1 rfl) ?_
  refine lv_iconst (v := 1) hx hb d_V_compact_68 (by decide) ?_
  refine lv_iadd hx hb d_V_compact_69 (tpi (y := nI (k + 1)) (nI_add (k) (1)) ?_)
  refine nqld (f := x.nP) (n := 32) hx hb hK hP (18) 4 rfl rfl (k + 1) (by omega) (by decide) ke2 d_V_compact_70 ?_
  refine lv_aload_n hx hb d_V_compact_71 rfl (lv_at hl 0 rfl) ?_
  refine gF (v := .ref (ad 2)) hx hb hown hE hK hP 0 rfl rfl layV 10 (by decide) w826 rfl d_V_compact_72 ?_
  refine jkV (wr := []) (rnV (As := [.ref qq, .ref (ad 2)]) (rest := []) hx hb hml hown hE hK (hN _ _ hS) hP hD (v_gatherSeen l D dA H.size h ad (VS.s_gsize (VS.s_gV (VS.s_gT (VS.s_gO (VS.s_gN (VS.s_gA x ga) (capR x.gN 0 (cnt (PS k).n (x.sePc (PS k))))) go) gt) gv) (cnt (PS k).n (x.sePc (PS k)))) qq (PS (k + 1)) hqq hqk (show x.nsc ≤ 64 from by omega) h7 z2a (show 0 < (capR x.gN 0 (cnt (PS k).n (x.sePc (PS k)))) from by omega) hg1) (q0 := 17) rfl rfl w1751 w1750 w1752 w1753 w583 rfl rfl ⟨⟨by decide, by decide⟩, rfl⟩ ⟨(Nat.le_of_ble_eq_true rfl), (Nat.le_of_ble_eq_true rfl)⟩ rfl hl.1 rfl (Nat.le_of_ble_eq_true rfl) d_V_compact_75 ⟨(show 0 + 0 + 0 + (3 * (capR x.gN 0 (cnt (PS k).n (x.sePc (PS k))) - x.gN)) + (3 * (capR (capR x.gN 0 (cnt (PS k).n (x.sePc (PS k)))) (cnt (PS k).n (x.sePc (PS k))) (cnt (PS (k + 1)).n (x.sePc (PS (k + 1)))) - (capR x.gN 0 (cnt (PS k).n (x.sePc (PS k)))))) ≤ 3 * (capR (capR x.gN 0 (cnt (PS k).n (x.sePc (PS k)))) (cnt (PS k).n (x.sePc (PS k))) (cnt (PS (k + 1)).n (x.sePc (PS (k + 1)))) - x.gN) + 6 by omega), (show 0 + 0 + 0 + (6 * (capR x.gN 0 (cnt (PS k).n (x.sePc (PS k))) - x.gN)) + (6 * (capR (capR x.gN 0 (cnt (PS k).n (x.sePc (PS k)))) (cnt (PS k).n (x.sePc (PS k))) (cnt (PS (k + 1)).n (x.sePc (PS (k + 1)))) - (capR x.gN 0 (cnt (PS k).n (x.sePc (PS k)))))) ≤ 6 * (capR (capR x.gN 0 (cnt (PS k).n (x.sePc (PS k)))) (cnt (PS k).n (x.sePc (PS k))) (cnt (PS (k + 1)).n (x.sePc (PS (k + 1)))) - x.gN) + (14 + (3 * (cnt (PS k).n (x.sePc (PS k)) + cnt (PS (k + 1)).n (x.sePc (PS (k + 1)))) + x.nser + 1)) by omega)⟩) hP hD hS hA (fun u11 H locs hp9 hP hD hS => ?_)
  obtain ⟨y12, h9u⟩ : ∃ z9, z9 = u11 := ⟨_, rfl⟩
  subst h9u
  have hP : va_P D vwCl (VW dA h ad y12) H := hP
  have hD : va_D A (VW dA h ad y12) := hD
  have f_g_13 := hp9
  obtain ⟨ga2, gn2, go2, gt2, gv2, gz2, ey, z1, z2, z3, z4, z5⟩ := gaR_u f_g_13
  subst ey
  have hP : va_P D vwCl (VW dA h ad (VS.s_gsize (VS.s_gV (VS.s_gT (VS.s_gO (VS.s_gN (VS.s_gA x ga2) gn2) go2) gt2) gv2) gz2)) H := hP
  have hD : va_D A (VW dA h ad (VS.s_gsize (VS.s_gV (VS.s_gT (VS.s_gO (VS.s_gN (VS.s_gA x ga2) gn2) go2) gt2) gv2) gz2)) := hD
  have z1 : gz2 = (cnt (PS k).n (x.sePc (PS k)) + cnt (PS (k + 1)).n (x.sePc (PS (k + 1)))) := z1
  have z3 : gn2 = capR (capR x.gN 0 (cnt (PS k).n (x.sePc (PS k)))) (cnt (PS k).n (x.sePc (PS k))) (cnt (PS (k + 1)).n (x.sePc (PS (k + 1)))) := z3
  have z2b : gz2 ≤ gn2 := z2
  have hgt : gat2 (x.sePc (PS k)) (x.sePc (PS (k + 1))) (PS k) (PS (k + 1)) go2 gt2 gv2 := gat2_m z5a z4 z5
  subst z1
  subst z3
  have hP : va_P D vwCl (VW dA h ad (VS.s_gsize (VS.s_gV (VS.s_gT (VS.s_gO (VS.s_gN (VS.s_gA x ga2) (capR (capR x.gN 0 (cnt (PS k).n (x.sePc (PS k)))) (cnt (PS k).n (x.sePc (PS k))) (cnt (PS (k + 1)).n (x.sePc (PS (k + 1)))))) go2) gt2) gv2) (cnt (PS k).n (x.sePc (PS k)) + cnt (PS (k + 1)).n (x.sePc (PS (k + 1)))))) H := hP
  have hD : va_D A (VW dA h ad (VS.s_gsize (VS.s_gV (VS.s_gT (VS.s_gO (VS.s_gN (VS.s_gA x ga2) (capR (capR x.gN 0 (cnt (PS k).n (x.sePc (PS k)))) (cnt (PS k).n (x.sePc (PS k))) (cnt (PS (k + 1)).n (x.sePc (PS (k + 1)))))) go2) gt2) gv2) (cnt (PS k).n (x.sePc (PS k)) + cnt (PS (k + 1)).n (x.sePc (PS (k + 1)))))) := hD
  refine lv_aload_n hx hb d_V_compact_78 rfl (lv_at hl 0 rfl) ?_
  refine lv_aload_n hx hb d_V_compact_79 rfl (lv_at hl 0 rfl) ?_
  refine gF (v := .ref (ad 2)) hx hb hown hE hK hP 0 rfl rfl layV 10 (by decide) w826 rfl d_V_compact_80 ?_
  refine jkR (wr := []) (rnV (As := [.ref (ad 2)]) (rest := []) hx hb hml hown hE hK (hN _ _ hS) hP hD (v_packed_1g l D dA H.size h ad (VS.s_gsize (VS.s_gV (VS.s_gT (VS.s_gO (VS.s_gN (VS.s_gA x ga2) (capR (capR x.gN 0 (cnt (PS k).n (x.sePc (PS k)))) (cnt (PS k).n (x.sePc (PS k))) (cnt (PS (k + 1)).n (x.sePc (PS (k + 1)))))) go2) gt2) gv2) (cnt (PS k).n (x.sePc (PS k)) + cnt (PS (k + 1)).n (x.sePc (PS (k + 1))))) hz hc12 z2b (show (capR (capR x.gN 0 (cnt (PS k).n (x.sePc (PS k)))) (cnt (PS k).n (x.sePc (PS k))) (cnt (PS (k + 1)).n (x.sePc (PS (k + 1))))) ≤ 65536 from by omega) hn (gat_o hgt (hpo k (by omega)) (hpo (k + 1) (by omega)))) (q0 := 0) rfl rfl w1383 w1382 w1384 w1385 w277 rfl rfl ⟨⟨by decide, by decide⟩, rfl⟩ ⟨(Nat.le_of_ble_eq_true rfl), (Nat.le_of_ble_eq_true rfl)⟩ rfl hl.1 rfl (Nat.le_of_ble_eq_true rfl) d_V_compact_83 ⟨(show 0 + 0 + 0 + (3 * (capR x.gN 0 (cnt (PS k).n (x.sePc (PS k))) - x.gN)) + (3 * (capR (capR x.gN 0 (cnt (PS k).n (x.sePc (PS k)))) (cnt (PS k).n (x.sePc (PS k))) (cnt (PS (k + 1)).n (x.sePc (PS (k + 1)))) - (capR x.gN 0 (cnt (PS k).n (x.sePc (PS k)))))) + 5 ≤ 3 * (capR (capR x.gN 0 (cnt (PS k).n (x.sePc (PS k)))) (cnt (PS k).n (x.sePc (PS k))) (cnt (PS (k + 1)).n (x.sePc (PS (k + 1)))) - x.gN) + 6 by omega), (show 0 + 0 + 0 + (6 * (capR x.gN 0 (cnt (PS k).n (x.sePc (PS k))) - x.gN)) + (6 * (capR (capR x.gN 0 (cnt (PS k).n (x.sePc (PS k)))) (cnt (PS k).n (x.sePc (PS k))) (cnt (PS (k + 1)).n (x.sePc (PS (k + 1)))) - (capR x.gN 0 (cnt (PS k).n (x.sePc (PS k)))))) + (8 + (3 * (cnt (PS k).n (x.sePc (PS k)) + cnt (PS (k + 1)).n (x.sePc (PS (k + 1)))) + x.nser + 1)) ≤ 6 * (capR (capR x.gN 0 (cnt (PS k).n (x.sePc (PS k)))) (cnt (PS k).n (x.sePc (PS k))) (cnt (PS (k + 1)).n (x.sePc (PS (k + 1)))) - x.gN) + (14 + (3 * (cnt (PS k).n (x.sePc (PS k)) + cnt (PS (k + 1)).n (x.sePc (PS (k + 1)))) + x.nser + 1)) by omega)⟩) hP hD hS hA (fun u14 mp H locs hp9 hP hD hS => ?_)
  obtain ⟨y15, O, T, V⟩ := u14
  have hP : va_P D vwCl (VW dA h ad y15) H := hP
  have hD : va_D A (VW dA h ad y15) := hD
  obtain ⟨f_ey_16, f_pc_17, f_l1_18, f_l2_19, f_l3_20, f_l4_21⟩ := hp9
  obtain ⟨hy, hsub⟩ := f_ey_16
  have hpc := f_pc_17
  obtain ⟨pl1, epl⟩ : ∃ z, z = y15.pl := ⟨_, rfl⟩
  rw [← epl] at hy hsub hpc
  subst hy
  have hP : va_P D vwCl (VW dA h ad (VS.s_pl (VS.s_gsize (VS.s_gV (VS.s_gT (VS.s_gO (VS.s_gN (VS.s_gA x ga2) (capR (capR x.gN 0 (cnt (PS k).n (x.sePc (PS k)))) (cnt (PS k).n (x.sePc (PS k))) (cnt (PS (k + 1)).n (x.sePc (PS (k + 1)))))) go2) gt2) gv2) (cnt (PS k).n (x.sePc (PS k)) + cnt (PS (k + 1)).n (x.sePc (PS (k + 1))))) pl1)) H := hP
  have hD : va_D A (VW dA h ad (VS.s_pl (VS.s_gsize (VS.s_gV (VS.s_gT (VS.s_gO (VS.s_gN (VS.s_gA x ga2) (capR (capR x.gN 0 (cnt (PS k).n (x.sePc (PS k)))) (cnt (PS k).n (x.sePc (PS k))) (cnt (PS (k + 1)).n (x.sePc (PS (k + 1)))))) go2) gt2) gv2) (cnt (PS k).n (x.sePc (PS k)) + cnt (PS (k + 1)).n (x.sePc (PS (k + 1))))) pl1)) := hD
  have hok : pcOk (mkP (cnt (PS k).n (x.sePc (PS k)) + cnt (PS (k + 1)).n (x.sePc (PS (k + 1)))) O T V) := mkP_ok hc12 f_l4_21
  have hps1 := psOk_m hsub hps
  have hb0 := hbl go2 O gt2 gv2 T V hgt f_l1_18 f_l2_19 f_l3_20
  refine lv_astore_n hx hb d_V_compact_86 rfl hl (by decide) rfl (fun ls hl => ?_)
  have hl : lv_has ls 4 [(2, .ref mp), (0, .ref h), (1, .int (nI k))] := hl
  refine lv_aload_n hx hb d_V_compact_87 rfl (lv_at hl 0 rfl) ?_
  refine jkI (wr := []) (rnS (As := [.ref mp]) (rest := []) hx hb hml hown hE hK (hN _ _ hS) hP hD (v_blocksOf l D dA H.size (VW dA h ad (VS.s_pl (VS.s_gsize (VS.s_gV (VS.s_gT (VS.s_gO (VS.s_gN (VS.s_gA x ga2) (capR (capR x.gN 0 (cnt (PS k).n (x.sePc (PS k)))) (cnt (PS k).n (x.sePc (PS k))) (cnt (PS (k + 1)).n (x.sePc (PS (k + 1)))))) go2) gt2) gv2) (cnt (PS k).n (x.sePc (PS k)) + cnt (PS (k + 1)).n (x.sePc (PS (k + 1))))) pl1)) mp (mkP (cnt (PS k).n (x.sePc (PS k)) + cnt (PS (k + 1)).n (x.sePc (PS (k + 1)))) O T V) (isPc_m (fun _ hm => (plm hm)) hpc)) w1391 w1390 w1392 w277 rfl rfl ⟨⟨by decide, by decide⟩, rfl⟩ ⟨(Nat.le_of_ble_eq_true rfl), (Nat.le_of_ble_eq_true rfl)⟩ rfl hl.1 rfl (Nat.le_of_ble_eq_true rfl) d_V_compact_88 ⟨(show 0 + 0 + 0 + (3 * (capR x.gN 0 (cnt (PS k).n (x.sePc (PS k))) - x.gN)) + (3 * (capR (capR x.gN 0 (cnt (PS k).n (x.sePc (PS k)))) (cnt (PS k).n (x.sePc (PS k))) (cnt (PS (k + 1)).n (x.sePc (PS (k + 1)))) - (capR x.gN 0 (cnt (PS k).n (x.sePc (PS k)))))) + 5 + 0 ≤ 3 * (capR (capR x.gN 0 (cnt (PS k).n (x.sePc (PS k)))) (cnt (PS k).n (x.sePc (PS k))) (cnt (PS (k + 1)).n (x.sePc (PS (k + 1)))) - x.gN) + 6 by omega), (show 0 + 0 + 0 + (6 * (capR x.gN 0 (cnt (PS k).n (x.sePc (PS k))) - x.gN)) + (6 * (capR (capR x.gN 0 (cnt (PS k).n (x.sePc (PS k)))) (cnt (PS k).n (x.sePc (PS k))) (cnt (PS (k + 1)).n (x.sePc (PS (k + 1)))) - (capR x.gN 0 (cnt (PS k).n (x.sePc (PS k)))))) + (8 + (3 * (cnt (PS k).n (x.sePc (PS k)) + cnt (PS (k + 1)).n (x.sePc (PS (k + 1)))) + x.nser + 1)) + 0 ≤ 6 * (capR (capR x.gN 0 (cnt (PS k).n (x.sePc (PS k)))) (cnt (PS k).n (x.sePc (PS k))) (cnt (PS (k + 1)).n (x.sePc (PS (k + 1)))) - x.gN) + (14 + (3 * (cnt (PS k).n (x.sePc (PS k)) + cnt (PS (k + 1)).n (x.sePc (PS (k + 1)))) + x.nser + 1)) by omega)⟩) hP hD hS hA (fun r22 u23 H locs hp9 hP hD hS => ?_)
  have hP : va_P D vwCl (VW dA h ad (VS.s_pl (VS.s_gsize (VS.s_gV (VS.s_gT (VS.s_gO (VS.s_gN (VS.s_gA x ga2) (capR (capR x.gN 0 (cnt (PS k).n (x.sePc (PS k)))) (cnt (PS k).n (x.sePc (PS k))) (cnt (PS (k + 1)).n (x.sePc (PS (k + 1)))))) go2) gt2) gv2) (cnt (PS k).n (x.sePc (PS k)) + cnt (PS (k + 1)).n (x.sePc (PS (k + 1))))) pl1)) H := hP
  have hD : va_D A (VW dA h ad (VS.s_pl (VS.s_gsize (VS.s_gV (VS.s_gT (VS.s_gO (VS.s_gN (VS.s_gA x ga2) (capR (capR x.gN 0 (cnt (PS k).n (x.sePc (PS k)))) (cnt (PS k).n (x.sePc (PS k))) (cnt (PS (k + 1)).n (x.sePc (PS (k + 1)))))) go2) gt2) gv2) (cnt (PS k).n (x.sePc (PS k)) + cnt (PS (k + 1)).n (x.sePc (PS (k + 1))))) pl1)) := hD
  replace hp9 : nI (mkP (cnt (PS k).n (x.sePc (PS k)) + cnt (PS (k + 1)).n (x.sePc (PS (k + 1)))) O T V).bl = r22 := Eq.symm hp9
  subst hp9
  refine tpi (y := nI nb) (blX hb0) ?_
  refine lv_aload_n hx hb d_V_compact_91 rfl (lv_at hl 1 rfl) ?_
  refine jkI (wr := []) (rnV (As := []) (rest := [.int (nI nb)]) hx hb hml hown hE hK (hN _ _ hS) hP hD (v_freeBlocks l D dA H.size h ad (VS.s_pl (VS.s_gsize (VS.s_gV (VS.s_gT (VS.s_gO (VS.s_gN (VS.s_gA x ga2) (capR (capR x.gN 0 (cnt (PS k).n (x.sePc (PS k)))) (cnt (PS k).n (x.sePc (PS k))) (cnt (PS (k + 1)).n (x.sePc (PS (k + 1)))))) go2) gt2) gv2) (cnt (PS k).n (x.sePc (PS k)) + cnt (PS (k + 1)).n (x.sePc (PS (k + 1))))) pl1) PS hps1 (show x.npc ≤ 32 from by omega) hfr) (q0 := 0) rfl rfl w644 w643 w645 w646 w277 rfl rfl ⟨⟨by decide, by decide⟩, rfl⟩ ⟨(Nat.le_of_ble_eq_true rfl), (Nat.le_of_ble_eq_true rfl)⟩ rfl hl.1 rfl (Nat.le_of_ble_eq_true rfl) d_V_compact_92 ⟨(show 0 + 0 + 0 + (3 * (capR x.gN 0 (cnt (PS k).n (x.sePc (PS k))) - x.gN)) + (3 * (capR (capR x.gN 0 (cnt (PS k).n (x.sePc (PS k)))) (cnt (PS k).n (x.sePc (PS k))) (cnt (PS (k + 1)).n (x.sePc (PS (k + 1)))) - (capR x.gN 0 (cnt (PS k).n (x.sePc (PS k)))))) + 5 + 0 + 0 ≤ 3 * (capR (capR x.gN 0 (cnt (PS k).n (x.sePc (PS k)))) (cnt (PS k).n (x.sePc (PS k))) (cnt (PS (k + 1)).n (x.sePc (PS (k + 1)))) - x.gN) + 6 by omega), (show 0 + 0 + 0 + (6 * (capR x.gN 0 (cnt (PS k).n (x.sePc (PS k))) - x.gN)) + (6 * (capR (capR x.gN 0 (cnt (PS k).n (x.sePc (PS k)))) (cnt (PS k).n (x.sePc (PS k))) (cnt (PS (k + 1)).n (x.sePc (PS (k + 1)))) - (capR x.gN 0 (cnt (PS k).n (x.sePc (PS k)))))) + (8 + (3 * (cnt (PS k).n (x.sePc (PS k)) + cnt (PS (k + 1)).n (x.sePc (PS (k + 1)))) + x.nser + 1)) + 0 + 0 ≤ 6 * (capR (capR x.gN 0 (cnt (PS k).n (x.sePc (PS k)))) (cnt (PS k).n (x.sePc (PS k))) (cnt (PS (k + 1)).n (x.sePc (PS (k + 1)))) - x.gN) + (14 + (3 * (cnt (PS k).n (x.sePc (PS k)) + cnt (PS (k + 1)).n (x.sePc (PS (k + 1)))) + x.nser + 1)) by omega)⟩) hP hD hS hA (fun r24 u25 H locs hp9 hP hD hS => ?_)
  have hP : va_P D vwCl (VW dA h ad (VS.s_pl (VS.s_gsize (VS.s_gV (VS.s_gT (VS.s_gO (VS.s_gN (VS.s_gA x ga2) (capR (capR x.gN 0 (cnt (PS k).n (x.sePc (PS k)))) (cnt (PS k).n (x.sePc (PS k))) (cnt (PS (k + 1)).n (x.sePc (PS (k + 1)))))) go2) gt2) gv2) (cnt (PS k).n (x.sePc (PS k)) + cnt (PS (k + 1)).n (x.sePc (PS (k + 1))))) pl1)) H := hP
  have hD : va_D A (VW dA h ad (VS.s_pl (VS.s_gsize (VS.s_gV (VS.s_gT (VS.s_gO (VS.s_gN (VS.s_gA x ga2) (capR (capR x.gN 0 (cnt (PS k).n (x.sePc (PS k)))) (cnt (PS k).n (x.sePc (PS k))) (cnt (PS (k + 1)).n (x.sePc (PS (k + 1)))))) go2) gt2) gv2) (cnt (PS k).n (x.sePc (PS k)) + cnt (PS (k + 1)).n (x.sePc (PS (k + 1))))) pl1)) := hD
  replace hp9 : nI (x.fr PS) = r24 := Eq.symm hp9
  subst hp9
  refine lv_icmp_le hx hb d_V_compact_95 (tgt := 106) rfl (fun _ => ?_) (fun h9 => absurd ((nI_leI (a := nb) (b := x.fr PS) (by omega) (by omega)).mpr hf) h9)
  refine lv_aload_n hx hb d_V_compact_106 rfl (lv_at hl 1 rfl) ?_
  refine gF (v := .int (nI x.writes)) hx hb hown hE hK hP 0 rfl rfl layV 7 (by decide) w209 rfl d_V_compact_107 ?_
  refine lv_istore_n hx hb d_V_compact_110 rfl hl (by decide) rfl (fun ls hl => ?_)
  have hl : lv_has ls 4 [(3, .int (nI x.writes)), (2, .ref mp), (0, .ref h), (1, .int (nI k))] := hl
  refine lv_aload_n hx hb d_V_compact_111 rfl (lv_at hl 2 rfl) ?_
  refine xfV (w1 := VW dA h ad (VS.s_pl (VS.s_gsize (VS.s_gV (VS.s_gT (VS.s_gO (VS.s_gN (VS.s_gA (VS.s_cutLeft (VS.s_powered x false) (-1)) ga2) (capR (capR x.gN 0 (cnt (PS k).n (x.sePc (PS k)))) (cnt (PS k).n (x.sePc (PS k))) (cnt (PS (k + 1)).n (x.sePc (PS (k + 1)))))) go2) gt2) gv2) (cnt (PS k).n (x.sePc (PS k)) + cnt (PS (k + 1)).n (x.sePc (PS (k + 1))))) pl1)) (As := []) (rest := []) hx hb hml hown hE hK (hN _ _ hS) (v_writeJournalBlock_x l htr D dA H.size h ad (VS.s_pl (VS.s_gsize (VS.s_gV (VS.s_gT (VS.s_gO (VS.s_gN (VS.s_gA x ga2) (capR (capR x.gN 0 (cnt (PS k).n (x.sePc (PS k)))) (cnt (PS k).n (x.sePc (PS k))) (cnt (PS (k + 1)).n (x.sePc (PS (k + 1)))))) go2) gt2) gv2) (cnt (PS k).n (x.sePc (PS k)) + cnt (PS (k + 1)).n (x.sePc (PS (k + 1))))) pl1) hc2 hc) (q0 := 0) rfl rfl w315 w314 w316 w317 w277 rfl rfl ⟨⟨by decide, by decide⟩, rfl⟩ ⟨(Nat.le_of_ble_eq_true rfl), (Nat.le_of_ble_eq_true rfl)⟩ rfl hl.1 rfl (Nat.le_of_ble_eq_true rfl) d_V_compact_112 ⟨(show 0 + 0 + 0 + (3 * (capR x.gN 0 (cnt (PS k).n (x.sePc (PS k))) - x.gN)) + (3 * (capR (capR x.gN 0 (cnt (PS k).n (x.sePc (PS k)))) (cnt (PS k).n (x.sePc (PS k))) (cnt (PS (k + 1)).n (x.sePc (PS (k + 1)))) - (capR x.gN 0 (cnt (PS k).n (x.sePc (PS k)))))) + 5 + 0 + 0 + 1 ≤ 3 * (capR (capR x.gN 0 (cnt (PS k).n (x.sePc (PS k)))) (cnt (PS k).n (x.sePc (PS k))) (cnt (PS (k + 1)).n (x.sePc (PS (k + 1)))) - x.gN) + 6 by omega), (show 0 + 0 + 0 + (6 * (capR x.gN 0 (cnt (PS k).n (x.sePc (PS k))) - x.gN)) + (6 * (capR (capR x.gN 0 (cnt (PS k).n (x.sePc (PS k)))) (cnt (PS k).n (x.sePc (PS k))) (cnt (PS (k + 1)).n (x.sePc (PS (k + 1)))) - (capR x.gN 0 (cnt (PS k).n (x.sePc (PS k)))))) + (8 + (3 * (cnt (PS k).n (x.sePc (PS k)) + cnt (PS (k + 1)).n (x.sePc (PS (k + 1)))) + x.nser + 1)) + 0 + 0 + 6 ≤ 6 * (capR (capR x.gN 0 (cnt (PS k).n (x.sePc (PS k)))) (cnt (PS k).n (x.sePc (PS k))) (cnt (PS (k + 1)).n (x.sePc (PS (k + 1)))) - x.gN) + (14 + (3 * (cnt (PS k).n (x.sePc (PS k)) + cnt (PS (k + 1)).n (x.sePc (PS (k + 1)))) + x.nser + 1)) by omega)⟩ hP hD hS hA (fun xa26 ce H locs hP hD hS hce hcv hcl => ?_)
  have hP : va_P D vwCl (VW dA h ad (VS.s_pl (VS.s_gsize (VS.s_gV (VS.s_gT (VS.s_gO (VS.s_gN (VS.s_gA (VS.s_cutLeft (VS.s_powered x false) (-1)) ga2) (capR (capR x.gN 0 (cnt (PS k).n (x.sePc (PS k)))) (cnt (PS k).n (x.sePc (PS k))) (cnt (PS (k + 1)).n (x.sePc (PS (k + 1)))))) go2) gt2) gv2) (cnt (PS k).n (x.sePc (PS k)) + cnt (PS (k + 1)).n (x.sePc (PS (k + 1))))) pl1)) H := hP
  have hD : va_D A (VW dA h ad (VS.s_pl (VS.s_gsize (VS.s_gV (VS.s_gT (VS.s_gO (VS.s_gN (VS.s_gA (VS.s_cutLeft (VS.s_powered x false) (-1)) ga2) (capR (capR x.gN 0 (cnt (PS k).n (x.sePc (PS k)))) (cnt (PS k).n (x.sePc (PS k))) (cnt (PS (k + 1)).n (x.sePc (PS (k + 1)))))) go2) gt2) gv2) (cnt (PS k).n (x.sePc (PS k)) + cnt (PS (k + 1)).n (x.sePc (PS (k + 1))))) pl1)) := hD
  exact xOut hno hlk hce hcv hcl (fun t ht => xkE (VS.s_pl (VS.s_gsize (VS.s_gV (VS.s_gT (VS.s_gO (VS.s_gN (VS.s_gA (VS.s_cutLeft (VS.s_powered x false) (-1)) ga2) (capR (capR x.gN 0 (cnt (PS k).n (x.sePc (PS k)))) (cnt (PS k).n (x.sePc (PS k))) (cnt (PS (k + 1)).n (x.sePc (PS (k + 1)))))) go2) gt2) gv2) (cnt (PS k).n (x.sePc (PS k)) + cnt (PS (k + 1)).n (x.sePc (PS (k + 1))))) pl1) ⟨ga2, go2, gt2, gv2, pl1, hsub, rfl⟩ hP hD hS t (by rw [ht]; exact Nat.le_refl _) (fun q _ => by rw [ht])) hS.2.2 (show 0 + 0 + 0 + (3 * (capR x.gN 0 (cnt (PS k).n (x.sePc (PS k))) - x.gN)) + (3 * (capR (capR x.gN 0 (cnt (PS k).n (x.sePc (PS k)))) (cnt (PS k).n (x.sePc (PS k))) (cnt (PS (k + 1)).n (x.sePc (PS (k + 1)))) - (capR x.gN 0 (cnt (PS k).n (x.sePc (PS k)))))) + 5 + 0 + 0 + 1 ≤ 3 * (capR (capR x.gN 0 (cnt (PS k).n (x.sePc (PS k)))) (cnt (PS k).n (x.sePc (PS k))) (cnt (PS (k + 1)).n (x.sePc (PS (k + 1)))) - x.gN) + 6 by omega) (show 0 + 0 + 0 + (6 * (capR x.gN 0 (cnt (PS k).n (x.sePc (PS k))) - x.gN)) + (6 * (capR (capR x.gN 0 (cnt (PS k).n (x.sePc (PS k)))) (cnt (PS k).n (x.sePc (PS k))) (cnt (PS (k + 1)).n (x.sePc (PS (k + 1)))) - (capR x.gN 0 (cnt (PS k).n (x.sePc (PS k)))))) + (8 + (3 * (cnt (PS k).n (x.sePc (PS k)) + cnt (PS (k + 1)).n (x.sePc (PS (k + 1)))) + x.nser + 1)) + 0 + 0 + 6 ≤ 6 * (capR (capR x.gN 0 (cnt (PS k).n (x.sePc (PS k)))) (cnt (PS k).n (x.sePc (PS k))) (cnt (PS (k + 1)).n (x.sePc (PS (k + 1)))) - x.gN) + (14 + (3 * (cnt (PS k).n (x.sePc (PS k)) + cnt (PS (k + 1)).n (x.sePc (PS (k + 1)))) + x.nser + 1)) by omega)
set_option maxHeartbeats 4000000 in
set_option maxRecDepth 100000 in
theorem v_compact_j1 (l : Launch) (htr : l.stackTraces = false) (D : va_G) (dA : Nat → ClassId) (sz : Nat) (h : Nat) (ad : Nat → Nat) (x : VS) (PS : Nat → PT) (k : Nat) (nb : Nat) (k0 : Nat) (ho : x.powered = true) (hk : k + 2 ≤ x.npc) (hps : psOk dA x.nP x.npc x.pl PS) (hpn : x.npc ≤ 32) (h1 : x.nsc ≤ 64) (h7 : ∀ q : Nat, q < x.nsc → x.nsO q < 2 ^ 31) (hfr : x.jlimit + 2 + (x.ncat + sumN x.npc (blN PS)) ≤ x.diskBlocks) (hn : x.nser ≤ 256) (hdk : x.diskBlocks ≤ 256) (hg0 : 0 < x.gN) (hg1 : capR (capR x.gN 0 (cnt (PS k).n (x.sePc (PS k)))) (cnt (PS k).n (x.sePc (PS k))) (cnt (PS (k + 1)).n (x.sePc (PS (k + 1)))) ≤ 32768) (hwb : x.writes + 1000 < 2 ^ 31) (hpo : ∀ j : Nat, j < x.npc → ∀ i : Nat, i < (PS j).n → (PS j).o i < x.nser) (hz : 0 < (cnt (PS k).n (x.sePc (PS k)) + cnt (PS (k + 1)).n (x.sePc (PS (k + 1))))) (hc12 : (cnt (PS k).n (x.sePc (PS k)) + cnt (PS (k + 1)).n (x.sePc (PS (k + 1)))) ≤ 12000) (hbl : ∀ (gO O : Nat → Nat) (gT gV T V : Nat → Int64), gat2 (x.sePc (PS k)) (x.sePc (PS (k + 1))) (PS k) (PS (k + 1)) gO gT gV → laid gO (cnt (PS k).n (x.sePc (PS k)) + cnt (PS (k + 1)).n (x.sePc (PS (k + 1)))) (cnt (PS k).n (x.sePc (PS k)) + cnt (PS (k + 1)).n (x.sePc (PS (k + 1)))) gO O → laid gO (cnt (PS k).n (x.sePc (PS k)) + cnt (PS (k + 1)).n (x.sePc (PS (k + 1)))) (cnt (PS k).n (x.sePc (PS k)) + cnt (PS (k + 1)).n (x.sePc (PS (k + 1)))) gT T → laid gO (cnt (PS k).n (x.sePc (PS k)) + cnt (PS (k + 1)).n (x.sePc (PS (k + 1)))) (cnt (PS k).n (x.sePc (PS k)) + cnt (PS (k + 1)).n (x.sePc (PS (k + 1)))) gV V → (mkP (cnt (PS k).n (x.sePc (PS k)) + cnt (PS (k + 1)).n (x.sePc (PS (k + 1)))) O T V).bl = nb) (hf : nb ≤ x.fr PS) (hw : x.jch = false ∨ ¬ x.cutLeft = 0) (hk0 : k0 < nb + 1) (hcz : ∀ j : Nat, j < k0 → ¬ cutN x.wjC j = 0) (hc : cutN x.wjC k0 = 0) : mX l ⟨"SeriesVault", "compact", "(I)I"⟩ [Cond.code ⟨"SeriesVault", "compact", "(I)I"⟩ prog_1_method_40_code 4 (some FieldType.int)] { frames := 8, cells := 3 * (capR (capR x.gN 0 (cnt (PS k).n (x.sePc (PS k)))) (cnt (PS k).n (x.sePc (PS k))) (cnt (PS (k + 1)).n (x.sePc (PS (k + 1)))) - x.gN) + 6, slots := 6 * (capR (capR x.gN 0 (cnt (PS k).n (x.sePc (PS k)))) (cnt (PS k).n (x.sePc (PS k))) (cnt (PS (k + 1)).n (x.sePc (PS (k + 1)))) - x.gN) + (14 + (3 * (cnt (PS k).n (x.sePc (PS k)) + cnt (PS (k + 1)).n (x.sePc (PS (k + 1)))) + x.nser + 1)), locals := 124 } (pC D dA [.ref h, .int (nI k)] (VW dA h ad x) sz) "java/lang/IllegalStateException" (fun st9 t9 => va_F (va_A (VW dA h ad x) sz) st9 t9 ∧ ∃ u9 : VS, ((∃ (ga2 go2 : Nat → Nat) (gt2 gv2 : Nat → Int64) (pl1 : va_W), (∀ c, c ∈ x.pl → c ∈ pl1) ∧ u9 = x.cpJ PS k ga2 go2 gt2 gv2 pl1 k0)) ∧ bW D (va_A (VW dA h ad x) sz) (VW dA h ad u9) t9) (3 * (capR (capR x.gN 0 (cnt (PS k).n (x.sePc (PS k)))) (cnt (PS k).n (x.sePc (PS k))) (cnt (PS (k + 1)).n (x.sePc (PS (k + 1)))) - x.gN) + 6) (6 * (capR (capR x.gN 0 (cnt (PS k).n (x.sePc (PS k)))) (cnt (PS k).n (x.sePc (PS k))) (cnt (PS (k + 1)).n (x.sePc (PS (k + 1)))) - x.gN) + (14 + (3 * (cnt (PS k).n (x.sePc (PS k)) + cnt (PS (k + 1)).n (x.sePc (PS (k + 1)))) + x.nser + 1))) (va_A (VW dA h ad x) sz) := by
  refine mkX (y := ⟨"SeriesVault", "compact", "(I)I"⟩) (cc := prog_1_method_40_code) (maxL := 4) (av := [.ref h, .int (nI k)]) (ws := VW dA h ad x) (sz := sz) (B := fun A => (fun st9 t9 => va_F A st9 t9 ∧ ∃ u9 : VS, ((∃ (ga2 go2 : Nat → Nat) (gt2 gv2 : Nat → Int64) (pl1 : va_W), (∀ c, c ∈ x.pl → c ∈ pl1) ∧ u9 = x.cpJ PS k ga2 go2 gt2 gv2 pl1 k0)) ∧ bW D A (VW dA h ad u9) t9)) (by decide) (Nat.le_of_ble_eq_true rfl) ?_
  intro A p e s m below meth c ls hsz hno hB
  obtain ⟨hx, hb, hr, hml, hown, hin, hlk, hE, hK, hP, hD, hS, hA, hN, hl⟩ := hB
  have hown : s.vm.findClass "SeriesVault" = some m.cls := hown
  have hl : lv_has ls 4 [(0, .ref h), (1, .int (nI k))] := hl
  obtain ⟨H, hH⟩ : ∃ z, z = s.heap := ⟨_, rfl⟩
  have hP : va_P D vwCl (VW dA h ad x) H := by rw [hH]; exact hP
  have hS : va_S A s.heap H [] := by rw [hH]; exact hS
  rw [← hH]
  refine lv_aload_n hx hb d_V_compact_0 rfl (lv_at hl 0 rfl) ?_
  refine jkV (wr := []) (rnV (As := []) (rest := []) hx hb hml hown hE hK (hN _ _ hS) hP hD (v_checkPower l D dA H.size h ad x ho) (q0 := 0) rfl rfl w278 w276 w279 w280 w277 rfl rfl ⟨⟨by decide, by decide⟩, rfl⟩ ⟨(Nat.le_of_ble_eq_true rfl), (Nat.le_of_ble_eq_true rfl)⟩ rfl hl.1 rfl (Nat.le_of_ble_eq_true rfl) d_V_compact_1 ⟨(show 0 + 0 ≤ 3 * (capR (capR x.gN 0 (cnt (PS k).n (x.sePc (PS k)))) (cnt (PS k).n (x.sePc (PS k))) (cnt (PS (k + 1)).n (x.sePc (PS (k + 1)))) - x.gN) + 6 by omega), (show 0 + 0 ≤ 6 * (capR (capR x.gN 0 (cnt (PS k).n (x.sePc (PS k)))) (cnt (PS k).n (x.sePc (PS k))) (cnt (PS (k + 1)).n (x.sePc (PS (k + 1)))) - x.gN) + (14 + (3 * (cnt (PS k).n (x.sePc (PS k)) + cnt (PS (k + 1)).n (x.sePc (PS (k + 1)))) + x.nser + 1)) by omega)⟩) hP hD hS hA (fun u2 H locs hp9 hP hD hS => ?_)
  have hP : va_P D vwCl (VW dA h ad x) H := hP
  have hD : va_D A (VW dA h ad x) := hD
  refine lv_iload_n hx hb d_V_compact_4 rfl (lv_at hl 1 rfl) ?_
  refine lv_if_lt hx hb d_V_compact_5 (tgt := 21) rfl (fun h9 => absurd h9 (nI_pos (n := k) (by omega))) (fun _ => ?_)
  refine lv_iload_n hx hb d_V_compact_8 rfl (lv_at hl 1 rfl) ?_
  refine lv_aload_n hx hb d_V_compact_9 rfl (lv_at hl 0 rfl) ?_
  refine gF (v := .ref (ad 3)) hx hb hown hE hK hP 0 rfl rfl layV 11 (by decide) w297 rfl d_V_compact_10 ?_
  refine gFN (v := .int (nI x.npc)) hx hb hown hE hK hP 17 rfl rfl layH 1 (by decide) w303 rfl d_V_compact_13 ?_
  refine lv_iconst (v := 1) hx hb d_V_compact_16 (by decide) ?_
  refine lv_isub hx hb d_V_compact_17 (tpi (y := nI (x.npc - 1)) (pk_sub (a := x.npc) (b := 1) (by omega)) ?_)
  refine lv_icmp_lt hx hb d_V_compact_18 (tgt := 29) rfl (fun g3 => ?_) (fun g3 => ?_)
  rotate_left
  · have g3 := mt (nI_ltI (a := k) (b := x.npc - 1) (by omega) (by omega)).mpr g3; exfalso; omega
  have g3 := (nI_ltI (a := k) (b := x.npc - 1) (by omega) (by omega)).mp g3
  obtain ⟨pp, ke, hpp, hpk⟩ := hps k (by omega)
  obtain ⟨qq, ke2, hqq, hqk⟩ := hps (k + 1) (by omega)
  have cl1 := cnt_le (PS k).n (x.sePc (PS k))
  have cl2 := cnt_le (PS (k + 1)).n (x.sePc (PS (k + 1)))
  have pk0 := hpk.1
  have qk0 := hqk.1
  have cm1 := capR_m (capR x.gN 0 (cnt (PS k).n (x.sePc (PS k)))) (cnt (PS k).n (x.sePc (PS k))) (Nat.zero_le (cnt (PS (k + 1)).n (x.sePc (PS (k + 1)))))
  have cm2 : capR (capR x.gN 0 (cnt (PS k).n (x.sePc (PS k)))) (cnt (PS k).n (x.sePc (PS k))) 0 = capR x.gN 0 (cnt (PS k).n (x.sePc (PS k))) := rfl
  have cm3 := capR_m x.gN 0 (Nat.zero_le (cnt (PS k).n (x.sePc (PS k))))
  have cm4 : capR x.gN 0 0 = x.gN := rfl
  have hfe : x.fr PS = x.diskBlocks - 2 - x.jlimit - (x.ncat + sumN x.npc (blN PS)) := rfl
  refine lv_aload_n hx hb d_V_compact_29 rfl (lv_at hl 0 rfl) ?_
  refine gF (v := .ref (ad 2)) hx hb hown hE hK hP 0 rfl rfl layV 10 (by decide) w826 rfl d_V_compact_30 ?_
  refine jkV (wr := []) (rnV (As := []) (rest := []) hx hb hml hown hE hK (hN _ _ hS) hP hD (v_pclear_g l D dA H.size h ad x) (q0 := 13) rfl rfl w579 w577 w580 w581 w578 rfl rfl ⟨⟨by decide, by decide⟩, rfl⟩ ⟨(Nat.le_of_ble_eq_true rfl), (Nat.le_of_ble_eq_true rfl)⟩ rfl hl.1 rfl (Nat.le_of_ble_eq_true rfl) d_V_compact_33 ⟨(show 0 + 0 + 0 ≤ 3 * (capR (capR x.gN 0 (cnt (PS k).n (x.sePc (PS k)))) (cnt (PS k).n (x.sePc (PS k))) (cnt (PS (k + 1)).n (x.sePc (PS (k + 1)))) - x.gN) + 6 by omega), (show 0 + 0 + 0 ≤ 6 * (capR (capR x.gN 0 (cnt (PS k).n (x.sePc (PS k)))) (cnt (PS k).n (x.sePc (PS k))) (cnt (PS (k + 1)).n (x.sePc (PS (k + 1)))) - x.gN) + (14 + (3 * (cnt (PS k).n (x.sePc (PS k)) + cnt (PS (k + 1)).n (x.sePc (PS (k + 1)))) + x.nser + 1)) by omega)⟩) hP hD hS hA (fun u5 H locs hp9 hP hD hS => ?_)
  have hP : va_P D vwCl (VW dA h ad (VS.s_gsize x 0)) H := hP
  have hD : va_D A (VW dA h ad (VS.s_gsize x 0)) := hD
  refine lv_aload_n hx hb d_V_compact_36 rfl (lv_at hl 0 rfl) ?_
  refine gF (v := .ref (ad 3)) hx hb hown hE hK hP 0 rfl rfl layV 11 (by decide) w297 rfl d_V_compact_37 ?_
  refine lv_aload_n hx hb d_V_compact_40 rfl (lv_at hl 0 rfl) ?_
  refine gF (v := .ref (ad 3)) hx hb hown hE hK hP 0 rfl rfl layV 11 (by decide) w297 rfl d_V_compact_41 ?_
  refine gFN (v := .ref (ad 4)) hx hb hown hE hK hP 17 rfl rfl layH 0 (by decide) w1347 rfl d_V_compact_44 ?_
  refine lv_iload_n hx hb d_V_compact_47 rfl (lv_at hl 1 rfl) ?_
  refine nqld (f := x.nP) (n := 32) hx hb hK hP (18) 4 rfl rfl (k) (by omega) (by decide) ke d_V_compact_48 ?_
  refine lv_aload_n hx hb d_V_compact_49 rfl (lv_at hl 0 rfl) ?_
  refine gF (v := .ref (ad 2)) hx hb hown hE hK hP 0 rfl rfl layV 10 (by decide) w826 rfl d_V_compact_50 ?_
  refine jkV (wr := []) (rnV (As := [.ref pp, .ref (ad 2)]) (rest := []) hx hb hml hown hE hK (hN _ _ hS) hP hD (v_gatherSeen l D dA H.size h ad (VS.s_gsize x 0) pp (PS k) hpp hpk (show x.nsc ≤ 64 from by omega) h7 (Nat.zero_le _) (show 0 < x.gN from by omega) (show capR x.gN 0 (cnt (PS k).n (x.sePc (PS k))) ≤ 32768 from by omega)) (q0 := 17) rfl rfl w1751 w1750 w1752 w1753 w583 rfl rfl ⟨⟨by decide, by decide⟩, rfl⟩ ⟨(Nat.le_of_ble_eq_true rfl), (Nat.le_of_ble_eq_true rfl)⟩ rfl hl.1 rfl (Nat.le_of_ble_eq_true rfl) d_V_compact_53 ⟨(show 0 + 0 + 0 + (3 * (capR x.gN 0 (cnt (PS k).n (x.sePc (PS k))) - x.gN)) ≤ 3 * (capR (capR x.gN 0 (cnt (PS k).n (x.sePc (PS k)))) (cnt (PS k).n (x.sePc (PS k))) (cnt (PS (k + 1)).n (x.sePc (PS (k + 1)))) - x.gN) + 6 by omega), (show 0 + 0 + 0 + (6 * (capR x.gN 0 (cnt (PS k).n (x.sePc (PS k))) - x.gN)) ≤ 6 * (capR (capR x.gN 0 (cnt (PS k).n (x.sePc (PS k)))) (cnt (PS k).n (x.sePc (PS k))) (cnt (PS (k + 1)).n (x.sePc (PS (k + 1)))) - x.gN) + (14 + (3 * (cnt (PS k).n (x.sePc (PS k)) + cnt (PS (k + 1)).n (x.sePc (PS (k + 1)))) + x.nser + 1)) by omega)⟩) hP hD hS hA (fun u7 H locs hp9 hP hD hS => ?_)
  obtain ⟨y8, h9u⟩ : ∃ z9, z9 = u7 := ⟨_, rfl⟩
  subst h9u
  have hP : va_P D vwCl (VW dA h ad y8) H := hP
  have hD : va_D A (VW dA h ad y8) := hD
  have f_g_9 := hp9
  obtain ⟨ga, gn, go, gt, gv, gz, ey, z1, z2, z3, z4, z5⟩ := gaR_u f_g_9
  subst ey
  have hP : va_P D vwCl (VW dA h ad (VS.s_gsize (VS.s_gV (VS.s_gT (VS.s_gO (VS.s_gN (VS.s_gA x ga) gn) go) gt) gv) gz)) H := hP
  have hD : va_D A (VW dA h ad (VS.s_gsize (VS.s_gV (VS.s_gT (VS.s_gO (VS.s_gN (VS.s_gA x ga) gn) go) gt) gv) gz)) := hD
  have z1 : gz = cnt (PS k).n (x.sePc (PS k)) := z1.trans (Nat.zero_add _)
  have z3 : gn = capR x.gN 0 (cnt (PS k).n (x.sePc (PS k))) := z3
  have z5a : ∀ j, j < (PS k).n → x.sePc (PS k) j = true → go (0 + cnt j (x.sePc (PS k))) = (PS k).o j ∧ gt (0 + cnt j (x.sePc (PS k))) = (PS k).t j ∧ gv (0 + cnt j (x.sePc (PS k))) = (PS k).v j := z5
  have z2a := z2
  subst z1
  subst z3
  have hP : va_P D vwCl (VW dA h ad (VS.s_gsize (VS.s_gV (VS.s_gT (VS.s_gO (VS.s_gN (VS.s_gA x ga) (capR x.gN 0 (cnt (PS k).n (x.sePc (PS k))))) go) gt) gv) (cnt (PS k).n (x.sePc (PS k))))) H := hP
  have hD : va_D A (VW dA h ad (VS.s_gsize (VS.s_gV (VS.s_gT (VS.s_gO (VS.s_gN (VS.s_gA x ga) (capR x.gN 0 (cnt (PS k).n (x.sePc (PS k))))) go) gt) gv) (cnt (PS k).n (x.sePc (PS k))))) := hD
  refine lv_aload_n hx hb d_V_compact_56 rfl (lv_at hl 0 rfl) ?_
  refine gF (v := .ref (ad 3)) hx hb hown hE hK hP 0 rfl rfl layV 11 (by decide) w297 rfl d_V_compact_57 ?_
  refine lv_aload_n hx hb d_V_compact_60 rfl (lv_at hl 0 rfl) ?_
  refine gF (v := .ref (ad 3)) hx hb hown hE hK hP 0 rfl rfl layV 11 (by decide) w297 rfl d_V_compact_61 ?_
  refine gFN (v := .ref (ad 4)) hx hb hown hE hK hP 17 rfl rfl layH 0 (by decide) w1347 rfl d_V_compact_64 ?_
  refine lv_iload_n hx hb d_V_compact_67 rfl (lv_at hl 1 rfl) ?_
  refine lv_iconst (v := 1) hx hb d_V_compact_68 (by decide) ?_
  refine lv_iadd hx hb d_V_compact_69 (tpi (y := nI (k + 1)) (nI_add (k) (1)) ?_)
  refine nqld (f := x.nP) (n := 32) hx hb hK hP (18) 4 rfl rfl (k + 1) (by omega) (by decide) ke2 d_V_compact_70 ?_
  refine lv_aload_n hx hb d_V_compact_71 rfl (lv_at hl 0 rfl) ?_
  refine gF (v := .ref (ad 2)) hx hb hown hE hK hP 0 rfl rfl layV 10 (by decide) w826 rfl d_V_compact_72 ?_
  refine jkV (wr := []) (rnV (As := [.ref qq, .ref (ad 2)]) (rest := []) hx hb hml hown hE hK (hN _ _ hS) hP hD (v_gatherSeen l D dA H.size h ad (VS.s_gsize (VS.s_gV (VS.s_gT (VS.s_gO (VS.s_gN (VS.s_gA x ga) (capR x.gN 0 (cnt (PS k).n (x.sePc (PS k))))) go) gt) gv) (cnt (PS k).n (x.sePc (PS k)))) qq (PS (k + 1)) hqq hqk (show x.nsc ≤ 64 from by omega) h7 z2a (show 0 < (capR x.gN 0 (cnt (PS k).n (x.sePc (PS k)))) from by omega) hg1) (q0 := 17) rfl rfl w1751 w1750 w1752 w1753 w583 rfl rfl ⟨⟨by decide, by decide⟩, rfl⟩ ⟨(Nat.le_of_ble_eq_true rfl), (Nat.le_of_ble_eq_true rfl)⟩ rfl hl.1 rfl (Nat.le_of_ble_eq_true rfl) d_V_compact_75 ⟨(show 0 + 0 + 0 + (3 * (capR x.gN 0 (cnt (PS k).n (x.sePc (PS k))) - x.gN)) + (3 * (capR (capR x.gN 0 (cnt (PS k).n (x.sePc (PS k)))) (cnt (PS k).n (x.sePc (PS k))) (cnt (PS (k + 1)).n (x.sePc (PS (k + 1)))) - (capR x.gN 0 (cnt (PS k).n (x.sePc (PS k)))))) ≤ 3 * (capR (capR x.gN 0 (cnt (PS k).n (x.sePc (PS k)))) (cnt (PS k).n (x.sePc (PS k))) (cnt (PS (k + 1)).n (x.sePc (PS (k + 1)))) - x.gN) + 6 by omega), (show 0 + 0 + 0 + (6 * (capR x.gN 0 (cnt (PS k).n (x.sePc (PS k))) - x.gN)) + (6 * (capR (capR x.gN 0 (cnt (PS k).n (x.sePc (PS k)))) (cnt (PS k).n (x.sePc (PS k))) (cnt (PS (k + 1)).n (x.sePc (PS (k + 1)))) - (capR x.gN 0 (cnt (PS k).n (x.sePc (PS k)))))) ≤ 6 * (capR (capR x.gN 0 (cnt (PS k).n (x.sePc (PS k)))) (cnt (PS k).n (x.sePc (PS k))) (cnt (PS (k + 1)).n (x.sePc (PS (k + 1)))) - x.gN) + (14 + (3 * (cnt (PS k).n (x.sePc (PS k)) + cnt (PS (k + 1)).n (x.sePc (PS (k + 1)))) + x.nser + 1)) by omega)⟩) hP hD hS hA (fun u11 H locs hp9 hP hD hS => ?_)
  obtain ⟨y12, h9u⟩ : ∃ z9, z9 = u11 := ⟨_, rfl⟩
  subst h9u
  have hP : va_P D vwCl (VW dA h ad y12) H := hP
  have hD : va_D A (VW dA h ad y12) := hD
  have f_g_13 := hp9
  obtain ⟨ga2, gn2, go2, gt2, gv2, gz2, ey, z1, z2, z3, z4, z5⟩ := gaR_u f_g_13
  subst ey
  have hP : va_P D vwCl (VW dA h ad (VS.s_gsize (VS.s_gV (VS.s_gT (VS.s_gO (VS.s_gN (VS.s_gA x ga2) gn2) go2) gt2) gv2) gz2)) H := hP
  have hD : va_D A (VW dA h ad (VS.s_gsize (VS.s_gV (VS.s_gT (VS.s_gO (VS.s_gN (VS.s_gA x ga2) gn2) go2) gt2) gv2) gz2)) := hD
  have z1 : gz2 = (cnt (PS k).n (x.sePc (PS k)) + cnt (PS (k + 1)).n (x.sePc (PS (k + 1)))) := z1
  have z3 : gn2 = capR (capR x.gN 0 (cnt (PS k).n (x.sePc (PS k)))) (cnt (PS k).n (x.sePc (PS k))) (cnt (PS (k + 1)).n (x.sePc (PS (k + 1)))) := z3
  have z2b : gz2 ≤ gn2 := z2
  have hgt : gat2 (x.sePc (PS k)) (x.sePc (PS (k + 1))) (PS k) (PS (k + 1)) go2 gt2 gv2 := gat2_m z5a z4 z5
  subst z1
  subst z3
  have hP : va_P D vwCl (VW dA h ad (VS.s_gsize (VS.s_gV (VS.s_gT (VS.s_gO (VS.s_gN (VS.s_gA x ga2) (capR (capR x.gN 0 (cnt (PS k).n (x.sePc (PS k)))) (cnt (PS k).n (x.sePc (PS k))) (cnt (PS (k + 1)).n (x.sePc (PS (k + 1)))))) go2) gt2) gv2) (cnt (PS k).n (x.sePc (PS k)) + cnt (PS (k + 1)).n (x.sePc (PS (k + 1)))))) H := hP
  have hD : va_D A (VW dA h ad (VS.s_gsize (VS.s_gV (VS.s_gT (VS.s_gO (VS.s_gN (VS.s_gA x ga2) (capR (capR x.gN 0 (cnt (PS k).n (x.sePc (PS k)))) (cnt (PS k).n (x.sePc (PS k))) (cnt (PS (k + 1)).n (x.sePc (PS (k + 1)))))) go2) gt2) gv2) (cnt (PS k).n (x.sePc (PS k)) + cnt (PS (k + 1)).n (x.sePc (PS (k + 1)))))) := hD
  refine lv_aload_n hx hb d_V_compact_78 rfl (lv_at hl 0 rfl) ?_
  refine lv_aload_n hx hb d_V_compact_79 rfl (lv_at hl 0 rfl) ?_
  refine gF (v := .ref (ad 2)) hx hb hown hE hK hP 0 rfl rfl layV 10 (by decide) w826 rfl d_V_compact_80 ?_
  refine jkR (wr := []) (rnV (As := [.ref (ad 2)]) (rest := []) hx hb hml hown hE hK (hN _ _ hS) hP hD (v_packed_1g l D dA H.size h ad (VS.s_gsize (VS.s_gV (VS.s_gT (VS.s_gO (VS.s_gN (VS.s_gA x ga2) (capR (capR x.gN 0 (cnt (PS k).n (x.sePc (PS k)))) (cnt (PS k).n (x.sePc (PS k))) (cnt (PS (k + 1)).n (x.sePc (PS (k + 1)))))) go2) gt2) gv2) (cnt (PS k).n (x.sePc (PS k)) + cnt (PS (k + 1)).n (x.sePc (PS (k + 1))))) hz hc12 z2b (show (capR (capR x.gN 0 (cnt (PS k).n (x.sePc (PS k)))) (cnt (PS k).n (x.sePc (PS k))) (cnt (PS (k + 1)).n (x.sePc (PS (k + 1))))) ≤ 65536 from by omega) hn (gat_o hgt (hpo k (by omega)) (hpo (k + 1) (by omega)))) (q0 := 0) rfl rfl w1383 w1382 w1384 w1385 w277 rfl rfl ⟨⟨by decide, by decide⟩, rfl⟩ ⟨(Nat.le_of_ble_eq_true rfl), (Nat.le_of_ble_eq_true rfl)⟩ rfl hl.1 rfl (Nat.le_of_ble_eq_true rfl) d_V_compact_83 ⟨(show 0 + 0 + 0 + (3 * (capR x.gN 0 (cnt (PS k).n (x.sePc (PS k))) - x.gN)) + (3 * (capR (capR x.gN 0 (cnt (PS k).n (x.sePc (PS k)))) (cnt (PS k).n (x.sePc (PS k))) (cnt (PS (k + 1)).n (x.sePc (PS (k + 1)))) - (capR x.gN 0 (cnt (PS k).n (x.sePc (PS k)))))) + 5 ≤ 3 * (capR (capR x.gN 0 (cnt (PS k).n (x.sePc (PS k)))) (cnt (PS k).n (x.sePc (PS k))) (cnt (PS (k + 1)).n (x.sePc (PS (k + 1)))) - x.gN) + 6 by omega), (show 0 + 0 + 0 + (6 * (capR x.gN 0 (cnt (PS k).n (x.sePc (PS k))) - x.gN)) + (6 * (capR (capR x.gN 0 (cnt (PS k).n (x.sePc (PS k)))) (cnt (PS k).n (x.sePc (PS k))) (cnt (PS (k + 1)).n (x.sePc (PS (k + 1)))) - (capR x.gN 0 (cnt (PS k).n (x.sePc (PS k)))))) + (8 + (3 * (cnt (PS k).n (x.sePc (PS k)) + cnt (PS (k + 1)).n (x.sePc (PS (k + 1)))) + x.nser + 1)) ≤ 6 * (capR (capR x.gN 0 (cnt (PS k).n (x.sePc (PS k)))) (cnt (PS k).n (x.sePc (PS k))) (cnt (PS (k + 1)).n (x.sePc (PS (k + 1)))) - x.gN) + (14 + (3 * (cnt (PS k).n (x.sePc (PS k)) + cnt (PS (k + 1)).n (x.sePc (PS (k + 1)))) + x.nser + 1)) by omega)⟩) hP hD hS hA (fun u14 mp H locs hp9 hP hD hS => ?_)
  obtain ⟨y15, O, T, V⟩ := u14
  have hP : va_P D vwCl (VW dA h ad y15) H := hP
  have hD : va_D A (VW dA h ad y15) := hD
  obtain ⟨f_ey_16, f_pc_17, f_l1_18, f_l2_19, f_l3_20, f_l4_21⟩ := hp9
  obtain ⟨hy, hsub⟩ := f_ey_16
  have hpc := f_pc_17
  obtain ⟨pl1, epl⟩ : ∃ z, z = y15.pl := ⟨_, rfl⟩
  rw [← epl] at hy hsub hpc
  subst hy
  have hP : va_P D vwCl (VW dA h ad (VS.s_pl (VS.s_gsize (VS.s_gV (VS.s_gT (VS.s_gO (VS.s_gN (VS.s_gA x ga2) (capR (capR x.gN 0 (cnt (PS k).n (x.sePc (PS k)))) (cnt (PS k).n (x.sePc (PS k))) (cnt (PS (k + 1)).n (x.sePc (PS (k + 1)))))) go2) gt2) gv2) (cnt (PS k).n (x.sePc (PS k)) + cnt (PS (k + 1)).n (x.sePc (PS (k + 1))))) pl1)) H := hP
  have hD : va_D A (VW dA h ad (VS.s_pl (VS.s_gsize (VS.s_gV (VS.s_gT (VS.s_gO (VS.s_gN (VS.s_gA x ga2) (capR (capR x.gN 0 (cnt (PS k).n (x.sePc (PS k)))) (cnt (PS k).n (x.sePc (PS k))) (cnt (PS (k + 1)).n (x.sePc (PS (k + 1)))))) go2) gt2) gv2) (cnt (PS k).n (x.sePc (PS k)) + cnt (PS (k + 1)).n (x.sePc (PS (k + 1))))) pl1)) := hD
  have hok : pcOk (mkP (cnt (PS k).n (x.sePc (PS k)) + cnt (PS (k + 1)).n (x.sePc (PS (k + 1)))) O T V) := mkP_ok hc12 f_l4_21
  have hps1 := psOk_m hsub hps
  have hb0 := hbl go2 O gt2 gv2 T V hgt f_l1_18 f_l2_19 f_l3_20
  refine lv_astore_n hx hb d_V_compact_86 rfl hl (by decide) rfl (fun ls hl => ?_)
  have hl : lv_has ls 4 [(2, .ref mp), (0, .ref h), (1, .int (nI k))] := hl
  refine lv_aload_n hx hb d_V_compact_87 rfl (lv_at hl 0 rfl) ?_
  refine jkI (wr := []) (rnS (As := [.ref mp]) (rest := []) hx hb hml hown hE hK (hN _ _ hS) hP hD (v_blocksOf l D dA H.size (VW dA h ad (VS.s_pl (VS.s_gsize (VS.s_gV (VS.s_gT (VS.s_gO (VS.s_gN (VS.s_gA x ga2) (capR (capR x.gN 0 (cnt (PS k).n (x.sePc (PS k)))) (cnt (PS k).n (x.sePc (PS k))) (cnt (PS (k + 1)).n (x.sePc (PS (k + 1)))))) go2) gt2) gv2) (cnt (PS k).n (x.sePc (PS k)) + cnt (PS (k + 1)).n (x.sePc (PS (k + 1))))) pl1)) mp (mkP (cnt (PS k).n (x.sePc (PS k)) + cnt (PS (k + 1)).n (x.sePc (PS (k + 1)))) O T V) (isPc_m (fun _ hm => (plm hm)) hpc)) w1391 w1390 w1392 w277 rfl rfl ⟨⟨by decide, by decide⟩, rfl⟩ ⟨(Nat.le_of_ble_eq_true rfl), (Nat.le_of_ble_eq_true rfl)⟩ rfl hl.1 rfl (Nat.le_of_ble_eq_true rfl) d_V_compact_88 ⟨(show 0 + 0 + 0 + (3 * (capR x.gN 0 (cnt (PS k).n (x.sePc (PS k))) - x.gN)) + (3 * (capR (capR x.gN 0 (cnt (PS k).n (x.sePc (PS k)))) (cnt (PS k).n (x.sePc (PS k))) (cnt (PS (k + 1)).n (x.sePc (PS (k + 1)))) - (capR x.gN 0 (cnt (PS k).n (x.sePc (PS k)))))) + 5 + 0 ≤ 3 * (capR (capR x.gN 0 (cnt (PS k).n (x.sePc (PS k)))) (cnt (PS k).n (x.sePc (PS k))) (cnt (PS (k + 1)).n (x.sePc (PS (k + 1)))) - x.gN) + 6 by omega), (show 0 + 0 + 0 + (6 * (capR x.gN 0 (cnt (PS k).n (x.sePc (PS k))) - x.gN)) + (6 * (capR (capR x.gN 0 (cnt (PS k).n (x.sePc (PS k)))) (cnt (PS k).n (x.sePc (PS k))) (cnt (PS (k + 1)).n (x.sePc (PS (k + 1)))) - (capR x.gN 0 (cnt (PS k).n (x.sePc (PS k)))))) + (8 + (3 * (cnt (PS k).n (x.sePc (PS k)) + cnt (PS (k + 1)).n (x.sePc (PS (k + 1)))) + x.nser + 1)) + 0 ≤ 6 * (capR (capR x.gN 0 (cnt (PS k).n (x.sePc (PS k)))) (cnt (PS k).n (x.sePc (PS k))) (cnt (PS (k + 1)).n (x.sePc (PS (k + 1)))) - x.gN) + (14 + (3 * (cnt (PS k).n (x.sePc (PS k)) + cnt (PS (k + 1)).n (x.sePc (PS (k + 1)))) + x.nser + 1)) by omega)⟩) hP hD hS hA (fun r22 u23 H locs hp9 hP hD hS => ?_)
  have hP : va_P D vwCl (VW dA h ad (VS.s_pl (VS.s_gsize (VS.s_gV (VS.s_gT (VS.s_gO (VS.s_gN (VS.s_gA x ga2) (capR (capR x.gN 0 (cnt (PS k).n (x.sePc (PS k)))) (cnt (PS k).n (x.sePc (PS k))) (cnt (PS (k + 1)).n (x.sePc (PS (k + 1)))))) go2) gt2) gv2) (cnt (PS k).n (x.sePc (PS k)) + cnt (PS (k + 1)).n (x.sePc (PS (k + 1))))) pl1)) H := hP
  have hD : va_D A (VW dA h ad (VS.s_pl (VS.s_gsize (VS.s_gV (VS.s_gT (VS.s_gO (VS.s_gN (VS.s_gA x ga2) (capR (capR x.gN 0 (cnt (PS k).n (x.sePc (PS k)))) (cnt (PS k).n (x.sePc (PS k))) (cnt (PS (k + 1)).n (x.sePc (PS (k + 1)))))) go2) gt2) gv2) (cnt (PS k).n (x.sePc (PS k)) + cnt (PS (k + 1)).n (x.sePc (PS (k + 1))))) pl1)) := hD
  replace hp9 : nI (mkP (cnt (PS k).n (x.sePc (PS k)) + cnt (PS (k + 1)).n (x.sePc (PS (k + 1)))) O T V).bl = r22 := Eq.symm hp9
  subst hp9
  refine tpi (y := nI nb) (blX hb0) ?_
  refine lv_aload_n hx hb d_V_compact_91 rfl (lv_at hl 1 rfl) ?_
  refine jkI (wr := []) (rnV (As := []) (rest := [.int (nI nb)]) hx hb hml hown hE hK (hN _ _ hS) hP hD (v_freeBlocks l D dA H.size h ad (VS.s_pl (VS.s_gsize (VS.s_gV (VS.s_gT (VS.s_gO (VS.s_gN (VS.s_gA x ga2) (capR (capR x.gN 0 (cnt (PS k).n (x.sePc (PS k)))) (cnt (PS k).n (x.sePc (PS k))) (cnt (PS (k + 1)).n (x.sePc (PS (k + 1)))))) go2) gt2) gv2) (cnt (PS k).n (x.sePc (PS k)) + cnt (PS (k + 1)).n (x.sePc (PS (k + 1))))) pl1) PS hps1 (show x.npc ≤ 32 from by omega) hfr) (q0 := 0) rfl rfl w644 w643 w645 w646 w277 rfl rfl ⟨⟨by decide, by decide⟩, rfl⟩ ⟨(Nat.le_of_ble_eq_true rfl), (Nat.le_of_ble_eq_true rfl)⟩ rfl hl.1 rfl (Nat.le_of_ble_eq_true rfl) d_V_compact_92 ⟨(show 0 + 0 + 0 + (3 * (capR x.gN 0 (cnt (PS k).n (x.sePc (PS k))) - x.gN)) + (3 * (capR (capR x.gN 0 (cnt (PS k).n (x.sePc (PS k)))) (cnt (PS k).n (x.sePc (PS k))) (cnt (PS (k + 1)).n (x.sePc (PS (k + 1)))) - (capR x.gN 0 (cnt (PS k).n (x.sePc (PS k)))))) + 5 + 0 + 0 ≤ 3 * (capR (capR x.gN 0 (cnt (PS k).n (x.sePc (PS k)))) (cnt (PS k).n (x.sePc (PS k))) (cnt (PS (k + 1)).n (x.sePc (PS (k + 1)))) - x.gN) + 6 by omega), (show 0 + 0 + 0 + (6 * (capR x.gN 0 (cnt (PS k).n (x.sePc (PS k))) - x.gN)) + (6 * (capR (capR x.gN 0 (cnt (PS k).n (x.sePc (PS k)))) (cnt (PS k).n (x.sePc (PS k))) (cnt (PS (k + 1)).n (x.sePc (PS (k + 1)))) - (capR x.gN 0 (cnt (PS k).n (x.sePc (PS k)))))) + (8 + (3 * (cnt (PS k).n (x.sePc (PS k)) + cnt (PS (k + 1)).n (x.sePc (PS (k + 1)))) + x.nser + 1)) + 0 + 0 ≤ 6 * (capR (capR x.gN 0 (cnt (PS k).n (x.sePc (PS k)))) (cnt (PS k).n (x.sePc (PS k))) (cnt (PS (k + 1)).n (x.sePc (PS (k + 1)))) - x.gN) + (14 + (3 * (cnt (PS k).n (x.sePc (PS k)) + cnt (PS (k + 1)).n (x.sePc (PS (k + 1)))) + x.nser + 1)) by omega)⟩) hP hD hS hA (fun r24 u25 H locs hp9 hP hD hS => ?_)
  have hP : va_P D vwCl (VW dA h ad (VS.s_pl (VS.s_gsize (VS.s_gV (VS.s_gT (VS.s_gO (VS.s_gN (VS.s_gA x ga2) (capR (capR x.gN 0 (cnt (PS k).n (x.sePc (PS k)))) (cnt (PS k).n (x.sePc (PS k))) (cnt (PS (k + 1)).n (x.sePc (PS (k + 1)))))) go2) gt2) gv2) (cnt (PS k).n (x.sePc (PS k)) + cnt (PS (k + 1)).n (x.sePc (PS (k + 1))))) pl1)) H := hP
  have hD : va_D A (VW dA h ad (VS.s_pl (VS.s_gsize (VS.s_gV (VS.s_gT (VS.s_gO (VS.s_gN (VS.s_gA x ga2) (capR (capR x.gN 0 (cnt (PS k).n (x.sePc (PS k)))) (cnt (PS k).n (x.sePc (PS k))) (cnt (PS (k + 1)).n (x.sePc (PS (k + 1)))))) go2) gt2) gv2) (cnt (PS k).n (x.sePc (PS k)) + cnt (PS (k + 1)).n (x.sePc (PS (k + 1))))) pl1)) := hD
  replace hp9 : nI (x.fr PS) = r24 := Eq.symm hp9
  subst hp9
  refine lv_icmp_le hx hb d_V_compact_95 (tgt := 106) rfl (fun _ => ?_) (fun h9 => absurd ((nI_leI (a := nb) (b := x.fr PS) (by omega) (by omega)).mpr hf) h9)
  refine lv_aload_n hx hb d_V_compact_106 rfl (lv_at hl 1 rfl) ?_
  refine gF (v := .int (nI x.writes)) hx hb hown hE hK hP 0 rfl rfl layV 7 (by decide) w209 rfl d_V_compact_107 ?_
  refine lv_istore_n hx hb d_V_compact_110 rfl hl (by decide) rfl (fun ls hl => ?_)
  have hl : lv_has ls 4 [(3, .int (nI x.writes)), (2, .ref mp), (0, .ref h), (1, .int (nI k))] := hl
  refine lv_aload_n hx hb d_V_compact_111 rfl (lv_at hl 2 rfl) ?_
  refine jkI (wr := []) (rnV (As := []) (rest := []) hx hb hml hown hE hK (hN _ _ hS) hP hD (v_wjb l D dA H.size h ad (VS.s_pl (VS.s_gsize (VS.s_gV (VS.s_gT (VS.s_gO (VS.s_gN (VS.s_gA x ga2) (capR (capR x.gN 0 (cnt (PS k).n (x.sePc (PS k)))) (cnt (PS k).n (x.sePc (PS k))) (cnt (PS (k + 1)).n (x.sePc (PS (k + 1)))))) go2) gt2) gv2) (cnt (PS k).n (x.sePc (PS k)) + cnt (PS (k + 1)).n (x.sePc (PS (k + 1))))) pl1) hw) (q0 := 0) rfl rfl w315 w314 w316 w317 w277 rfl rfl ⟨⟨by decide, by decide⟩, rfl⟩ ⟨(Nat.le_of_ble_eq_true rfl), (Nat.le_of_ble_eq_true rfl)⟩ rfl hl.1 rfl (Nat.le_of_ble_eq_true rfl) d_V_compact_112 ⟨(show 0 + 0 + 0 + (3 * (capR x.gN 0 (cnt (PS k).n (x.sePc (PS k))) - x.gN)) + (3 * (capR (capR x.gN 0 (cnt (PS k).n (x.sePc (PS k)))) (cnt (PS k).n (x.sePc (PS k))) (cnt (PS (k + 1)).n (x.sePc (PS (k + 1)))) - (capR x.gN 0 (cnt (PS k).n (x.sePc (PS k)))))) + 5 + 0 + 0 + 0 ≤ 3 * (capR (capR x.gN 0 (cnt (PS k).n (x.sePc (PS k)))) (cnt (PS k).n (x.sePc (PS k))) (cnt (PS (k + 1)).n (x.sePc (PS (k + 1)))) - x.gN) + 6 by omega), (show 0 + 0 + 0 + (6 * (capR x.gN 0 (cnt (PS k).n (x.sePc (PS k))) - x.gN)) + (6 * (capR (capR x.gN 0 (cnt (PS k).n (x.sePc (PS k)))) (cnt (PS k).n (x.sePc (PS k))) (cnt (PS (k + 1)).n (x.sePc (PS (k + 1)))) - (capR x.gN 0 (cnt (PS k).n (x.sePc (PS k)))))) + (8 + (3 * (cnt (PS k).n (x.sePc (PS k)) + cnt (PS (k + 1)).n (x.sePc (PS (k + 1)))) + x.nser + 1)) + 0 + 0 + 0 ≤ 6 * (capR (capR x.gN 0 (cnt (PS k).n (x.sePc (PS k)))) (cnt (PS k).n (x.sePc (PS k))) (cnt (PS (k + 1)).n (x.sePc (PS (k + 1)))) - x.gN) + (14 + (3 * (cnt (PS k).n (x.sePc (PS k)) + cnt (PS (k + 1)).n (x.sePc (PS (k + 1)))) + x.nser + 1)) by omega)⟩) hP hD hS hA (fun r26 u27 H locs hp9 hP hD hS => ?_)
  obtain ⟨y28, h9u⟩ : ∃ z9, z9 = u27 := ⟨_, rfl⟩
  subst h9u
  have hP : va_P D vwCl (VW dA h ad y28) H := hP
  have hD : va_D A (VW dA h ad y28) := hD
  obtain ⟨hp9, f_e_29⟩ := hp9
  replace hp9 : bI x.jch = r26 := Eq.symm hp9
  subst hp9
  refine lv_pop hx hb d_V_compact_115 rfl ?_
  have hw9 := f_e_29
  rw [wjS_r] at hw9
  subst hw9
  have hP : va_P D vwCl (VW dA h ad (VS.s_pl (VS.s_gsize (VS.s_gV (VS.s_gT (VS.s_gO (VS.s_gN (VS.s_gA (VS.s_jch (VS.s_jkept (VS.s_writes (VS.s_cutLeft x x.wjC) x.wjW) x.wjK) false) ga2) (capR (capR x.gN 0 (cnt (PS k).n (x.sePc (PS k)))) (cnt (PS k).n (x.sePc (PS k))) (cnt (PS (k + 1)).n (x.sePc (PS (k + 1)))))) go2) gt2) gv2) (cnt (PS k).n (x.sePc (PS k)) + cnt (PS (k + 1)).n (x.sePc (PS (k + 1))))) pl1)) H := hP
  have hD : va_D A (VW dA h ad (VS.s_pl (VS.s_gsize (VS.s_gV (VS.s_gT (VS.s_gO (VS.s_gN (VS.s_gA (VS.s_jch (VS.s_jkept (VS.s_writes (VS.s_cutLeft x x.wjC) x.wjW) x.wjK) false) ga2) (capR (capR x.gN 0 (cnt (PS k).n (x.sePc (PS k)))) (cnt (PS k).n (x.sePc (PS k))) (cnt (PS (k + 1)).n (x.sePc (PS (k + 1)))))) go2) gt2) gv2) (cnt (PS k).n (x.sePc (PS k)) + cnt (PS (k + 1)).n (x.sePc (PS (k + 1))))) pl1)) := hD
  have ww := wjW_le x
  refine lv_aload_n hx hb d_V_compact_116 rfl (lv_at hl 2 rfl) ?_
  refine lv_aload_n hx hb d_V_compact_117 rfl (lv_at hl 1 rfl) ?_
  refine jkI (wr := []) (rnS (As := [.ref mp]) (rest := [.ref h]) hx hb hml hown hE hK (hN _ _ hS) hP hD (v_blocksOf l D dA H.size (VW dA h ad (VS.s_pl (VS.s_gsize (VS.s_gV (VS.s_gT (VS.s_gO (VS.s_gN (VS.s_gA (VS.s_jch (VS.s_jkept (VS.s_writes (VS.s_cutLeft x x.wjC) x.wjW) x.wjK) false) ga2) (capR (capR x.gN 0 (cnt (PS k).n (x.sePc (PS k)))) (cnt (PS k).n (x.sePc (PS k))) (cnt (PS (k + 1)).n (x.sePc (PS (k + 1)))))) go2) gt2) gv2) (cnt (PS k).n (x.sePc (PS k)) + cnt (PS (k + 1)).n (x.sePc (PS (k + 1))))) pl1)) mp (mkP (cnt (PS k).n (x.sePc (PS k)) + cnt (PS (k + 1)).n (x.sePc (PS (k + 1)))) O T V) (isPc_m (fun _ hm => (plm hm)) hpc)) w1391 w1390 w1392 w277 rfl rfl ⟨⟨by decide, by decide⟩, rfl⟩ ⟨(Nat.le_of_ble_eq_true rfl), (Nat.le_of_ble_eq_true rfl)⟩ rfl hl.1 rfl (Nat.le_of_ble_eq_true rfl) d_V_compact_118 ⟨(show 0 + 0 + 0 + (3 * (capR x.gN 0 (cnt (PS k).n (x.sePc (PS k))) - x.gN)) + (3 * (capR (capR x.gN 0 (cnt (PS k).n (x.sePc (PS k)))) (cnt (PS k).n (x.sePc (PS k))) (cnt (PS (k + 1)).n (x.sePc (PS (k + 1)))) - (capR x.gN 0 (cnt (PS k).n (x.sePc (PS k)))))) + 5 + 0 + 0 + 0 + 0 ≤ 3 * (capR (capR x.gN 0 (cnt (PS k).n (x.sePc (PS k)))) (cnt (PS k).n (x.sePc (PS k))) (cnt (PS (k + 1)).n (x.sePc (PS (k + 1)))) - x.gN) + 6 by omega), (show 0 + 0 + 0 + (6 * (capR x.gN 0 (cnt (PS k).n (x.sePc (PS k))) - x.gN)) + (6 * (capR (capR x.gN 0 (cnt (PS k).n (x.sePc (PS k)))) (cnt (PS k).n (x.sePc (PS k))) (cnt (PS (k + 1)).n (x.sePc (PS (k + 1)))) - (capR x.gN 0 (cnt (PS k).n (x.sePc (PS k)))))) + (8 + (3 * (cnt (PS k).n (x.sePc (PS k)) + cnt (PS (k + 1)).n (x.sePc (PS (k + 1)))) + x.nser + 1)) + 0 + 0 + 0 + 0 ≤ 6 * (capR (capR x.gN 0 (cnt (PS k).n (x.sePc (PS k)))) (cnt (PS k).n (x.sePc (PS k))) (cnt (PS (k + 1)).n (x.sePc (PS (k + 1)))) - x.gN) + (14 + (3 * (cnt (PS k).n (x.sePc (PS k)) + cnt (PS (k + 1)).n (x.sePc (PS (k + 1)))) + x.nser + 1)) by omega)⟩) hP hD hS hA (fun r30 u31 H locs hp9 hP hD hS => ?_)
  have hP : va_P D vwCl (VW dA h ad (VS.s_pl (VS.s_gsize (VS.s_gV (VS.s_gT (VS.s_gO (VS.s_gN (VS.s_gA (VS.s_jch (VS.s_jkept (VS.s_writes (VS.s_cutLeft x x.wjC) x.wjW) x.wjK) false) ga2) (capR (capR x.gN 0 (cnt (PS k).n (x.sePc (PS k)))) (cnt (PS k).n (x.sePc (PS k))) (cnt (PS (k + 1)).n (x.sePc (PS (k + 1)))))) go2) gt2) gv2) (cnt (PS k).n (x.sePc (PS k)) + cnt (PS (k + 1)).n (x.sePc (PS (k + 1))))) pl1)) H := hP
  have hD : va_D A (VW dA h ad (VS.s_pl (VS.s_gsize (VS.s_gV (VS.s_gT (VS.s_gO (VS.s_gN (VS.s_gA (VS.s_jch (VS.s_jkept (VS.s_writes (VS.s_cutLeft x x.wjC) x.wjW) x.wjK) false) ga2) (capR (capR x.gN 0 (cnt (PS k).n (x.sePc (PS k)))) (cnt (PS k).n (x.sePc (PS k))) (cnt (PS (k + 1)).n (x.sePc (PS (k + 1)))))) go2) gt2) gv2) (cnt (PS k).n (x.sePc (PS k)) + cnt (PS (k + 1)).n (x.sePc (PS (k + 1))))) pl1)) := hD
  replace hp9 : nI (mkP (cnt (PS k).n (x.sePc (PS k)) + cnt (PS (k + 1)).n (x.sePc (PS (k + 1)))) O T V).bl = r30 := Eq.symm hp9
  subst hp9
  refine tpi (y := nI nb) (blX hb0) ?_
  refine lv_iconst (v := 1) hx hb d_V_compact_121 (by decide) ?_
  refine lv_iadd hx hb d_V_compact_122 (tpi (y := nI (nb + 1)) (nI_add (nb) (1)) ?_)
  refine xfV (w1 := VW dA h ad (VS.s_pl (VS.s_gsize (VS.s_gV (VS.s_gT (VS.s_gO (VS.s_gN (VS.s_gA (VS.s_jch (VS.s_jkept (VS.s_writes (VS.s_cutLeft (VS.s_powered x false) (-1)) (x.wjW + k0)) x.wjK) false) ga2) (capR (capR x.gN 0 (cnt (PS k).n (x.sePc (PS k)))) (cnt (PS k).n (x.sePc (PS k))) (cnt (PS (k + 1)).n (x.sePc (PS (k + 1)))))) go2) gt2) gv2) (cnt (PS k).n (x.sePc (PS k)) + cnt (PS (k + 1)).n (x.sePc (PS (k + 1))))) pl1)) (As := [.int (nI (nb + 1))]) (rest := []) hx hb hml hown hE hK (hN _ _ hS) (v_writeBlocks_x l htr D dA H.size h ad (VS.s_pl (VS.s_gsize (VS.s_gV (VS.s_gT (VS.s_gO (VS.s_gN (VS.s_gA (VS.s_jch (VS.s_jkept (VS.s_writes (VS.s_cutLeft x x.wjC) x.wjW) x.wjK) false) ga2) (capR (capR x.gN 0 (cnt (PS k).n (x.sePc (PS k)))) (cnt (PS k).n (x.sePc (PS k))) (cnt (PS (k + 1)).n (x.sePc (PS (k + 1)))))) go2) gt2) gv2) (cnt (PS k).n (x.sePc (PS k)) + cnt (PS (k + 1)).n (x.sePc (PS (k + 1))))) pl1) (nb + 1) k0 (show (nb + 1) < 2 ^ 31 from by omega) hk0 hcz hc) (q0 := 0) rfl rfl w1394 w1393 w1395 w1396 w277 rfl rfl ⟨⟨by decide, by decide⟩, rfl⟩ ⟨(Nat.le_of_ble_eq_true rfl), (Nat.le_of_ble_eq_true rfl)⟩ rfl hl.1 rfl (Nat.le_of_ble_eq_true rfl) d_V_compact_123 ⟨(show 0 + 0 + 0 + (3 * (capR x.gN 0 (cnt (PS k).n (x.sePc (PS k))) - x.gN)) + (3 * (capR (capR x.gN 0 (cnt (PS k).n (x.sePc (PS k)))) (cnt (PS k).n (x.sePc (PS k))) (cnt (PS (k + 1)).n (x.sePc (PS (k + 1)))) - (capR x.gN 0 (cnt (PS k).n (x.sePc (PS k)))))) + 5 + 0 + 0 + 0 + 0 + 1 ≤ 3 * (capR (capR x.gN 0 (cnt (PS k).n (x.sePc (PS k)))) (cnt (PS k).n (x.sePc (PS k))) (cnt (PS (k + 1)).n (x.sePc (PS (k + 1)))) - x.gN) + 6 by omega), (show 0 + 0 + 0 + (6 * (capR x.gN 0 (cnt (PS k).n (x.sePc (PS k))) - x.gN)) + (6 * (capR (capR x.gN 0 (cnt (PS k).n (x.sePc (PS k)))) (cnt (PS k).n (x.sePc (PS k))) (cnt (PS (k + 1)).n (x.sePc (PS (k + 1)))) - (capR x.gN 0 (cnt (PS k).n (x.sePc (PS k)))))) + (8 + (3 * (cnt (PS k).n (x.sePc (PS k)) + cnt (PS (k + 1)).n (x.sePc (PS (k + 1)))) + x.nser + 1)) + 0 + 0 + 0 + 0 + 6 ≤ 6 * (capR (capR x.gN 0 (cnt (PS k).n (x.sePc (PS k)))) (cnt (PS k).n (x.sePc (PS k))) (cnt (PS (k + 1)).n (x.sePc (PS (k + 1)))) - x.gN) + (14 + (3 * (cnt (PS k).n (x.sePc (PS k)) + cnt (PS (k + 1)).n (x.sePc (PS (k + 1)))) + x.nser + 1)) by omega)⟩ hP hD hS hA (fun xa32 ce H locs hP hD hS hce hcv hcl => ?_)
  have hP : va_P D vwCl (VW dA h ad (VS.s_pl (VS.s_gsize (VS.s_gV (VS.s_gT (VS.s_gO (VS.s_gN (VS.s_gA (VS.s_jch (VS.s_jkept (VS.s_writes (VS.s_cutLeft (VS.s_powered x false) (-1)) (x.wjW + k0)) x.wjK) false) ga2) (capR (capR x.gN 0 (cnt (PS k).n (x.sePc (PS k)))) (cnt (PS k).n (x.sePc (PS k))) (cnt (PS (k + 1)).n (x.sePc (PS (k + 1)))))) go2) gt2) gv2) (cnt (PS k).n (x.sePc (PS k)) + cnt (PS (k + 1)).n (x.sePc (PS (k + 1))))) pl1)) H := hP
  have hD : va_D A (VW dA h ad (VS.s_pl (VS.s_gsize (VS.s_gV (VS.s_gT (VS.s_gO (VS.s_gN (VS.s_gA (VS.s_jch (VS.s_jkept (VS.s_writes (VS.s_cutLeft (VS.s_powered x false) (-1)) (x.wjW + k0)) x.wjK) false) ga2) (capR (capR x.gN 0 (cnt (PS k).n (x.sePc (PS k)))) (cnt (PS k).n (x.sePc (PS k))) (cnt (PS (k + 1)).n (x.sePc (PS (k + 1)))))) go2) gt2) gv2) (cnt (PS k).n (x.sePc (PS k)) + cnt (PS (k + 1)).n (x.sePc (PS (k + 1))))) pl1)) := hD
  exact xOut hno hlk hce hcv hcl (fun t ht => xkE (VS.s_pl (VS.s_gsize (VS.s_gV (VS.s_gT (VS.s_gO (VS.s_gN (VS.s_gA (VS.s_jch (VS.s_jkept (VS.s_writes (VS.s_cutLeft (VS.s_powered x false) (-1)) (x.wjW + k0)) x.wjK) false) ga2) (capR (capR x.gN 0 (cnt (PS k).n (x.sePc (PS k)))) (cnt (PS k).n (x.sePc (PS k))) (cnt (PS (k + 1)).n (x.sePc (PS (k + 1)))))) go2) gt2) gv2) (cnt (PS k).n (x.sePc (PS k)) + cnt (PS (k + 1)).n (x.sePc (PS (k + 1))))) pl1) ⟨ga2, go2, gt2, gv2, pl1, hsub, rfl⟩ hP hD hS t (by rw [ht]; exact Nat.le_refl _) (fun q _ => by rw [ht])) hS.2.2 (show 0 + 0 + 0 + (3 * (capR x.gN 0 (cnt (PS k).n (x.sePc (PS k))) - x.gN)) + (3 * (capR (capR x.gN 0 (cnt (PS k).n (x.sePc (PS k)))) (cnt (PS k).n (x.sePc (PS k))) (cnt (PS (k + 1)).n (x.sePc (PS (k + 1)))) - (capR x.gN 0 (cnt (PS k).n (x.sePc (PS k)))))) + 5 + 0 + 0 + 0 + 0 + 1 ≤ 3 * (capR (capR x.gN 0 (cnt (PS k).n (x.sePc (PS k)))) (cnt (PS k).n (x.sePc (PS k))) (cnt (PS (k + 1)).n (x.sePc (PS (k + 1)))) - x.gN) + 6 by omega) (show 0 + 0 + 0 + (6 * (capR x.gN 0 (cnt (PS k).n (x.sePc (PS k))) - x.gN)) + (6 * (capR (capR x.gN 0 (cnt (PS k).n (x.sePc (PS k)))) (cnt (PS k).n (x.sePc (PS k))) (cnt (PS (k + 1)).n (x.sePc (PS (k + 1)))) - (capR x.gN 0 (cnt (PS k).n (x.sePc (PS k)))))) + (8 + (3 * (cnt (PS k).n (x.sePc (PS k)) + cnt (PS (k + 1)).n (x.sePc (PS (k + 1)))) + x.nser + 1)) + 0 + 0 + 0 + 0 + 6 ≤ 6 * (capR (capR x.gN 0 (cnt (PS k).n (x.sePc (PS k)))) (cnt (PS k).n (x.sePc (PS k))) (cnt (PS (k + 1)).n (x.sePc (PS (k + 1)))) - x.gN) + (14 + (3 * (cnt (PS k).n (x.sePc (PS k)) + cnt (PS (k + 1)).n (x.sePc (PS (k + 1)))) + x.nser + 1)) by omega)
set_option maxHeartbeats 4000000 in
set_option maxRecDepth 100000 in
theorem v_compact_y (l : Launch) (htr : l.stackTraces = false) (D : va_G) (dA : Nat → ClassId) (sz : Nat) (h : Nat) (ad : Nat → Nat) (x : VS) (n : Int32) (ho : x.powered = true) (h0 : n < 0) : mX l ⟨"SeriesVault", "compact", "(I)I"⟩ [Cond.code ⟨"SeriesVault", "compact", "(I)I"⟩ prog_1_method_40_code 4 (some FieldType.int)] { frames := 6, cells := 1, slots := 6, locals := 81 } (pC D dA [.ref h, .int n] (VW dA h ad x) sz) "java/lang/IndexOutOfBoundsException" (fun st9 t9 => va_F (va_A (VW dA h ad x) sz) st9 t9 ∧ bW D (va_A (VW dA h ad x) sz) (VW dA h ad x) t9) 1 6 (va_A (VW dA h ad x) sz) := by
  refine mkX (y := ⟨"SeriesVault", "compact", "(I)I"⟩) (cc := prog_1_method_40_code) (maxL := 4) (av := [.ref h, .int n]) (ws := VW dA h ad x) (sz := sz) (B := fun A => (fun st9 t9 => va_F A st9 t9 ∧ bW D A (VW dA h ad x) t9)) (by decide) (Nat.le_of_ble_eq_true rfl) ?_
  intro A p e s m below meth c ls hsz hno hB
  obtain ⟨hx, hb, hr, hml, hown, hin, hlk, hE, hK, hP, hD, hS, hA, hN, hl⟩ := hB
  have hown : s.vm.findClass "SeriesVault" = some m.cls := hown
  have hl : lv_has ls 4 [(0, .ref h), (1, .int n)] := hl
  obtain ⟨H, hH⟩ : ∃ z, z = s.heap := ⟨_, rfl⟩
  have hP : va_P D vwCl (VW dA h ad x) H := by rw [hH]; exact hP
  have hS : va_S A s.heap H [] := by rw [hH]; exact hS
  rw [← hH]
  refine lv_aload_n hx hb d_V_compact_0 rfl (lv_at hl 0 rfl) ?_
  refine jfV (rnV (As := []) (rest := []) hx hb hml hown hE hK (hN _ _ hS) hP hD (v_checkPower l D dA H.size h ad x ho) (q0 := 0) rfl rfl w278 w276 w279 w280 w277 rfl rfl ⟨⟨by decide, by decide⟩, rfl⟩ ⟨(Nat.le_of_ble_eq_true rfl), (Nat.le_of_ble_eq_true rfl)⟩ rfl hl.1 rfl (Nat.le_of_ble_eq_true rfl) d_V_compact_1 ⟨(Nat.le_of_ble_eq_true rfl), (Nat.le_of_ble_eq_true rfl)⟩) hP hD hS hA (fun u2 H locs hp9 hP hD hS => ?_)
  have hP : va_P D vwCl (VW dA h ad x) H := hP
  have hD : va_D A (VW dA h ad x) := hD
  refine lv_iload_n hx hb d_V_compact_4 rfl (lv_at hl 1 rfl) ?_
  refine lv_if_lt hx hb d_V_compact_5 (tgt := 21) rfl (fun _ => ?_) (fun h9 => absurd h0 h9)
  exact xNew (E := "java/lang/IndexOutOfBoundsException") (names := ["java/lang/RuntimeException", "java/lang/Exception"]) hx hb htr hown (by decide) (by decide) hE w257 w258 (fun U hU => at_V_IOOBE hU) (hN _ _ hS) (hl.1.trans hml.symm) d_V_compact_21 d_V_compact_24 d_V_compact_25 d_V_compact_28 hno (by decide) (Nat.le_of_ble_eq_true rfl) (Nat.le_of_ble_eq_true rfl) (Nat.le_of_ble_eq_true rfl) hlk (fun t h1 h2 => xEndV hP hD hS t h1 h2) hS.2.2 (Nat.le_of_ble_eq_true rfl) (Nat.le_of_ble_eq_true rfl)
set_option maxHeartbeats 4000000 in
set_option maxRecDepth 100000 in
theorem v_compact_z (l : Launch) (htr : l.stackTraces = false) (D : va_G) (dA : Nat → ClassId) (sz : Nat) (h : Nat) (ad : Nat → Nat) (x : VS) (k : Nat) (ho : x.powered = true) (h0 : 0 < x.npc) (h1 : x.npc ≤ k + 1) (h2 : x.npc ≤ 32) (h3 : k < 2 ^ 31) : mX l ⟨"SeriesVault", "compact", "(I)I"⟩ [Cond.code ⟨"SeriesVault", "compact", "(I)I"⟩ prog_1_method_40_code 4 (some FieldType.int)] { frames := 6, cells := 1, slots := 6, locals := 81 } (pC D dA [.ref h, .int (nI k)] (VW dA h ad x) sz) "java/lang/IndexOutOfBoundsException" (fun st9 t9 => va_F (va_A (VW dA h ad x) sz) st9 t9 ∧ bW D (va_A (VW dA h ad x) sz) (VW dA h ad x) t9) 1 6 (va_A (VW dA h ad x) sz) := by
  refine mkX (y := ⟨"SeriesVault", "compact", "(I)I"⟩) (cc := prog_1_method_40_code) (maxL := 4) (av := [.ref h, .int (nI k)]) (ws := VW dA h ad x) (sz := sz) (B := fun A => (fun st9 t9 => va_F A st9 t9 ∧ bW D A (VW dA h ad x) t9)) (by decide) (Nat.le_of_ble_eq_true rfl) ?_
  intro A p e s m below meth c ls hsz hno hB
  obtain ⟨hx, hb, hr, hml, hown, hin, hlk, hE, hK, hP, hD, hS, hA, hN, hl⟩ := hB
  have hown : s.vm.findClass "SeriesVault" = some m.cls := hown
  have hl : lv_has ls 4 [(0, .ref h), (1, .int (nI k))] := hl
  obtain ⟨H, hH⟩ : ∃ z, z = s.heap := ⟨_, rfl⟩
  have hP : va_P D vwCl (VW dA h ad x) H := by rw [hH]; exact hP
  have hS : va_S A s.heap H [] := by rw [hH]; exact hS
  rw [← hH]
  refine lv_aload_n hx hb d_V_compact_0 rfl (lv_at hl 0 rfl) ?_
  refine jfV (rnV (As := []) (rest := []) hx hb hml hown hE hK (hN _ _ hS) hP hD (v_checkPower l D dA H.size h ad x ho) (q0 := 0) rfl rfl w278 w276 w279 w280 w277 rfl rfl ⟨⟨by decide, by decide⟩, rfl⟩ ⟨(Nat.le_of_ble_eq_true rfl), (Nat.le_of_ble_eq_true rfl)⟩ rfl hl.1 rfl (Nat.le_of_ble_eq_true rfl) d_V_compact_1 ⟨(Nat.le_of_ble_eq_true rfl), (Nat.le_of_ble_eq_true rfl)⟩) hP hD hS hA (fun u2 H locs hp9 hP hD hS => ?_)
  have hP : va_P D vwCl (VW dA h ad x) H := hP
  have hD : va_D A (VW dA h ad x) := hD
  refine lv_iload_n hx hb d_V_compact_4 rfl (lv_at hl 1 rfl) ?_
  refine lv_if_lt hx hb d_V_compact_5 (tgt := 21) rfl (fun h9 => absurd h9 (nI_pos (n := k) (by omega))) (fun _ => ?_)
  refine lv_iload_n hx hb d_V_compact_8 rfl (lv_at hl 1 rfl) ?_
  refine lv_aload_n hx hb d_V_compact_9 rfl (lv_at hl 0 rfl) ?_
  refine gF (v := .ref (ad 3)) hx hb hown hE hK hP 0 rfl rfl layV 11 (by decide) w297 rfl d_V_compact_10 ?_
  refine gFN (v := .int (nI x.npc)) hx hb hown hE hK hP 17 rfl rfl layH 1 (by decide) w303 rfl d_V_compact_13 ?_
  refine lv_iconst (v := 1) hx hb d_V_compact_16 (by decide) ?_
  refine lv_isub hx hb d_V_compact_17 (tpi (y := nI (x.npc - 1)) (pk_sub (a := x.npc) (b := 1) (by omega)) ?_)
  refine lv_icmp_lt hx hb d_V_compact_18 (tgt := 29) rfl (fun g3 => ?_) (fun g3 => ?_)
  · have g3 := (nI_ltI (a := k) (b := x.npc - 1) (by omega) (by omega)).mp g3; exfalso; omega
  have g3 := mt (nI_ltI (a := k) (b := x.npc - 1) (by omega) (by omega)).mpr g3
  exact xNew (E := "java/lang/IndexOutOfBoundsException") (names := ["java/lang/RuntimeException", "java/lang/Exception"]) hx hb htr hown (by decide) (by decide) hE w257 w258 (fun U hU => at_V_IOOBE hU) (hN _ _ hS) (hl.1.trans hml.symm) d_V_compact_21 d_V_compact_24 d_V_compact_25 d_V_compact_28 hno (by decide) (Nat.le_of_ble_eq_true rfl) (Nat.le_of_ble_eq_true rfl) (Nat.le_of_ble_eq_true rfl) hlk (fun t h1 h2 => xEndV hP hD hS t h1 h2) hS.2.2 (Nat.le_of_ble_eq_true rfl) (Nat.le_of_ble_eq_true rfl)
set_option maxHeartbeats 4000000 in
set_option maxRecDepth 100000 in
theorem v_compact_w (l : Launch) (htr : l.stackTraces = false) (D : va_G) (dA : Nat → ClassId) (sz : Nat) (h : Nat) (ad : Nat → Nat) (x : VS) (k : Nat) (ho : x.powered = true) (h0 : x.npc = 0) (h3 : k < 2 ^ 31) : mX l ⟨"SeriesVault", "compact", "(I)I"⟩ [Cond.code ⟨"SeriesVault", "compact", "(I)I"⟩ prog_1_method_40_code 4 (some FieldType.int)] { frames := 6, cells := 1, slots := 6, locals := 81 } (pC D dA [.ref h, .int (nI k)] (VW dA h ad x) sz) "java/lang/IndexOutOfBoundsException" (fun st9 t9 => va_F (va_A (VW dA h ad x) sz) st9 t9 ∧ bW D (va_A (VW dA h ad x) sz) (VW dA h ad x) t9) 1 6 (va_A (VW dA h ad x) sz) := by
  refine mkX (y := ⟨"SeriesVault", "compact", "(I)I"⟩) (cc := prog_1_method_40_code) (maxL := 4) (av := [.ref h, .int (nI k)]) (ws := VW dA h ad x) (sz := sz) (B := fun A => (fun st9 t9 => va_F A st9 t9 ∧ bW D A (VW dA h ad x) t9)) (by decide) (Nat.le_of_ble_eq_true rfl) ?_
  intro A p e s m below meth c ls hsz hno hB
  obtain ⟨hx, hb, hr, hml, hown, hin, hlk, hE, hK, hP, hD, hS, hA, hN, hl⟩ := hB
  have hown : s.vm.findClass "SeriesVault" = some m.cls := hown
  have hl : lv_has ls 4 [(0, .ref h), (1, .int (nI k))] := hl
  obtain ⟨H, hH⟩ : ∃ z, z = s.heap := ⟨_, rfl⟩
  have hP : va_P D vwCl (VW dA h ad x) H := by rw [hH]; exact hP
  have hS : va_S A s.heap H [] := by rw [hH]; exact hS
  rw [← hH]
  refine lv_aload_n hx hb d_V_compact_0 rfl (lv_at hl 0 rfl) ?_
  refine jfV (rnV (As := []) (rest := []) hx hb hml hown hE hK (hN _ _ hS) hP hD (v_checkPower l D dA H.size h ad x ho) (q0 := 0) rfl rfl w278 w276 w279 w280 w277 rfl rfl ⟨⟨by decide, by decide⟩, rfl⟩ ⟨(Nat.le_of_ble_eq_true rfl), (Nat.le_of_ble_eq_true rfl)⟩ rfl hl.1 rfl (Nat.le_of_ble_eq_true rfl) d_V_compact_1 ⟨(Nat.le_of_ble_eq_true rfl), (Nat.le_of_ble_eq_true rfl)⟩) hP hD hS hA (fun u2 H locs hp9 hP hD hS => ?_)
  have hP : va_P D vwCl (VW dA h ad x) H := hP
  have hD : va_D A (VW dA h ad x) := hD
  refine lv_iload_n hx hb d_V_compact_4 rfl (lv_at hl 1 rfl) ?_
  refine lv_if_lt hx hb d_V_compact_5 (tgt := 21) rfl (fun h9 => absurd h9 (nI_pos (n := k) (by omega))) (fun _ => ?_)
  refine lv_iload_n hx hb d_V_compact_8 rfl (lv_at hl 1 rfl) ?_
  refine lv_aload_n hx hb d_V_compact_9 rfl (lv_at hl 0 rfl) ?_
  refine gF (v := .ref (ad 3)) hx hb hown hE hK hP 0 rfl rfl layV 11 (by decide) w297 rfl d_V_compact_10 ?_
  refine gFN (v := .int (nI x.npc)) hx hb hown hE hK hP 17 rfl rfl layH 1 (by decide) w303 rfl d_V_compact_13 ?_
  refine tpi (y := 0) (by rw [h0]; rfl) ?_
  refine lv_iconst (v := 1) hx hb d_V_compact_16 (by decide) ?_
  refine lv_isub hx hb d_V_compact_17 (tpi (y := (-1)) (by decide) ?_)
  refine lv_icmp_lt hx hb d_V_compact_18 (tgt := 29) rfl (fun h9 => absurd h9 (fun q9 => nI_pos (n := k) (by omega) (Int32.lt_of_lt_of_le q9 (by decide)))) (fun _ => ?_)
  exact xNew (E := "java/lang/IndexOutOfBoundsException") (names := ["java/lang/RuntimeException", "java/lang/Exception"]) hx hb htr hown (by decide) (by decide) hE w257 w258 (fun U hU => at_V_IOOBE hU) (hN _ _ hS) (hl.1.trans hml.symm) d_V_compact_21 d_V_compact_24 d_V_compact_25 d_V_compact_28 hno (by decide) (Nat.le_of_ble_eq_true rfl) (Nat.le_of_ble_eq_true rfl) (Nat.le_of_ble_eq_true rfl) hlk (fun t h1 h2 => xEndV hP hD hS t h1 h2) hS.2.2 (Nat.le_of_ble_eq_true rfl) (Nat.le_of_ble_eq_true rfl)
end
section
/-! The journal done again. -/
def VS.dgc (x : VS) (i : Nat) : Nat := if x.jK i = 1 then x.cmcap (x.jF i) else x.hN
/-- what record i does -/
def dgS (PS : Nat → PT) (x y : VS) (i : Nat) : Prop := (x.jK i = 0 ∧ y = x.adS) ∨ (x.jK i = 1 ∧ ∃ pa : Nat → Nat, y = x.cmF pa (x.jO i) (x.jF i) (x.jS i)) ∨ (x.jK i = 2 ∧ sumN x.npc (x.soN PS (x.jO i) (x.jF i) (x.jS i)) = 0 ∧ y = x.dwS (x.jO i) (x.jF i) (x.jS i)) ∨ (x.jK i = 2 ∧ 0 < sumN x.npc (x.soN PS (x.jO i) (x.jF i) (x.jS i)) ∧ y = (x.dwS (x.jO i) (x.jF i) (x.jS i)).asS (x.jO i) (x.jF i) (x.jS i))
/-- what record i wants -/
def dgB (dA : Nat → ClassId) (PS : Nat → PT) (x : VS) (i : Nat) : Prop := psOk dA x.nP x.npc x.pl PS ∧ x.npc ≤ 32 ∧ x.nsc ≤ 64 ∧ (∀ q : Nat, q < x.nsc → x.nsO q < 2 ^ 31) ∧ x.hsize ≤ x.hN ∧ x.hN ≤ 65536 ∧ x.jO i < 256 ∧ ∀ q : Nat, q < x.hsize → x.hO q < 2 ^ 31
def dgO (dA : Nat → ClassId) (PS : Nat → PT) (x : VS) (i : Nat) : Prop := (x.jK i = 0 ∧ x.nser < 256) ∨ (x.jK i = 1 ∧ x.jO i < 256 ∧ x.hsize ≤ x.hN ∧ 0 < x.hN ∧ x.hN ≤ 32768) ∨ (x.jK i = 2 ∧ dgB dA PS x i ∧ sumN x.npc (x.soN PS (x.jO i) (x.jF i) (x.jS i)) = 0) ∨ (x.jK i = 2 ∧ dgB dA PS x i ∧ 0 < sumN x.npc (x.soN PS (x.jO i) (x.jF i) (x.jS i)) ∧ x.nsc < 64)
def dgR (PS : Nat → PT) (x : VS) : Nat → VS → Prop
  | 0, z => z = x
  | i + 1, z => ∃ y : VS, dgR PS x i y ∧ dgS PS y z i
theorem cmF_N (x : VS) (pa : Nat → Nat) (w : Nat) (a b : Int64) : (x.cmF pa w a b).hN = x.cmcap a := by
  unfold VS.cmF VS.cmcap
  split
  · rfl
  · exact (haF_b (VS.s_nlast x (va_up x.nlast w a)) pa w a b).2.2.2.2.2.2.2.2
theorem dgS_N {PS : Nat → PT} {x y : VS} {i : Nat} (h : dgS PS x y i) : y.hN = x.dgc i := by
  unfold VS.dgc
  rcases h with ⟨h1, h2⟩ | ⟨h1, pa, h2⟩ | ⟨h1, h3, h2⟩ | ⟨h1, h3, h2⟩
  · rw [if_neg (by rw [h1]; decide), h2]; rfl
  · rw [if_pos h1, h2]; exact cmF_N x pa _ _ _
  · rw [if_neg (by rw [h1]; decide), h2]; rfl
  · rw [if_neg (by rw [h1]; decide), h2]; rfl
theorem dgc_ge (x : VS) (i : Nat) : x.hN ≤ x.dgc i := by
  unfold VS.dgc VS.cmcap VS.hcap
  split
  · split
    · exact Nat.le_refl _
    · split <;> omega
  · exact Nat.le_refl _
theorem dgS_ex {dA : Nat → ClassId} {PS : Nat → PT} {x : VS} {i : Nat} (h : dgO dA PS x i) : ∃ y, dgS PS x y i := by
  rcases h with ⟨h1, -⟩ | ⟨h1, -⟩ | ⟨h1, -, h2⟩ | ⟨h1, -, h2, -⟩
  · exact ⟨_, Or.inl ⟨h1, rfl⟩⟩
  · exact ⟨_, Or.inr (Or.inl ⟨h1, fun _ => 0, rfl⟩)⟩
  · exact ⟨_, Or.inr (Or.inr (Or.inl ⟨h1, h2, rfl⟩))⟩
  · exact ⟨_, Or.inr (Or.inr (Or.inr ⟨h1, h2, rfl⟩))⟩
set_option maxHeartbeats 4000000 in
set_option maxRecDepth 100000 in
theorem v_doAgain (l : Launch) (D : va_G) (dA : Nat → ClassId) (sz : Nat) (h : Nat) (ad : Nat → Nat) (x : VS) (PS : Nat → PT) (i : Nat) (hi : i < x.jsize) (hj1 : x.jsize ≤ x.jN) (hj2 : x.jN ≤ 65536) (hok : dgO dA PS x i) : Met l ⟨"SeriesVault", "doAgain", "(I)V"⟩ [Cond.code ⟨"SeriesVault", "doAgain", "(I)V"⟩ prog_1_method_19_code 3 none] { frames := 6, cells := 3 * (x.dgc i - x.hN), slots := 6 * (x.dgc i - x.hN), locals := 128 } (pC D dA [.ref h, .int (nI i)] (VW dA h ad x) sz) (va_Qv (fun (u9 : VS) => dgS PS x u9 i) (fun (u9 : VS) t9 => bW D (va_A (VW dA h ad x) sz) (VW dA h ad u9) t9) (va_A (VW dA h ad x) sz)) (3 * (x.dgc i - x.hN)) (6 * (x.dgc i - x.hN)) (va_A (VW dA h ad x) sz) := by
  refine mkC (y := ⟨"SeriesVault", "doAgain", "(I)V"⟩) (cc := prog_1_method_19_code) (maxL := 3) (av := [.ref h, .int (nI i)]) (ws := VW dA h ad x) (sz := sz) (Qc := fun A => va_Qv (fun (u9 : VS) => dgS PS x u9 i) (fun (u9 : VS) t9 => bW D A (VW dA h ad u9) t9) A) (by decide) (Nat.le_of_ble_eq_true rfl) ?_
  intro A p e s m below meth c ls hsz hB
  obtain ⟨hx, hb, hr, hml, hown, hin, hlk, hE, hK, hP, hD, hS, hA, hN, hl⟩ := hB
  have hown : s.vm.findClass "SeriesVault" = some m.cls := hown
  have hl : lv_has ls 3 [(0, .ref h), (1, .int (nI i))] := hl
  obtain ⟨H, hH⟩ : ∃ z, z = s.heap := ⟨_, rfl⟩
  have hP : va_P D vwCl (VW dA h ad x) H := by rw [hH]; exact hP
  have hS : va_S A s.heap H [] := by rw [hH]; exact hS
  rw [← hH]
  rcases hok with hq | hq | hq | hq
  · refine lv_aload_n hx hb d_V_doAgain_0 rfl (lv_at hl 0 rfl) ?_
    obtain ⟨hk, hq1⟩ := hq
    refine gF (v := .ref (ad 0)) hx hb hown hE hK hP 0 rfl rfl layV 8 (by decide) w312 rfl d_V_doAgain_1 ?_
    refine gFN (v := .ref (x.jA 1)) hx hb hown hE hK hP 2 rfl rfl layJ 1 (by decide) w1363 rfl d_V_doAgain_4 ?_
    refine lv_iload_n hx hb d_V_doAgain_7 rfl (lv_at hl 1 rfl) ?_
    refine nild (f := (fun z9 => nI (x.jO z9))) (n := x.jN) hx hb hK hP (4) 1 rfl rfl (i) (by omega) (by omega) d_V_doAgain_8 ?_
    refine lv_istore_n hx hb d_V_doAgain_9 rfl hl (by decide) rfl (fun ls hl => ?_)
    have hl : lv_has ls 3 [(2, .int (nI (x.jO i))), (0, .ref h), (1, .int (nI i))] := hl
    refine lv_aload_n hx hb d_V_doAgain_10 rfl (lv_at hl 1 rfl) ?_
    refine gF (v := .ref (ad 0)) hx hb hown hE hK hP 0 rfl rfl layV 8 (by decide) w312 rfl d_V_doAgain_11 ?_
    refine gFN (v := .ref (x.jA 0)) hx hb hown hE hK hP 2 rfl rfl layJ 0 (by decide) w1364 rfl d_V_doAgain_14 ?_
    refine lv_iload_n hx hb d_V_doAgain_17 rfl (lv_at hl 2 rfl) ?_
    refine nild (f := (fun z9 => nI (x.jK z9))) (n := x.jN) hx hb hK hP (3) 1 rfl rfl (i) (by omega) (by omega) d_V_doAgain_18 ?_
    refine tpi (y := 0) (by rw [hk]; rfl) ?_
    refine lv_lookup (x := 0) (off := 25) (tgt := 44) hx hb d_V_doAgain_19 (by decide) (by decide) rfl ?_
    refine lv_aload_n hx hb d_V_doAgain_44 rfl (lv_at hl 1 rfl) ?_
    refine gF (v := .ref (ad 3)) hx hb hown hE hK hP 0 rfl rfl layV 11 (by decide) w297 rfl d_V_doAgain_45 ?_
    refine jkV (wr := []) (rnV (As := []) (rest := []) hx hb hml hown hE hK (hN _ _ hS) hP hD (v_addSeries l D dA H.size h ad x (show x.nser < 256 from by omega)) (q0 := 17) rfl rfl w1332 w1331 w1333 w1334 w583 rfl rfl ⟨⟨by decide, by decide⟩, rfl⟩ ⟨(Nat.le_of_ble_eq_true rfl), (Nat.le_of_ble_eq_true rfl)⟩ rfl hl.1 rfl (Nat.le_of_ble_eq_true rfl) d_V_doAgain_48 ⟨(show 0 + 0 ≤ 3 * (x.dgc i - x.hN) by omega), (show 0 + 0 ≤ 6 * (x.dgc i - x.hN) by omega)⟩) hP hD hS hA (fun u2 H locs hp9 hP hD hS => ?_)
    have hP : va_P D vwCl (VW dA h ad (VS.s_nlast (VS.s_nser x (x.nser + 1)) (va_up x.nlast x.nser (-1)))) H := hP
    have hD : va_D A (VW dA h ad (VS.s_nlast (VS.s_nser x (x.nser + 1)) (va_up x.nlast x.nser (-1)))) := hD
    refine lv_goto hx hb d_V_doAgain_51 (tgt := 103) rfl ?_
    exact rfV hx hb hr hlk hS (VS.s_nlast (VS.s_nser x (x.nser + 1)) (va_up x.nlast x.nser (-1))) (Or.inl ⟨hk, rfl⟩) hP hD (show 0 + 0 ≤ 3 * (x.dgc i - x.hN) by omega) (show 0 + 0 ≤ 6 * (x.dgc i - x.hN) by omega) d_V_doAgain_103
  · refine lv_aload_n hx hb d_V_doAgain_0 rfl (lv_at hl 0 rfl) ?_
    obtain ⟨hk, hw, hs1, hs2, hs3⟩ := hq
    have dc : x.dgc i = x.cmcap (x.jF i) := if_pos hk
    refine gF (v := .ref (ad 0)) hx hb hown hE hK hP 0 rfl rfl layV 8 (by decide) w312 rfl d_V_doAgain_1 ?_
    refine gFN (v := .ref (x.jA 1)) hx hb hown hE hK hP 2 rfl rfl layJ 1 (by decide) w1363 rfl d_V_doAgain_4 ?_
    refine lv_iload_n hx hb d_V_doAgain_7 rfl (lv_at hl 1 rfl) ?_
    refine nild (f := (fun z9 => nI (x.jO z9))) (n := x.jN) hx hb hK hP (4) 1 rfl rfl (i) (by omega) (by omega) d_V_doAgain_8 ?_
    refine lv_istore_n hx hb d_V_doAgain_9 rfl hl (by decide) rfl (fun ls hl => ?_)
    have hl : lv_has ls 3 [(2, .int (nI (x.jO i))), (0, .ref h), (1, .int (nI i))] := hl
    refine lv_aload_n hx hb d_V_doAgain_10 rfl (lv_at hl 1 rfl) ?_
    refine gF (v := .ref (ad 0)) hx hb hown hE hK hP 0 rfl rfl layV 8 (by decide) w312 rfl d_V_doAgain_11 ?_
    refine gFN (v := .ref (x.jA 0)) hx hb hown hE hK hP 2 rfl rfl layJ 0 (by decide) w1364 rfl d_V_doAgain_14 ?_
    refine lv_iload_n hx hb d_V_doAgain_17 rfl (lv_at hl 2 rfl) ?_
    refine nild (f := (fun z9 => nI (x.jK z9))) (n := x.jN) hx hb hK hP (3) 1 rfl rfl (i) (by omega) (by omega) d_V_doAgain_18 ?_
    refine tpi (y := 1) (by rw [hk]; rfl) ?_
    refine lv_lookup (x := 1) (off := 35) (tgt := 54) hx hb d_V_doAgain_19 (by decide) (by decide) rfl ?_
    refine lv_aload_n hx hb d_V_doAgain_54 rfl (lv_at hl 1 rfl) ?_
    refine lv_iload_n hx hb d_V_doAgain_55 rfl (lv_at hl 0 rfl) ?_
    refine lv_aload_n hx hb d_V_doAgain_56 rfl (lv_at hl 1 rfl) ?_
    refine gF (v := .ref (ad 0)) hx hb hown hE hK hP 0 rfl rfl layV 8 (by decide) w312 rfl d_V_doAgain_57 ?_
    refine gFN (v := .ref (x.jA 4)) hx hb hown hE hK hP 2 rfl rfl layJ 4 (by decide) w1365 rfl d_V_doAgain_60 ?_
    refine lv_iload_n hx hb d_V_doAgain_63 rfl (lv_at hl 2 rfl) ?_
    refine nlld (f := x.jF) (n := x.jN) hx hb hK hP (7) 2 rfl rfl (i) (by omega) (by omega) d_V_doAgain_64 ?_
    refine lv_aload_n hx hb d_V_doAgain_65 rfl (lv_at hl 1 rfl) ?_
    refine gF (v := .ref (ad 0)) hx hb hown hE hK hP 0 rfl rfl layV 8 (by decide) w312 rfl d_V_doAgain_66 ?_
    refine gFN (v := .ref (x.jA 5)) hx hb hown hE hK hP 2 rfl rfl layJ 5 (by decide) w1366 rfl d_V_doAgain_69 ?_
    refine lv_iload_n hx hb d_V_doAgain_72 rfl (lv_at hl 2 rfl) ?_
    refine nlld (f := x.jS) (n := x.jN) hx hb hK hP (8) 2 rfl rfl (i) (by omega) (by omega) d_V_doAgain_73 ?_
    refine jkV (wr := []) (rnV (As := [.int (nI (x.jO i)), .long (x.jF i), .long (x.jS i)]) (rest := []) hx hb hml hown hE hK (hN _ _ hS) hP hD (v_comePoint l D dA H.size h ad x (x.jO i) (x.jF i) (x.jS i) hw hs1 hs2 hs3) (q0 := 0) rfl rfl w1137 w1136 w1138 w1139 w277 rfl rfl ⟨⟨by decide, by decide⟩, rfl⟩ ⟨(Nat.le_of_ble_eq_true rfl), (Nat.le_of_ble_eq_true rfl)⟩ rfl hl.1 rfl (Nat.le_of_ble_eq_true rfl) d_V_doAgain_74 ⟨(show 0 + (3 * (x.cmcap (x.jF i) - x.hN)) ≤ 3 * (x.dgc i - x.hN) by omega), (show 0 + (6 * (x.cmcap (x.jF i) - x.hN)) ≤ 6 * (x.dgc i - x.hN) by omega)⟩) hP hD hS hA (fun u4 H locs hp9 hP hD hS => ?_)
    obtain ⟨y5, h9u⟩ : ∃ z9, z9 = u4 := ⟨_, rfl⟩
    subst h9u
    have hP : va_P D vwCl (VW dA h ad y5) H := hP
    have hD : va_D A (VW dA h ad y5) := hD
    have f_e_6 := hp9
    refine lv_goto hx hb d_V_doAgain_77 (tgt := 103) rfl ?_
    exact rfV hx hb hr hlk hS y5 (Or.inr (Or.inl ⟨hk, f_e_6⟩)) hP hD (show 0 + (3 * (x.cmcap (x.jF i) - x.hN)) ≤ 3 * (x.dgc i - x.hN) by omega) (show 0 + (6 * (x.cmcap (x.jF i) - x.hN)) ≤ 6 * (x.dgc i - x.hN) by omega) d_V_doAgain_103
  · refine lv_aload_n hx hb d_V_doAgain_0 rfl (lv_at hl 0 rfl) ?_
    obtain ⟨hk, hbb, hz⟩ := hq
    obtain ⟨hps, hpn, h1, h7, h0, h9, hw, hh7⟩ := hbb
    refine gF (v := .ref (ad 0)) hx hb hown hE hK hP 0 rfl rfl layV 8 (by decide) w312 rfl d_V_doAgain_1 ?_
    refine gFN (v := .ref (x.jA 1)) hx hb hown hE hK hP 2 rfl rfl layJ 1 (by decide) w1363 rfl d_V_doAgain_4 ?_
    refine lv_iload_n hx hb d_V_doAgain_7 rfl (lv_at hl 1 rfl) ?_
    refine nild (f := (fun z9 => nI (x.jO z9))) (n := x.jN) hx hb hK hP (4) 1 rfl rfl (i) (by omega) (by omega) d_V_doAgain_8 ?_
    refine lv_istore_n hx hb d_V_doAgain_9 rfl hl (by decide) rfl (fun ls hl => ?_)
    have hl : lv_has ls 3 [(2, .int (nI (x.jO i))), (0, .ref h), (1, .int (nI i))] := hl
    refine lv_aload_n hx hb d_V_doAgain_10 rfl (lv_at hl 1 rfl) ?_
    refine gF (v := .ref (ad 0)) hx hb hown hE hK hP 0 rfl rfl layV 8 (by decide) w312 rfl d_V_doAgain_11 ?_
    refine gFN (v := .ref (x.jA 0)) hx hb hown hE hK hP 2 rfl rfl layJ 0 (by decide) w1364 rfl d_V_doAgain_14 ?_
    refine lv_iload_n hx hb d_V_doAgain_17 rfl (lv_at hl 2 rfl) ?_
    refine nild (f := (fun z9 => nI (x.jK z9))) (n := x.jN) hx hb hK hP (3) 1 rfl rfl (i) (by omega) (by omega) d_V_doAgain_18 ?_
    refine tpi (y := 2) (by rw [hk]; rfl) ?_
    refine lv_lookup (x := 2) (off := 61) (tgt := 80) hx hb d_V_doAgain_19 (by decide) (by decide) rfl ?_
    refine lv_aload_n hx hb d_V_doAgain_80 rfl (lv_at hl 1 rfl) ?_
    refine lv_iload_n hx hb d_V_doAgain_81 rfl (lv_at hl 0 rfl) ?_
    refine lv_aload_n hx hb d_V_doAgain_82 rfl (lv_at hl 1 rfl) ?_
    refine gF (v := .ref (ad 0)) hx hb hown hE hK hP 0 rfl rfl layV 8 (by decide) w312 rfl d_V_doAgain_83 ?_
    refine gFN (v := .ref (x.jA 4)) hx hb hown hE hK hP 2 rfl rfl layJ 4 (by decide) w1365 rfl d_V_doAgain_86 ?_
    refine lv_iload_n hx hb d_V_doAgain_89 rfl (lv_at hl 2 rfl) ?_
    refine nlld (f := x.jF) (n := x.jN) hx hb hK hP (7) 2 rfl rfl (i) (by omega) (by omega) d_V_doAgain_90 ?_
    refine lv_aload_n hx hb d_V_doAgain_91 rfl (lv_at hl 1 rfl) ?_
    refine gF (v := .ref (ad 0)) hx hb hown hE hK hP 0 rfl rfl layV 8 (by decide) w312 rfl d_V_doAgain_92 ?_
    refine gFN (v := .ref (x.jA 5)) hx hb hown hE hK hP 2 rfl rfl layJ 5 (by decide) w1366 rfl d_V_doAgain_95 ?_
    refine lv_iload_n hx hb d_V_doAgain_98 rfl (lv_at hl 2 rfl) ?_
    refine nlld (f := x.jS) (n := x.jN) hx hb hK hP (8) 2 rfl rfl (i) (by omega) (by omega) d_V_doAgain_99 ?_
    refine jkV (wr := []) (rnV (As := [.int (nI (x.jO i)), .long (x.jF i), .long (x.jS i)]) (rest := []) hx hb hml hown hE hK (hN _ _ hS) hP hD (v_letGo_0 l D dA H.size h ad x PS (x.jO i) (x.jF i) (x.jS i) hps hpn h1 h7 h0 h9 hw hh7 hz) (q0 := 0) rfl rfl w1360 w1359 w1361 w1362 w277 rfl rfl ⟨⟨by decide, by decide⟩, rfl⟩ ⟨(Nat.le_of_ble_eq_true rfl), (Nat.le_of_ble_eq_true rfl)⟩ rfl hl.1 rfl (Nat.le_of_ble_eq_true rfl) d_V_doAgain_100 ⟨(show 0 + 0 ≤ 3 * (x.dgc i - x.hN) by omega), (show 0 + 0 ≤ 6 * (x.dgc i - x.hN) by omega)⟩) hP hD hS hA (fun u8 H locs hp9 hP hD hS => ?_)
    have hP : va_P D vwCl (VW dA h ad (VS.s_hsize (VS.s_hV (VS.s_hT (VS.s_hO x (tdT (x.hWn (x.jO i) (x.jF i) (x.jS i)) x.hO x.hsize)) (tdT (x.hWn (x.jO i) (x.jF i) (x.jS i)) x.hT x.hsize)) (tdT (x.hWn (x.jO i) (x.jF i) (x.jS i)) x.hV x.hsize)) (cnt x.hsize (x.hWn (x.jO i) (x.jF i) (x.jS i))))) H := hP
    have hD : va_D A (VW dA h ad (VS.s_hsize (VS.s_hV (VS.s_hT (VS.s_hO x (tdT (x.hWn (x.jO i) (x.jF i) (x.jS i)) x.hO x.hsize)) (tdT (x.hWn (x.jO i) (x.jF i) (x.jS i)) x.hT x.hsize)) (tdT (x.hWn (x.jO i) (x.jF i) (x.jS i)) x.hV x.hsize)) (cnt x.hsize (x.hWn (x.jO i) (x.jF i) (x.jS i))))) := hD
    exact rfV hx hb hr hlk hS (VS.s_hsize (VS.s_hV (VS.s_hT (VS.s_hO x (tdT (x.hWn (x.jO i) (x.jF i) (x.jS i)) x.hO x.hsize)) (tdT (x.hWn (x.jO i) (x.jF i) (x.jS i)) x.hT x.hsize)) (tdT (x.hWn (x.jO i) (x.jF i) (x.jS i)) x.hV x.hsize)) (cnt x.hsize (x.hWn (x.jO i) (x.jF i) (x.jS i)))) (Or.inr (Or.inr (Or.inl ⟨hk, hz, rfl⟩))) hP hD (show 0 + 0 ≤ 3 * (x.dgc i - x.hN) by omega) (show 0 + 0 ≤ 6 * (x.dgc i - x.hN) by omega) d_V_doAgain_103
  · refine lv_aload_n hx hb d_V_doAgain_0 rfl (lv_at hl 0 rfl) ?_
    obtain ⟨hk, hbb, hz, hsc⟩ := hq
    obtain ⟨hps, hpn, h1, h7, h0, h9, hw, hh7⟩ := hbb
    refine gF (v := .ref (ad 0)) hx hb hown hE hK hP 0 rfl rfl layV 8 (by decide) w312 rfl d_V_doAgain_1 ?_
    refine gFN (v := .ref (x.jA 1)) hx hb hown hE hK hP 2 rfl rfl layJ 1 (by decide) w1363 rfl d_V_doAgain_4 ?_
    refine lv_iload_n hx hb d_V_doAgain_7 rfl (lv_at hl 1 rfl) ?_
    refine nild (f := (fun z9 => nI (x.jO z9))) (n := x.jN) hx hb hK hP (4) 1 rfl rfl (i) (by omega) (by omega) d_V_doAgain_8 ?_
    refine lv_istore_n hx hb d_V_doAgain_9 rfl hl (by decide) rfl (fun ls hl => ?_)
    have hl : lv_has ls 3 [(2, .int (nI (x.jO i))), (0, .ref h), (1, .int (nI i))] := hl
    refine lv_aload_n hx hb d_V_doAgain_10 rfl (lv_at hl 1 rfl) ?_
    refine gF (v := .ref (ad 0)) hx hb hown hE hK hP 0 rfl rfl layV 8 (by decide) w312 rfl d_V_doAgain_11 ?_
    refine gFN (v := .ref (x.jA 0)) hx hb hown hE hK hP 2 rfl rfl layJ 0 (by decide) w1364 rfl d_V_doAgain_14 ?_
    refine lv_iload_n hx hb d_V_doAgain_17 rfl (lv_at hl 2 rfl) ?_
    refine nild (f := (fun z9 => nI (x.jK z9))) (n := x.jN) hx hb hK hP (3) 1 rfl rfl (i) (by omega) (by omega) d_V_doAgain_18 ?_
    refine tpi (y := 2) (by rw [hk]; rfl) ?_
    refine lv_lookup (x := 2) (off := 61) (tgt := 80) hx hb d_V_doAgain_19 (by decide) (by decide) rfl ?_
    refine lv_aload_n hx hb d_V_doAgain_80 rfl (lv_at hl 1 rfl) ?_
    refine lv_iload_n hx hb d_V_doAgain_81 rfl (lv_at hl 0 rfl) ?_
    refine lv_aload_n hx hb d_V_doAgain_82 rfl (lv_at hl 1 rfl) ?_
    refine gF (v := .ref (ad 0)) hx hb hown hE hK hP 0 rfl rfl layV 8 (by decide) w312 rfl d_V_doAgain_83 ?_
    refine gFN (v := .ref (x.jA 4)) hx hb hown hE hK hP 2 rfl rfl layJ 4 (by decide) w1365 rfl d_V_doAgain_86 ?_
    refine lv_iload_n hx hb d_V_doAgain_89 rfl (lv_at hl 2 rfl) ?_
    refine nlld (f := x.jF) (n := x.jN) hx hb hK hP (7) 2 rfl rfl (i) (by omega) (by omega) d_V_doAgain_90 ?_
    refine lv_aload_n hx hb d_V_doAgain_91 rfl (lv_at hl 1 rfl) ?_
    refine gF (v := .ref (ad 0)) hx hb hown hE hK hP 0 rfl rfl layV 8 (by decide) w312 rfl d_V_doAgain_92 ?_
    refine gFN (v := .ref (x.jA 5)) hx hb hown hE hK hP 2 rfl rfl layJ 5 (by decide) w1366 rfl d_V_doAgain_95 ?_
    refine lv_iload_n hx hb d_V_doAgain_98 rfl (lv_at hl 2 rfl) ?_
    refine nlld (f := x.jS) (n := x.jN) hx hb hK hP (8) 2 rfl rfl (i) (by omega) (by omega) d_V_doAgain_99 ?_
    refine jkV (wr := []) (rnV (As := [.int (nI (x.jO i)), .long (x.jF i), .long (x.jS i)]) (rest := []) hx hb hml hown hE hK (hN _ _ hS) hP hD (v_letGo_1 l D dA H.size h ad x PS (x.jO i) (x.jF i) (x.jS i) hps hpn h1 h7 h0 h9 hw hh7 hz hsc) (q0 := 0) rfl rfl w1360 w1359 w1361 w1362 w277 rfl rfl ⟨⟨by decide, by decide⟩, rfl⟩ ⟨(Nat.le_of_ble_eq_true rfl), (Nat.le_of_ble_eq_true rfl)⟩ rfl hl.1 rfl (Nat.le_of_ble_eq_true rfl) d_V_doAgain_100 ⟨(show 0 + 0 ≤ 3 * (x.dgc i - x.hN) by omega), (show 0 + 0 ≤ 6 * (x.dgc i - x.hN) by omega)⟩) hP hD hS hA (fun u10 H locs hp9 hP hD hS => ?_)
    have hP : va_P D vwCl (VW dA h ad (VS.s_nsc (VS.s_nsT (VS.s_nsF (VS.s_nsO (VS.s_hsize (VS.s_hV (VS.s_hT (VS.s_hO x (tdT (x.hWn (x.jO i) (x.jF i) (x.jS i)) x.hO x.hsize)) (tdT (x.hWn (x.jO i) (x.jF i) (x.jS i)) x.hT x.hsize)) (tdT (x.hWn (x.jO i) (x.jF i) (x.jS i)) x.hV x.hsize)) (cnt x.hsize (x.hWn (x.jO i) (x.jF i) (x.jS i)))) (va_up x.nsO x.nsc (x.jO i))) (va_up x.nsF x.nsc (maxL (x.jF i) x.nhor))) (va_up x.nsT x.nsc (minL (x.jS i) (x.nlast (x.jO i))))) (x.nsc + 1))) H := hP
    have hD : va_D A (VW dA h ad (VS.s_nsc (VS.s_nsT (VS.s_nsF (VS.s_nsO (VS.s_hsize (VS.s_hV (VS.s_hT (VS.s_hO x (tdT (x.hWn (x.jO i) (x.jF i) (x.jS i)) x.hO x.hsize)) (tdT (x.hWn (x.jO i) (x.jF i) (x.jS i)) x.hT x.hsize)) (tdT (x.hWn (x.jO i) (x.jF i) (x.jS i)) x.hV x.hsize)) (cnt x.hsize (x.hWn (x.jO i) (x.jF i) (x.jS i)))) (va_up x.nsO x.nsc (x.jO i))) (va_up x.nsF x.nsc (maxL (x.jF i) x.nhor))) (va_up x.nsT x.nsc (minL (x.jS i) (x.nlast (x.jO i))))) (x.nsc + 1))) := hD
    exact rfV hx hb hr hlk hS (VS.s_nsc (VS.s_nsT (VS.s_nsF (VS.s_nsO (VS.s_hsize (VS.s_hV (VS.s_hT (VS.s_hO x (tdT (x.hWn (x.jO i) (x.jF i) (x.jS i)) x.hO x.hsize)) (tdT (x.hWn (x.jO i) (x.jF i) (x.jS i)) x.hT x.hsize)) (tdT (x.hWn (x.jO i) (x.jF i) (x.jS i)) x.hV x.hsize)) (cnt x.hsize (x.hWn (x.jO i) (x.jF i) (x.jS i)))) (va_up x.nsO x.nsc (x.jO i))) (va_up x.nsF x.nsc (maxL (x.jF i) x.nhor))) (va_up x.nsT x.nsc (minL (x.jS i) (x.nlast (x.jO i))))) (x.nsc + 1)) (Or.inr (Or.inr (Or.inr ⟨hk, hz, rfl⟩))) hP hD (show 0 + 0 ≤ 3 * (x.dgc i - x.hN) by omega) (show 0 + 0 ≤ 6 * (x.dgc i - x.hN) by omega) d_V_doAgain_103
def VS.stS (x : VS) (a9 b9 u9n : Nat) : VS := VS.s_ncat (VS.s_nlast (VS.s_nser (VS.s_nhor (VS.s_nsc (VS.s_nsT (VS.s_nsF (VS.s_nsO (VS.s_npc (VS.s_nP (VS.s_hsize (VS.s_jch (VS.s_jfill (VS.s_jblock (VS.s_junits (VS.s_jkept (VS.s_jsize (VS.s_powered x true) (min x.jsize x.jkept)) (min x.jsize x.jkept)) u9n) a9) b9) false) 0) (va_cpy x.sP x.nP 0 0 x.spc)) x.spc) (va_cpy x.ssO x.nsO 0 0 x.ssc)) (va_cpy x.ssF x.nsF 0 0 x.ssc)) (va_cpy x.ssT x.nsT 0 0 x.ssc)) x.ssc) x.shor) x.sser) (va_cpy x.slast x.nlast 0 0 x.sser)) x.scat
set_option maxHeartbeats 4000000 in
set_option maxRecDepth 100000 in
theorem v_start_x (l : Launch) (htr : l.stackTraces = false) (D : va_G) (dA : Nat → ClassId) (sz : Nat) (h : Nat) (ad : Nat → Nat) (x : VS) (ho : x.powered = true) : mX l ⟨"SeriesVault", "start", "()I"⟩ [Cond.code ⟨"SeriesVault", "start", "()I"⟩ prog_1_method_18_code 2 (some FieldType.int)] { frames := 6, cells := 1, slots := 6, locals := 81 } (pC D dA [.ref h] (VW dA h ad x) sz) "java/lang/IllegalStateException" (fun st9 t9 => va_F (va_A (VW dA h ad x) sz) st9 t9 ∧ bW D (va_A (VW dA h ad x) sz) (VW dA h ad x) t9) 1 6 (va_A (VW dA h ad x) sz) := by
  refine mkX (y := ⟨"SeriesVault", "start", "()I"⟩) (cc := prog_1_method_18_code) (maxL := 2) (av := [.ref h]) (ws := VW dA h ad x) (sz := sz) (B := fun A => (fun st9 t9 => va_F A st9 t9 ∧ bW D A (VW dA h ad x) t9)) (by decide) (Nat.le_of_ble_eq_true rfl) ?_
  intro A p e s m below meth c ls hsz hno hB
  obtain ⟨hx, hb, hr, hml, hown, hin, hlk, hE, hK, hP, hD, hS, hA, hN, hl⟩ := hB
  have hown : s.vm.findClass "SeriesVault" = some m.cls := hown
  have hl : lv_has ls 2 [(0, .ref h)] := hl
  obtain ⟨H, hH⟩ : ∃ z, z = s.heap := ⟨_, rfl⟩
  have hP : va_P D vwCl (VW dA h ad x) H := by rw [hH]; exact hP
  have hS : va_S A s.heap H [] := by rw [hH]; exact hS
  rw [← hH]
  refine lv_aload_n hx hb d_V_start_0 rfl (lv_at hl 0 rfl) ?_
  refine gF (v := .int (bI x.powered)) hx hb hown hE hK hP 0 rfl rfl layV 5 (by decide) w275 rfl d_V_start_1 ?_
  refine lv_if_eq hx hb d_V_start_4 (tgt := 15) rfl (fun h9 => absurd h9 (by rw [ho]; decide)) (fun _ => ?_)
  exact xNew (E := "java/lang/IllegalStateException") (names := ["java/lang/RuntimeException", "java/lang/Exception"]) hx hb htr hown (by decide) (by decide) hE w295 w296 (fun U hU => at_V_ISE hU) (hN _ _ hS) (hl.1.trans hml.symm) d_V_start_7 d_V_start_10 d_V_start_11 d_V_start_14 hno (by decide) (Nat.le_of_ble_eq_true rfl) (Nat.le_of_ble_eq_true rfl) (Nat.le_of_ble_eq_true rfl) hlk (fun t h1 h2 => xEndV hP hD hS t h1 h2) hS.2.2 (Nat.le_of_ble_eq_true rfl) (Nat.le_of_ble_eq_true rfl)
theorem d_V_start_15 : decode prog_1_method_18_code 15 = .ok (.aload_n 0, 1) := by decide +kernel
theorem d_V_start_16 : decode prog_1_method_18_code 16 = .ok (.iconst 1, 1) := by decide +kernel
theorem d_V_start_17 : decode prog_1_method_18_code 17 = .ok (.putfield 104, 3) := by decide +kernel
theorem d_V_start_20 : decode prog_1_method_18_code 20 = .ok (.aload_n 0, 1) := by decide +kernel
theorem d_V_start_21 : decode prog_1_method_18_code 21 = .ok (.getfield 33, 3) := by decide +kernel
theorem d_V_start_24 : decode prog_1_method_18_code 24 = .ok (.aload_n 0, 1) := by decide +kernel
theorem d_V_start_25 : decode prog_1_method_18_code 25 = .ok (.getfield 37, 3) := by decide +kernel
theorem d_V_start_28 : decode prog_1_method_18_code 28 = .ok (.invokevirtual 143, 3) := by decide +kernel
theorem d_V_start_31 : decode prog_1_method_18_code 31 = .ok (.aload_n 0, 1) := by decide +kernel
theorem d_V_start_32 : decode prog_1_method_18_code 32 = .ok (.getfield 33, 3) := by decide +kernel
theorem d_V_start_35 : decode prog_1_method_18_code 35 = .ok (.aload_n 0, 1) := by decide +kernel
theorem d_V_start_36 : decode prog_1_method_18_code 36 = .ok (.getfield 37, 3) := by decide +kernel
theorem d_V_start_39 : decode prog_1_method_18_code 39 = .ok (.invokevirtual 147, 3) := by decide +kernel
theorem d_V_start_42 : decode prog_1_method_18_code 42 = .ok (.aload_n 0, 1) := by decide +kernel
theorem d_V_start_43 : decode prog_1_method_18_code 43 = .ok (.getfield 23, 3) := by decide +kernel
theorem d_V_start_46 : decode prog_1_method_18_code 46 = .ok (.invokevirtual 120, 3) := by decide +kernel
theorem d_V_start_49 : decode prog_1_method_18_code 49 = .ok (.aload_n 0, 1) := by decide +kernel
theorem d_V_start_50 : decode prog_1_method_18_code 50 = .ok (.getfield 16, 3) := by decide +kernel
theorem d_V_start_53 : decode prog_1_method_18_code 53 = .ok (.invokevirtual 150, 3) := by decide +kernel
theorem d_V_start_56 : decode prog_1_method_18_code 56 = .ok (.iconst 0, 1) := by decide +kernel
theorem d_V_start_57 : decode prog_1_method_18_code 57 = .ok (.istore_n 1, 1) := by decide +kernel
theorem d_V_start_58 : decode prog_1_method_18_code 58 = .ok (.iload_n 1, 1) := by decide +kernel
theorem d_V_start_59 : decode prog_1_method_18_code 59 = .ok (.aload_n 0, 1) := by decide +kernel
theorem d_V_start_60 : decode prog_1_method_18_code 60 = .ok (.getfield 16, 3) := by decide +kernel
theorem d_V_start_63 : decode prog_1_method_18_code 63 = .ok (.getfield 153, 3) := by decide +kernel
theorem d_V_start_66 : decode prog_1_method_18_code 66 = .ok (.if_icmp .ge 14, 3) := by decide +kernel
theorem d_V_start_80 : decode prog_1_method_18_code 80 = .ok (.aload_n 0, 1) := by decide +kernel
theorem d_V_start_81 : decode prog_1_method_18_code 81 = .ok (.getfield 16, 3) := by decide +kernel
theorem d_V_start_84 : decode prog_1_method_18_code 84 = .ok (.getfield 153, 3) := by decide +kernel
theorem d_V_start_87 : decode prog_1_method_18_code 87 = .ok (.ireturn, 1) := by decide +kernel
theorem d_V_start_69 : decode prog_1_method_18_code 69 = .ok (.aload_n 0, 1) := by decide +kernel
theorem d_V_start_70 : decode prog_1_method_18_code 70 = .ok (.iload_n 1, 1) := by decide +kernel
theorem d_V_start_71 : decode prog_1_method_18_code 71 = .ok (.invokevirtual 156, 3) := by decide +kernel
theorem d_V_start_74 : decode prog_1_method_18_code 74 = .ok (.iinc 1 1, 3) := by decide +kernel
theorem d_V_start_77 : decode prog_1_method_18_code 77 = .ok (.goto (-19), 3) := by decide +kernel
theorem w1758 : Cond.methodLink "SeriesVault" 150 ⟨"SeriesVault$Journal", "forgetUnkept", "()V"⟩ ∈ aW := aw_of (tb_8 (List.mem_of_getElem? (i := 159) rfl)) rfl
theorem w1759 : Cond.methodLink "SeriesVault" 156 ⟨"SeriesVault", "doAgain", "(I)V"⟩ ∈ aW := aw_of (tb_8 (List.mem_of_getElem? (i := 160) rfl)) rfl
theorem w1760 : Cond.code ⟨"SeriesVault", "doAgain", "(I)V"⟩ prog_1_method_19_code 3 none ∈ aW := aw_of (tb_8 (List.mem_of_getElem? (i := 163) rfl)) rfl
theorem w1761 : Cond.instanceMethod ⟨"SeriesVault", "doAgain", "(I)V"⟩ ∈ aW := aw_of (tb_8 (List.mem_of_getElem? (i := 162) rfl)) rfl
theorem w1762 : Cond.selects "SeriesVault" ⟨"SeriesVault", "doAgain", "(I)V"⟩ ⟨"SeriesVault", "doAgain", "(I)V"⟩ ∈ aW := aw_pr (List.mem_map.mpr ⟨_, pv_5 (List.mem_of_getElem? (i := 2) rfl), rfl⟩) rfl
set_option maxHeartbeats 4000000 in
set_option maxRecDepth 100000 in
theorem v_start (l : Launch) (D : va_G) (dA : Nat → ClassId) (sz : Nat) (h : Nat) (ad : Nat → Nat) (x : VS) (PS : Nat → PT) (a9 : Nat) (b9 : Nat) (u9n : Nat) (HB : Nat) (ho : x.powered = false) (hps : psOk dA x.sP x.spc x.pl PS) (hp1 : x.spc ≤ 32) (hp2 : x.ssc ≤ 64) (hp3 : x.sser ≤ 256) (hj1 : x.jsize ≤ x.jN) (hj9 : x.jN ≤ 65536) (hj8 : x.jkept < 2 ^ 31) (hj7 : ∀ q : Nat, q < x.jsize → x.jU q ≤ 126 ∧ x.jB q < 65536) (hfg : fgG x.jB x.jU (min x.jsize x.jkept) = (a9, b9, u9n)) (hgo : ∀ (i : Nat) (z : VS), i ≤ (min x.jsize x.jkept) → dgR PS (x.stS a9 b9 u9n) i z → z.jsize = (min x.jsize x.jkept) ∧ z.jN = x.jN ∧ x.hN ≤ z.hN ∧ z.hN ≤ HB ∧ (i < (min x.jsize x.jkept) → dgO dA PS z i)) : Met l ⟨"SeriesVault", "start", "()I"⟩ [Cond.code ⟨"SeriesVault", "start", "()I"⟩ prog_1_method_18_code 2 (some FieldType.int)] { frames := 7, cells := 3 * (HB - x.hN), slots := 6 * (HB - x.hN), locals := 150 } (pC D dA [.ref h] (VW dA h ad x) sz) (va_Qi (fun (r9 : Int32) (u9 : VS) => r9 = nI (min x.jsize x.jkept) ∧ dgR PS (x.stS a9 b9 u9n) (min x.jsize x.jkept) u9) (fun (u9 : VS) t9 => bW D (va_A (VW dA h ad x) sz) (VW dA h ad u9) t9) (va_A (VW dA h ad x) sz)) (3 * (HB - x.hN)) (6 * (HB - x.hN)) (va_A (VW dA h ad x) sz) := by
  refine mkC (y := ⟨"SeriesVault", "start", "()I"⟩) (cc := prog_1_method_18_code) (maxL := 2) (av := [.ref h]) (ws := VW dA h ad x) (sz := sz) (Qc := fun A => va_Qi (fun (r9 : Int32) (u9 : VS) => r9 = nI (min x.jsize x.jkept) ∧ dgR PS (x.stS a9 b9 u9n) (min x.jsize x.jkept) u9) (fun (u9 : VS) t9 => bW D A (VW dA h ad u9) t9) A) (by decide) (Nat.le_of_ble_eq_true rfl) ?_
  intro A p e s m below meth c ls hsz hB
  obtain ⟨hx, hb, hr, hml, hown, hin, hlk, hE, hK, hP, hD, hS, hA, hN, hl⟩ := hB
  have hown : s.vm.findClass "SeriesVault" = some m.cls := hown
  have hl : lv_has ls 2 [(0, .ref h)] := hl
  obtain ⟨H, hH⟩ : ∃ z, z = s.heap := ⟨_, rfl⟩
  have hP : va_P D vwCl (VW dA h ad x) H := by rw [hH]; exact hP
  have hS : va_S A s.heap H [] := by rw [hH]; exact hS
  rw [← hH]
  refine lv_aload_n hx hb d_V_start_0 rfl (lv_at hl 0 rfl) ?_
  refine gF (v := .int (bI x.powered)) hx hb hown hE hK hP 0 rfl rfl layV 5 (by decide) w275 rfl d_V_start_1 ?_
  refine lv_if_eq hx hb d_V_start_4 (tgt := 15) rfl (fun _ => ?_) (fun h9 => absurd (by rw [ho]; rfl) h9)
  refine lv_aload_n hx hb d_V_start_15 rfl (lv_at hl 0 rfl) ?_
  refine lv_iconst (v := 1) hx hb d_V_start_16 (by decide) ?_
  refine pF (v := .int (bI true)) hx hb hown hE hK hP hD hS 0 rfl rfl layV tyV tokV nmV 5 (by decide) w275 rfl (bI_nar true) (bI_fit true) (Nat.le_of_ble_eq_true rfl) d_V_start_17 (fun H locs hP hD hS => ?_)
  have hP : va_P D vwCl (VW dA h ad (VS.s_powered x true)) H := hP
  have hD : va_D A (VW dA h ad (VS.s_powered x true)) := hD
  refine lv_aload_n hx hb d_V_start_20 rfl (lv_at hl 0 rfl) ?_
  refine gF (v := .ref (ad 3)) hx hb hown hE hK hP 0 rfl rfl layV 11 (by decide) w297 rfl d_V_start_21 ?_
  refine lv_aload_n hx hb d_V_start_24 rfl (lv_at hl 0 rfl) ?_
  refine gF (v := .ref (ad 10)) hx hb hown hE hK hP 0 rfl rfl layV 12 (by decide) w587 rfl d_V_start_25 ?_
  refine jkV (wr := []) (rnV (As := [.ref (ad 10)]) (rest := []) hx hb hml hown hE hK (hN _ _ hS) hP hD (v_takeParcels_n l D dA H.size h ad (VS.s_powered x true) PS hps (show x.spc ≤ 32 from by omega) (show x.ssc ≤ 64 from by omega)) (q0 := 17) rfl rfl w728 w727 w729 w730 w583 rfl rfl ⟨⟨by decide, by decide⟩, rfl⟩ ⟨(Nat.le_of_ble_eq_true rfl), (Nat.le_of_ble_eq_true rfl)⟩ rfl hl.1 rfl (Nat.le_of_ble_eq_true rfl) d_V_start_28 ⟨(show 0 + 0 ≤ 3 * (HB - x.hN) by omega), (show 0 + 0 ≤ 6 * (HB - x.hN) by omega)⟩) hP hD hS hA (fun u2 H locs hp9 hP hD hS => ?_)
  have hP : va_P D vwCl (VW dA h ad (VS.s_nhor (VS.s_nsc (VS.s_nsT (VS.s_nsF (VS.s_nsO (VS.s_npc (VS.s_nP (VS.s_powered x true) (va_cpy x.sP x.nP 0 0 x.spc)) x.spc) (va_cpy x.ssO x.nsO 0 0 x.ssc)) (va_cpy x.ssF x.nsF 0 0 x.ssc)) (va_cpy x.ssT x.nsT 0 0 x.ssc)) x.ssc) x.shor)) H := hP
  have hD : va_D A (VW dA h ad (VS.s_nhor (VS.s_nsc (VS.s_nsT (VS.s_nsF (VS.s_nsO (VS.s_npc (VS.s_nP (VS.s_powered x true) (va_cpy x.sP x.nP 0 0 x.spc)) x.spc) (va_cpy x.ssO x.nsO 0 0 x.ssc)) (va_cpy x.ssF x.nsF 0 0 x.ssc)) (va_cpy x.ssT x.nsT 0 0 x.ssc)) x.ssc) x.shor)) := hD
  refine lv_aload_n hx hb d_V_start_31 rfl (lv_at hl 0 rfl) ?_
  refine gF (v := .ref (ad 3)) hx hb hown hE hK hP 0 rfl rfl layV 11 (by decide) w297 rfl d_V_start_32 ?_
  refine lv_aload_n hx hb d_V_start_35 rfl (lv_at hl 0 rfl) ?_
  refine gF (v := .ref (ad 10)) hx hb hown hE hK hP 0 rfl rfl layV 12 (by decide) w587 rfl d_V_start_36 ?_
  refine jkV (wr := []) (rnV (As := [.ref (ad 10)]) (rest := []) hx hb hml hown hE hK (hN _ _ hS) hP hD (v_takeCatalog_n l D dA H.size h ad (VS.s_nhor (VS.s_nsc (VS.s_nsT (VS.s_nsF (VS.s_nsO (VS.s_npc (VS.s_nP (VS.s_powered x true) (va_cpy x.sP x.nP 0 0 x.spc)) x.spc) (va_cpy x.ssO x.nsO 0 0 x.ssc)) (va_cpy x.ssF x.nsF 0 0 x.ssc)) (va_cpy x.ssT x.nsT 0 0 x.ssc)) x.ssc) x.shor) (show x.sser ≤ 256 from by omega)) (q0 := 17) rfl rfl w1403 w1402 w1404 w1405 w583 rfl rfl ⟨⟨by decide, by decide⟩, rfl⟩ ⟨(Nat.le_of_ble_eq_true rfl), (Nat.le_of_ble_eq_true rfl)⟩ rfl hl.1 rfl (Nat.le_of_ble_eq_true rfl) d_V_start_39 ⟨(show 0 + 0 + 0 ≤ 3 * (HB - x.hN) by omega), (show 0 + 0 + 0 ≤ 6 * (HB - x.hN) by omega)⟩) hP hD hS hA (fun u4 H locs hp9 hP hD hS => ?_)
  have hP : va_P D vwCl (VW dA h ad (VS.s_ncat (VS.s_nlast (VS.s_nser (VS.s_nhor (VS.s_nsc (VS.s_nsT (VS.s_nsF (VS.s_nsO (VS.s_npc (VS.s_nP (VS.s_powered x true) (va_cpy x.sP x.nP 0 0 x.spc)) x.spc) (va_cpy x.ssO x.nsO 0 0 x.ssc)) (va_cpy x.ssF x.nsF 0 0 x.ssc)) (va_cpy x.ssT x.nsT 0 0 x.ssc)) x.ssc) x.shor) x.sser) (va_cpy x.slast x.nlast 0 0 x.sser)) x.scat)) H := hP
  have hD : va_D A (VW dA h ad (VS.s_ncat (VS.s_nlast (VS.s_nser (VS.s_nhor (VS.s_nsc (VS.s_nsT (VS.s_nsF (VS.s_nsO (VS.s_npc (VS.s_nP (VS.s_powered x true) (va_cpy x.sP x.nP 0 0 x.spc)) x.spc) (va_cpy x.ssO x.nsO 0 0 x.ssc)) (va_cpy x.ssF x.nsF 0 0 x.ssc)) (va_cpy x.ssT x.nsT 0 0 x.ssc)) x.ssc) x.shor) x.sser) (va_cpy x.slast x.nlast 0 0 x.sser)) x.scat)) := hD
  refine lv_aload_n hx hb d_V_start_42 rfl (lv_at hl 0 rfl) ?_
  refine gF (v := .ref (ad 1)) hx hb hown hE hK hP 0 rfl rfl layV 9 (by decide) w576 rfl d_V_start_43 ?_
  refine jkV (wr := []) (rnV (As := []) (rest := []) hx hb hml hown hE hK (hN _ _ hS) hP hD (v_pclear_h l D dA H.size h ad (VS.s_ncat (VS.s_nlast (VS.s_nser (VS.s_nhor (VS.s_nsc (VS.s_nsT (VS.s_nsF (VS.s_nsO (VS.s_npc (VS.s_nP (VS.s_powered x true) (va_cpy x.sP x.nP 0 0 x.spc)) x.spc) (va_cpy x.ssO x.nsO 0 0 x.ssc)) (va_cpy x.ssF x.nsF 0 0 x.ssc)) (va_cpy x.ssT x.nsT 0 0 x.ssc)) x.ssc) x.shor) x.sser) (va_cpy x.slast x.nlast 0 0 x.sser)) x.scat)) (q0 := 9) rfl rfl w579 w577 w580 w581 w578 rfl rfl ⟨⟨by decide, by decide⟩, rfl⟩ ⟨(Nat.le_of_ble_eq_true rfl), (Nat.le_of_ble_eq_true rfl)⟩ rfl hl.1 rfl (Nat.le_of_ble_eq_true rfl) d_V_start_46 ⟨(show 0 + 0 + 0 + 0 ≤ 3 * (HB - x.hN) by omega), (show 0 + 0 + 0 + 0 ≤ 6 * (HB - x.hN) by omega)⟩) hP hD hS hA (fun u6 H locs hp9 hP hD hS => ?_)
  have hP : va_P D vwCl (VW dA h ad (VS.s_ncat (VS.s_nlast (VS.s_nser (VS.s_nhor (VS.s_nsc (VS.s_nsT (VS.s_nsF (VS.s_nsO (VS.s_npc (VS.s_nP (VS.s_hsize (VS.s_powered x true) 0) (va_cpy x.sP x.nP 0 0 x.spc)) x.spc) (va_cpy x.ssO x.nsO 0 0 x.ssc)) (va_cpy x.ssF x.nsF 0 0 x.ssc)) (va_cpy x.ssT x.nsT 0 0 x.ssc)) x.ssc) x.shor) x.sser) (va_cpy x.slast x.nlast 0 0 x.sser)) x.scat)) H := hP
  have hD : va_D A (VW dA h ad (VS.s_ncat (VS.s_nlast (VS.s_nser (VS.s_nhor (VS.s_nsc (VS.s_nsT (VS.s_nsF (VS.s_nsO (VS.s_npc (VS.s_nP (VS.s_hsize (VS.s_powered x true) 0) (va_cpy x.sP x.nP 0 0 x.spc)) x.spc) (va_cpy x.ssO x.nsO 0 0 x.ssc)) (va_cpy x.ssF x.nsF 0 0 x.ssc)) (va_cpy x.ssT x.nsT 0 0 x.ssc)) x.ssc) x.shor) x.sser) (va_cpy x.slast x.nlast 0 0 x.sser)) x.scat)) := hD
  refine lv_aload_n hx hb d_V_start_49 rfl (lv_at hl 0 rfl) ?_
  refine gF (v := .ref (ad 0)) hx hb hown hE hK hP 0 rfl rfl layV 8 (by decide) w312 rfl d_V_start_50 ?_
  refine jkV (wr := []) (rnV (As := []) (rest := []) hx hb hml hown hE hK (hN _ _ hS) hP hD (v_forgetUnkept l D dA H.size h ad (VS.s_ncat (VS.s_nlast (VS.s_nser (VS.s_nhor (VS.s_nsc (VS.s_nsT (VS.s_nsF (VS.s_nsO (VS.s_npc (VS.s_nP (VS.s_hsize (VS.s_powered x true) 0) (va_cpy x.sP x.nP 0 0 x.spc)) x.spc) (va_cpy x.ssO x.nsO 0 0 x.ssc)) (va_cpy x.ssF x.nsF 0 0 x.ssc)) (va_cpy x.ssT x.nsT 0 0 x.ssc)) x.ssc) x.shor) x.sser) (va_cpy x.slast x.nlast 0 0 x.sser)) x.scat) a9 b9 u9n (show x.jsize ≤ x.jN from by omega) (show x.jN ≤ 65536 from by omega) (show x.jkept < 2 ^ 31 from by omega) hj7 hfg) (q0 := 2) rfl rfl w557 w1758 w558 w559 w556 rfl rfl ⟨⟨by decide, by decide⟩, rfl⟩ ⟨(Nat.le_of_ble_eq_true rfl), (Nat.le_of_ble_eq_true rfl)⟩ rfl hl.1 rfl (Nat.le_of_ble_eq_true rfl) d_V_start_53 ⟨(show 0 + 0 + 0 + 0 + 0 ≤ 3 * (HB - x.hN) by omega), (show 0 + 0 + 0 + 0 + 0 ≤ 6 * (HB - x.hN) by omega)⟩) hP hD hS hA (fun u8 H locs hp9 hP hD hS => ?_)
  have hP : va_P D vwCl (VW dA h ad (VS.s_ncat (VS.s_nlast (VS.s_nser (VS.s_nhor (VS.s_nsc (VS.s_nsT (VS.s_nsF (VS.s_nsO (VS.s_npc (VS.s_nP (VS.s_hsize (VS.s_jch (VS.s_jfill (VS.s_jblock (VS.s_junits (VS.s_jkept (VS.s_jsize (VS.s_powered x true) (min x.jsize x.jkept)) (min x.jsize x.jkept)) u9n) a9) b9) false) 0) (va_cpy x.sP x.nP 0 0 x.spc)) x.spc) (va_cpy x.ssO x.nsO 0 0 x.ssc)) (va_cpy x.ssF x.nsF 0 0 x.ssc)) (va_cpy x.ssT x.nsT 0 0 x.ssc)) x.ssc) x.shor) x.sser) (va_cpy x.slast x.nlast 0 0 x.sser)) x.scat)) H := hP
  have hD : va_D A (VW dA h ad (VS.s_ncat (VS.s_nlast (VS.s_nser (VS.s_nhor (VS.s_nsc (VS.s_nsT (VS.s_nsF (VS.s_nsO (VS.s_npc (VS.s_nP (VS.s_hsize (VS.s_jch (VS.s_jfill (VS.s_jblock (VS.s_junits (VS.s_jkept (VS.s_jsize (VS.s_powered x true) (min x.jsize x.jkept)) (min x.jsize x.jkept)) u9n) a9) b9) false) 0) (va_cpy x.sP x.nP 0 0 x.spc)) x.spc) (va_cpy x.ssO x.nsO 0 0 x.ssc)) (va_cpy x.ssF x.nsF 0 0 x.ssc)) (va_cpy x.ssT x.nsT 0 0 x.ssc)) x.ssc) x.shor) x.sser) (va_cpy x.slast x.nlast 0 0 x.sser)) x.scat)) := hD
  refine lv_iconst (v := 0) hx hb d_V_start_56 (by decide) ?_
  refine lv_istore_n hx hb d_V_start_57 rfl hl (by decide) rfl (fun ls hl => ?_)
  have hl : lv_has ls 2 [(1, .int 0), (0, .ref h)] := hl
  have L58 : ∀ (k9 : Nat) (i : Nat) (z : VS) (i1 : i ≤ (min x.jsize x.jkept)) (hR0 : dgR PS (x.stS a9 b9 u9n) i z) (hk9 : (min x.jsize x.jkept) - i = k9), ∀ (H : Heap) (locs : List Loc) (ls : Array Slot) (hP : va_P D vwCl (VW dA h ad z) H) (hD : va_D A (VW dA h ad z)) (hS : va_S A s.heap H locs) (hl : lv_has ls 2 [(1, .int (nI i)), (0, .ref h)]), W p l e ({ frames := 7, cells := 3 * (HB - x.hN), slots := 6 * (HB - x.hN), locals := 150 } : Room) s m ([.ref h] : List Value).toArray below meth c H locs (3 * (z.hN - x.hN)) (6 * (z.hN - x.hN)) (MQ below (va_Qi (fun (r9 : Int32) (u9 : VS) => r9 = nI (min x.jsize x.jkept) ∧ dgR PS (x.stS a9 b9 u9n) (min x.jsize x.jkept) u9) (fun (u9 : VS) t9 => bW D A (VW dA h ad u9) t9) A) ([.ref h] : List Value).toArray s (3 * (HB - x.hN)) (6 * (HB - x.hN)) A) (F0 m 58 ls []) := by
    intro k9
    induction k9 using Nat.strongRecOn with
    | ind k9 ih58 =>
      intro i z i1 hR0 hk9 H locs ls hP hD hS hl
      have hg0 := hgo i z i1 hR0
      obtain ⟨q1, q2, q3, q4, q5⟩ := hg0
      have mj : (min x.jsize x.jkept) ≤ x.jsize := Nat.min_le_left _ _
      refine lv_iload_n hx hb d_V_start_58 rfl (lv_at hl 0 rfl) ?_
      refine lv_aload_n hx hb d_V_start_59 rfl (lv_at hl 1 rfl) ?_
      refine gF (v := .ref (ad 0)) hx hb hown hE hK hP 0 rfl rfl layV 8 (by decide) w312 rfl d_V_start_60 ?_
      refine gFN (v := .int (nI z.jsize)) hx hb hown hE hK hP 2 rfl rfl layJ 6 (by decide) w318 rfl d_V_start_63 ?_
      refine lv_icmp_ge hx hb d_V_start_66 (tgt := 80) rfl (fun g9 => ?_) (fun g9 => ?_)
      · have g9 := (nI_leI (a := z.jsize) (b := i) (by omega) (by omega)).mp g9
        refine lv_aload_n hx hb d_V_start_80 rfl (lv_at hl 1 rfl) ?_
        refine gF (v := .ref (ad 0)) hx hb hown hE hK hP 0 rfl rfl layV 8 (by decide) w312 rfl d_V_start_81 ?_
        refine gFN (v := .int (nI z.jsize)) hx hb hown hE hK hP 2 rfl rfl layJ 6 (by decide) w318 rfl d_V_start_84 ?_
        exact rfI hx hb hr hlk hS z (have e9 : i = (min x.jsize x.jkept) := (by omega); ⟨by rw [q1], by rw [← e9]; exact hR0⟩) hP hD (show 3 * (z.hN - x.hN) ≤ 3 * (HB - x.hN) by omega) (show 6 * (z.hN - x.hN) ≤ 6 * (HB - x.hN) by omega) d_V_start_87
      · have g9 := mt (nI_leI (a := z.jsize) (b := i) (by omega) (by omega)).mpr g9
        have hN2 := q5 (by omega)
        obtain ⟨yq, hyq⟩ := dgS_ex hN2
        have hgq := (hgo (i + 1) yq (by omega) ⟨z, hR0, hyq⟩).2.2.2.1
        have hq1 := dgS_N hyq
        have hq2 := dgc_ge z i
        rw [hq1] at hgq
        refine lv_aload_n hx hb d_V_start_69 rfl (lv_at hl 1 rfl) ?_
        refine lv_iload_n hx hb d_V_start_70 rfl (lv_at hl 0 rfl) ?_
        refine jkV (wr := []) (rnV (As := [.int (nI i)]) (rest := []) hx hb hml hown hE hK (hN _ _ hS) hP hD (v_doAgain l D dA H.size h ad z PS i (show i < z.jsize from by omega) (show z.jsize ≤ z.jN from by omega) (show z.jN ≤ 65536 from by omega) hN2) (q0 := 0) rfl rfl w1760 w1759 w1761 w1762 w277 rfl rfl ⟨⟨by decide, by decide⟩, rfl⟩ ⟨(Nat.le_of_ble_eq_true rfl), (Nat.le_of_ble_eq_true rfl)⟩ rfl hl.1 rfl (Nat.le_of_ble_eq_true rfl) d_V_start_71 ⟨(show 3 * (z.hN - x.hN) + (3 * (z.dgc i - z.hN)) ≤ 3 * (HB - x.hN) by omega), (show 6 * (z.hN - x.hN) + (6 * (z.dgc i - z.hN)) ≤ 6 * (HB - x.hN) by omega)⟩) hP hD hS hA (fun u11 H locs hp9 hP hD hS => ?_)
        obtain ⟨y12, h9u⟩ : ∃ z9, z9 = u11 := ⟨_, rfl⟩
        subst h9u
        have hP : va_P D vwCl (VW dA h ad y12) H := hP
        have hD : va_D A (VW dA h ad y12) := hD
        have f_e_13 := hp9
        have hR1 : dgR PS (x.stS a9 b9 u9n) (i + 1) y12 := ⟨z, hR0, f_e_13⟩
        have hN1 := dgS_N f_e_13
        have hg1 := hgo (i + 1) y12 (by omega) hR1
        obtain ⟨u1, u2, u3, u4, u5⟩ := hg1
        refine lv_iinc (k := 0) (v := nI (i + 1)) hx hb d_V_start_74 hl rfl (iincN (i) 1 1 (by decide)) (by decide) rfl (fun ls hl => ?_)
        have hl : lv_has ls 2 [(1, .int (nI (i + 1))), (0, .ref h)] := hl
        refine lv_goto hx hb d_V_start_77 (tgt := 58) rfl ?_
        refine W.widen (k := 3 * (y12.hN - x.hN)) (n := 6 * (y12.hN - x.hN)) (show 3 * (z.hN - x.hN) + (3 * (z.dgc i - z.hN)) ≤ 3 * (y12.hN - x.hN) from by omega) (show 6 * (z.hN - x.hN) + (6 * (z.dgc i - z.hN)) ≤ 6 * (y12.hN - x.hN) from by omega) ?_
        exact ih58 _ (by omega) (i + 1) y12 (by omega) hR1 rfl H _ ls hP hD hS (lv_sub hl [0, 1] rfl)
  refine W.widen (k := 3 * ((VS.s_ncat (VS.s_nlast (VS.s_nser (VS.s_nhor (VS.s_nsc (VS.s_nsT (VS.s_nsF (VS.s_nsO (VS.s_npc (VS.s_nP (VS.s_hsize (VS.s_jch (VS.s_jfill (VS.s_jblock (VS.s_junits (VS.s_jkept (VS.s_jsize (VS.s_powered x true) (min x.jsize x.jkept)) (min x.jsize x.jkept)) u9n) a9) b9) false) 0) (va_cpy x.sP x.nP 0 0 x.spc)) x.spc) (va_cpy x.ssO x.nsO 0 0 x.ssc)) (va_cpy x.ssF x.nsF 0 0 x.ssc)) (va_cpy x.ssT x.nsT 0 0 x.ssc)) x.ssc) x.shor) x.sser) (va_cpy x.slast x.nlast 0 0 x.sser)) x.scat).hN - x.hN)) (n := 6 * ((VS.s_ncat (VS.s_nlast (VS.s_nser (VS.s_nhor (VS.s_nsc (VS.s_nsT (VS.s_nsF (VS.s_nsO (VS.s_npc (VS.s_nP (VS.s_hsize (VS.s_jch (VS.s_jfill (VS.s_jblock (VS.s_junits (VS.s_jkept (VS.s_jsize (VS.s_powered x true) (min x.jsize x.jkept)) (min x.jsize x.jkept)) u9n) a9) b9) false) 0) (va_cpy x.sP x.nP 0 0 x.spc)) x.spc) (va_cpy x.ssO x.nsO 0 0 x.ssc)) (va_cpy x.ssF x.nsF 0 0 x.ssc)) (va_cpy x.ssT x.nsT 0 0 x.ssc)) x.ssc) x.shor) x.sser) (va_cpy x.slast x.nlast 0 0 x.sser)) x.scat).hN - x.hN)) (show 0 + 0 + 0 + 0 + 0 ≤ 3 * ((VS.s_ncat (VS.s_nlast (VS.s_nser (VS.s_nhor (VS.s_nsc (VS.s_nsT (VS.s_nsF (VS.s_nsO (VS.s_npc (VS.s_nP (VS.s_hsize (VS.s_jch (VS.s_jfill (VS.s_jblock (VS.s_junits (VS.s_jkept (VS.s_jsize (VS.s_powered x true) (min x.jsize x.jkept)) (min x.jsize x.jkept)) u9n) a9) b9) false) 0) (va_cpy x.sP x.nP 0 0 x.spc)) x.spc) (va_cpy x.ssO x.nsO 0 0 x.ssc)) (va_cpy x.ssF x.nsF 0 0 x.ssc)) (va_cpy x.ssT x.nsT 0 0 x.ssc)) x.ssc) x.shor) x.sser) (va_cpy x.slast x.nlast 0 0 x.sser)) x.scat).hN - x.hN) from by omega) (show 0 + 0 + 0 + 0 + 0 ≤ 6 * ((VS.s_ncat (VS.s_nlast (VS.s_nser (VS.s_nhor (VS.s_nsc (VS.s_nsT (VS.s_nsF (VS.s_nsO (VS.s_npc (VS.s_nP (VS.s_hsize (VS.s_jch (VS.s_jfill (VS.s_jblock (VS.s_junits (VS.s_jkept (VS.s_jsize (VS.s_powered x true) (min x.jsize x.jkept)) (min x.jsize x.jkept)) u9n) a9) b9) false) 0) (va_cpy x.sP x.nP 0 0 x.spc)) x.spc) (va_cpy x.ssO x.nsO 0 0 x.ssc)) (va_cpy x.ssF x.nsF 0 0 x.ssc)) (va_cpy x.ssT x.nsT 0 0 x.ssc)) x.ssc) x.shor) x.sser) (va_cpy x.slast x.nlast 0 0 x.sser)) x.scat).hN - x.hN) from by omega) ?_
  exact L58 _ 0 (VS.s_ncat (VS.s_nlast (VS.s_nser (VS.s_nhor (VS.s_nsc (VS.s_nsT (VS.s_nsF (VS.s_nsO (VS.s_npc (VS.s_nP (VS.s_hsize (VS.s_jch (VS.s_jfill (VS.s_jblock (VS.s_junits (VS.s_jkept (VS.s_jsize (VS.s_powered x true) (min x.jsize x.jkept)) (min x.jsize x.jkept)) u9n) a9) b9) false) 0) (va_cpy x.sP x.nP 0 0 x.spc)) x.spc) (va_cpy x.ssO x.nsO 0 0 x.ssc)) (va_cpy x.ssF x.nsF 0 0 x.ssc)) (va_cpy x.ssT x.nsT 0 0 x.ssc)) x.ssc) x.shor) x.sser) (va_cpy x.slast x.nlast 0 0 x.sser)) x.scat) (Nat.zero_le _) rfl rfl H _ ls hP hD hS (lv_sub hl [0, 1] rfl)
end
section
/-! Tables without names joined. -/
theorem rs2C (f g : Nat → Option Nat) : (f 0 = none ∧ g 0 = none) ∨ (∃ a, f 0 = some a ∧ g 0 = none) ∨ (∃ b, f 0 = none ∧ g 0 = some b) ∨ ∃ a b, f 0 = some a ∧ g 0 = some b := by
  cases h1 : f 0 with
  | none =>
    cases h2 : g 0 with
    | none => exact Or.inl ⟨rfl, rfl⟩
    | some b => exact Or.inr (Or.inr (Or.inl ⟨b, rfl, rfl⟩))
  | some a =>
    cases h2 : g 0 with
    | none => exact Or.inr (Or.inl ⟨a, rfl, rfl⟩)
    | some b => exact Or.inr (Or.inr (Or.inr ⟨a, b, rfl, rfl⟩))
/-- both have no names: a row each at most -/
def TB.j0 (sg : Int32) (t u : TB) : TB := if t.rc = 1 ∧ u.rc = 1 then TB.de (TB.s_rc (TB.jrl sg (t.mv 0 0) u 0 0 0) 1) else TB.de (TB.s_rc t 0)
theorem j0_1 {sg : Int32} {t u : TB} (h1 : t.rc = 1) (h2 : u.rc = 1) : TB.j0 sg t u = TB.de (TB.s_rc (TB.jrl sg (t.mv 0 0) u 0 0 0) 1) := if_pos ⟨h1, h2⟩
theorem j0_0 {sg : Int32} {t u : TB} (h : ¬ (t.rc = 1 ∧ u.rc = 1)) : TB.j0 sg t u = TB.de (TB.s_rc t 0) := if_neg h
set_option maxHeartbeats 4000000 in
set_option maxRecDepth 100000 in
theorem v_TcompareTexts_zz (l : Launch) (D : va_G) (dA : Nat → ClassId) (sz : Nat) (ws : va_W) (ta : Nat → Nat) (t : TB) (h0 : t.nc = 0) : Met l ⟨"SeriesVault$Table", "compareTexts", "(LSeriesVault$Series;LSeriesVault$Series;)I"⟩ [Cond.code ⟨"SeriesVault$Table", "compareTexts", "(LSeriesVault$Series;LSeriesVault$Series;)I"⟩ prog_11_method_7_code 5 (some FieldType.int)] { frames := 1, cells := 0, slots := 0, locals := 0 } (pC D dA [.ref (ta 0), .null, .null] (TbW dA ta t ++ (ws)) sz) (va_Qi (fun (r9 : Int32) (u9 : Unit) => r9 = 0) (fun (u9 : Unit) t9 => bW D (va_A (TbW dA ta t ++ (ws)) sz) (TbW dA ta t ++ (ws)) t9) (va_A (TbW dA ta t ++ (ws)) sz)) 0 0 (va_A (TbW dA ta t ++ (ws)) sz) := by
  refine mkC (y := ⟨"SeriesVault$Table", "compareTexts", "(LSeriesVault$Series;LSeriesVault$Series;)I"⟩) (cc := prog_11_method_7_code) (maxL := 5) (av := [.ref (ta 0), .null, .null]) (ws := TbW dA ta t ++ (ws)) (sz := sz) (Qc := fun A => va_Qi (fun (r9 : Int32) (u9 : Unit) => r9 = 0) (fun (u9 : Unit) t9 => bW D A (TbW dA ta t ++ (ws)) t9) A) (by decide) (Nat.le_of_ble_eq_true rfl) ?_
  intro A p e s m below meth c ls hsz hB
  obtain ⟨hx, hb, hr, hml, hown, hin, hlk, hE, hK, hP, hD, hS, hA, hN, hl⟩ := hB
  have hown : s.vm.findClass "SeriesVault$Table" = some m.cls := hown
  have hl : lv_has ls 5 [(0, .ref (ta 0)), (1, .null), (2, .null)] := hl
  obtain ⟨H, hH⟩ : ∃ z, z = s.heap := ⟨_, rfl⟩
  have hP : va_P D vwCl (TbW dA ta t ++ (ws)) H := by rw [hH]; exact hP
  have hS : va_S A s.heap H [] := by rw [hH]; exact hS
  rw [← hH]
  refine lv_iconst (v := 0) hx hb d_T_compareTexts_0 (by decide) ?_
  refine lv_istore_n hx hb d_T_compareTexts_1 rfl hl (by decide) rfl (fun ls hl => ?_)
  have hl : lv_has ls 5 [(3, .int 0), (0, .ref (ta 0)), (1, .null), (2, .null)] := hl
  refine lv_iload_n hx hb d_T_compareTexts_2 rfl (lv_at hl 0 rfl) ?_
  refine lv_aload_n hx hb d_T_compareTexts_3 rfl (lv_at hl 1 rfl) ?_
  refine gF (v := .int (nI t.nc)) hx hb hown hE hK hP 0 rfl rfl layT 1 (by decide) w1376 rfl d_T_compareTexts_4 ?_
  refine lv_icmp_ge hx hb d_T_compareTexts_7 (tgt := 49) rfl (fun g1 => ?_) (fun g1 => ?_)
  rotate_left
  · have g1 := mt (nI_leI (a := t.nc) (b := 0) (by omega) (by omega)).mpr g1; exfalso; omega
  have g1 := (nI_leI (a := t.nc) (b := 0) (by omega) (by omega)).mp g1
  refine lv_iconst (v := 0) hx hb d_T_compareTexts_49 (by decide) ?_
  exact rfI hx hb hr hlk hS () rfl hP hD (Nat.le_of_ble_eq_true rfl) (Nat.le_of_ble_eq_true rfl) d_T_compareTexts_50
set_option maxHeartbeats 4000000 in
set_option maxRecDepth 100000 in
theorem v_TcompareTexts_zr (l : Launch) (D : va_G) (dA : Nat → ClassId) (sz : Nat) (ws : va_W) (ta : Nat → Nat) (t : TB) (b : Nat) (h0 : t.nc = 0) : Met l ⟨"SeriesVault$Table", "compareTexts", "(LSeriesVault$Series;LSeriesVault$Series;)I"⟩ [Cond.code ⟨"SeriesVault$Table", "compareTexts", "(LSeriesVault$Series;LSeriesVault$Series;)I"⟩ prog_11_method_7_code 5 (some FieldType.int)] { frames := 1, cells := 0, slots := 0, locals := 0 } (pC D dA [.ref (ta 0), .null, .ref b] (TbW dA ta t ++ (ws)) sz) (va_Qi (fun (r9 : Int32) (u9 : Unit) => r9 = 0) (fun (u9 : Unit) t9 => bW D (va_A (TbW dA ta t ++ (ws)) sz) (TbW dA ta t ++ (ws)) t9) (va_A (TbW dA ta t ++ (ws)) sz)) 0 0 (va_A (TbW dA ta t ++ (ws)) sz) := by
  refine mkC (y := ⟨"SeriesVault$Table", "compareTexts", "(LSeriesVault$Series;LSeriesVault$Series;)I"⟩) (cc := prog_11_method_7_code) (maxL := 5) (av := [.ref (ta 0), .null, .ref b]) (ws := TbW dA ta t ++ (ws)) (sz := sz) (Qc := fun A => va_Qi (fun (r9 : Int32) (u9 : Unit) => r9 = 0) (fun (u9 : Unit) t9 => bW D A (TbW dA ta t ++ (ws)) t9) A) (by decide) (Nat.le_of_ble_eq_true rfl) ?_
  intro A p e s m below meth c ls hsz hB
  obtain ⟨hx, hb, hr, hml, hown, hin, hlk, hE, hK, hP, hD, hS, hA, hN, hl⟩ := hB
  have hown : s.vm.findClass "SeriesVault$Table" = some m.cls := hown
  have hl : lv_has ls 5 [(0, .ref (ta 0)), (1, .null), (2, .ref b)] := hl
  obtain ⟨H, hH⟩ : ∃ z, z = s.heap := ⟨_, rfl⟩
  have hP : va_P D vwCl (TbW dA ta t ++ (ws)) H := by rw [hH]; exact hP
  have hS : va_S A s.heap H [] := by rw [hH]; exact hS
  rw [← hH]
  refine lv_iconst (v := 0) hx hb d_T_compareTexts_0 (by decide) ?_
  refine lv_istore_n hx hb d_T_compareTexts_1 rfl hl (by decide) rfl (fun ls hl => ?_)
  have hl : lv_has ls 5 [(3, .int 0), (0, .ref (ta 0)), (1, .null), (2, .ref b)] := hl
  refine lv_iload_n hx hb d_T_compareTexts_2 rfl (lv_at hl 0 rfl) ?_
  refine lv_aload_n hx hb d_T_compareTexts_3 rfl (lv_at hl 1 rfl) ?_
  refine gF (v := .int (nI t.nc)) hx hb hown hE hK hP 0 rfl rfl layT 1 (by decide) w1376 rfl d_T_compareTexts_4 ?_
  refine lv_icmp_ge hx hb d_T_compareTexts_7 (tgt := 49) rfl (fun g1 => ?_) (fun g1 => ?_)
  rotate_left
  · have g1 := mt (nI_leI (a := t.nc) (b := 0) (by omega) (by omega)).mpr g1; exfalso; omega
  have g1 := (nI_leI (a := t.nc) (b := 0) (by omega) (by omega)).mp g1
  refine lv_iconst (v := 0) hx hb d_T_compareTexts_49 (by decide) ?_
  exact rfI hx hb hr hlk hS () rfl hP hD (Nat.le_of_ble_eq_true rfl) (Nat.le_of_ble_eq_true rfl) d_T_compareTexts_50
set_option maxHeartbeats 4000000 in
set_option maxRecDepth 100000 in
theorem v_TcompareTexts_rz (l : Launch) (D : va_G) (dA : Nat → ClassId) (sz : Nat) (ws : va_W) (ta : Nat → Nat) (t : TB) (a : Nat) (h0 : t.nc = 0) : Met l ⟨"SeriesVault$Table", "compareTexts", "(LSeriesVault$Series;LSeriesVault$Series;)I"⟩ [Cond.code ⟨"SeriesVault$Table", "compareTexts", "(LSeriesVault$Series;LSeriesVault$Series;)I"⟩ prog_11_method_7_code 5 (some FieldType.int)] { frames := 1, cells := 0, slots := 0, locals := 0 } (pC D dA [.ref (ta 0), .ref a, .null] (TbW dA ta t ++ (ws)) sz) (va_Qi (fun (r9 : Int32) (u9 : Unit) => r9 = 0) (fun (u9 : Unit) t9 => bW D (va_A (TbW dA ta t ++ (ws)) sz) (TbW dA ta t ++ (ws)) t9) (va_A (TbW dA ta t ++ (ws)) sz)) 0 0 (va_A (TbW dA ta t ++ (ws)) sz) := by
  refine mkC (y := ⟨"SeriesVault$Table", "compareTexts", "(LSeriesVault$Series;LSeriesVault$Series;)I"⟩) (cc := prog_11_method_7_code) (maxL := 5) (av := [.ref (ta 0), .ref a, .null]) (ws := TbW dA ta t ++ (ws)) (sz := sz) (Qc := fun A => va_Qi (fun (r9 : Int32) (u9 : Unit) => r9 = 0) (fun (u9 : Unit) t9 => bW D A (TbW dA ta t ++ (ws)) t9) A) (by decide) (Nat.le_of_ble_eq_true rfl) ?_
  intro A p e s m below meth c ls hsz hB
  obtain ⟨hx, hb, hr, hml, hown, hin, hlk, hE, hK, hP, hD, hS, hA, hN, hl⟩ := hB
  have hown : s.vm.findClass "SeriesVault$Table" = some m.cls := hown
  have hl : lv_has ls 5 [(0, .ref (ta 0)), (1, .ref a), (2, .null)] := hl
  obtain ⟨H, hH⟩ : ∃ z, z = s.heap := ⟨_, rfl⟩
  have hP : va_P D vwCl (TbW dA ta t ++ (ws)) H := by rw [hH]; exact hP
  have hS : va_S A s.heap H [] := by rw [hH]; exact hS
  rw [← hH]
  refine lv_iconst (v := 0) hx hb d_T_compareTexts_0 (by decide) ?_
  refine lv_istore_n hx hb d_T_compareTexts_1 rfl hl (by decide) rfl (fun ls hl => ?_)
  have hl : lv_has ls 5 [(3, .int 0), (0, .ref (ta 0)), (1, .ref a), (2, .null)] := hl
  refine lv_iload_n hx hb d_T_compareTexts_2 rfl (lv_at hl 0 rfl) ?_
  refine lv_aload_n hx hb d_T_compareTexts_3 rfl (lv_at hl 1 rfl) ?_
  refine gF (v := .int (nI t.nc)) hx hb hown hE hK hP 0 rfl rfl layT 1 (by decide) w1376 rfl d_T_compareTexts_4 ?_
  refine lv_icmp_ge hx hb d_T_compareTexts_7 (tgt := 49) rfl (fun g1 => ?_) (fun g1 => ?_)
  rotate_left
  · have g1 := mt (nI_leI (a := t.nc) (b := 0) (by omega) (by omega)).mpr g1; exfalso; omega
  have g1 := (nI_leI (a := t.nc) (b := 0) (by omega) (by omega)).mp g1
  refine lv_iconst (v := 0) hx hb d_T_compareTexts_49 (by decide) ?_
  exact rfI hx hb hr hlk hS () rfl hP hD (Nat.le_of_ble_eq_true rfl) (Nat.le_of_ble_eq_true rfl) d_T_compareTexts_50
set_option maxHeartbeats 4000000 in
set_option maxRecDepth 100000 in
theorem v_TcompareTexts_rr (l : Launch) (D : va_G) (dA : Nat → ClassId) (sz : Nat) (ws : va_W) (ta : Nat → Nat) (t : TB) (a : Nat) (b : Nat) (h0 : t.nc = 0) : Met l ⟨"SeriesVault$Table", "compareTexts", "(LSeriesVault$Series;LSeriesVault$Series;)I"⟩ [Cond.code ⟨"SeriesVault$Table", "compareTexts", "(LSeriesVault$Series;LSeriesVault$Series;)I"⟩ prog_11_method_7_code 5 (some FieldType.int)] { frames := 1, cells := 0, slots := 0, locals := 0 } (pC D dA [.ref (ta 0), .ref a, .ref b] (TbW dA ta t ++ (ws)) sz) (va_Qi (fun (r9 : Int32) (u9 : Unit) => r9 = 0) (fun (u9 : Unit) t9 => bW D (va_A (TbW dA ta t ++ (ws)) sz) (TbW dA ta t ++ (ws)) t9) (va_A (TbW dA ta t ++ (ws)) sz)) 0 0 (va_A (TbW dA ta t ++ (ws)) sz) := by
  refine mkC (y := ⟨"SeriesVault$Table", "compareTexts", "(LSeriesVault$Series;LSeriesVault$Series;)I"⟩) (cc := prog_11_method_7_code) (maxL := 5) (av := [.ref (ta 0), .ref a, .ref b]) (ws := TbW dA ta t ++ (ws)) (sz := sz) (Qc := fun A => va_Qi (fun (r9 : Int32) (u9 : Unit) => r9 = 0) (fun (u9 : Unit) t9 => bW D A (TbW dA ta t ++ (ws)) t9) A) (by decide) (Nat.le_of_ble_eq_true rfl) ?_
  intro A p e s m below meth c ls hsz hB
  obtain ⟨hx, hb, hr, hml, hown, hin, hlk, hE, hK, hP, hD, hS, hA, hN, hl⟩ := hB
  have hown : s.vm.findClass "SeriesVault$Table" = some m.cls := hown
  have hl : lv_has ls 5 [(0, .ref (ta 0)), (1, .ref a), (2, .ref b)] := hl
  obtain ⟨H, hH⟩ : ∃ z, z = s.heap := ⟨_, rfl⟩
  have hP : va_P D vwCl (TbW dA ta t ++ (ws)) H := by rw [hH]; exact hP
  have hS : va_S A s.heap H [] := by rw [hH]; exact hS
  rw [← hH]
  refine lv_iconst (v := 0) hx hb d_T_compareTexts_0 (by decide) ?_
  refine lv_istore_n hx hb d_T_compareTexts_1 rfl hl (by decide) rfl (fun ls hl => ?_)
  have hl : lv_has ls 5 [(3, .int 0), (0, .ref (ta 0)), (1, .ref a), (2, .ref b)] := hl
  refine lv_iload_n hx hb d_T_compareTexts_2 rfl (lv_at hl 0 rfl) ?_
  refine lv_aload_n hx hb d_T_compareTexts_3 rfl (lv_at hl 1 rfl) ?_
  refine gF (v := .int (nI t.nc)) hx hb hown hE hK hP 0 rfl rfl layT 1 (by decide) w1376 rfl d_T_compareTexts_4 ?_
  refine lv_icmp_ge hx hb d_T_compareTexts_7 (tgt := 49) rfl (fun g1 => ?_) (fun g1 => ?_)
  rotate_left
  · have g1 := mt (nI_leI (a := t.nc) (b := 0) (by omega) (by omega)).mpr g1; exfalso; omega
  have g1 := (nI_leI (a := t.nc) (b := 0) (by omega) (by omega)).mp g1
  refine lv_iconst (v := 0) hx hb d_T_compareTexts_49 (by decide) ?_
  exact rfI hx hb hr hlk hS () rfl hP hD (Nat.le_of_ble_eq_true rfl) (Nat.le_of_ble_eq_true rfl) d_T_compareTexts_50
set_option maxHeartbeats 4000000 in
set_option maxRecDepth 100000 in
theorem v_TjoinRows_a (l : Launch) (D : va_G) (dA : Nat → ClassId) (sz : Nat) (ws : va_W) (ta : Nat → Nat) (t : TB) (tb : Nat → Nat) (u : TB) (sg : Int32) (hcN : t.cN ≤ 65536) (hra : rsAll dA ws t.rs) (h0 : t.rc = 0) : Met l ⟨"SeriesVault$Table", "joinRows", "(ILSeriesVault$Table;)V"⟩ [Cond.code ⟨"SeriesVault$Table", "joinRows", "(ILSeriesVault$Table;)V"⟩ prog_11_method_17_code 6 none] { frames := 3, cells := 0, slots := 0, locals := 84 } (pC D dA [.ref (ta 0), .int sg, .ref (tb 0)] (TbW dA ta t ++ (TbW dA tb u ++ (ws))) sz) (va_Qv (fun (u9 : TB) => u9 = TB.j0 sg t u) (fun (u9 : TB) t9 => bW D (va_A (TbW dA ta t ++ (TbW dA tb u ++ (ws))) sz) (TbW dA ta u9 ++ (TbW dA tb u ++ (ws))) t9) (va_A (TbW dA ta t ++ (TbW dA tb u ++ (ws))) sz)) 0 0 (va_A (TbW dA ta t ++ (TbW dA tb u ++ (ws))) sz) := by
  refine mkC (y := ⟨"SeriesVault$Table", "joinRows", "(ILSeriesVault$Table;)V"⟩) (cc := prog_11_method_17_code) (maxL := 6) (av := [.ref (ta 0), .int sg, .ref (tb 0)]) (ws := TbW dA ta t ++ (TbW dA tb u ++ (ws))) (sz := sz) (Qc := fun A => va_Qv (fun (u9 : TB) => u9 = TB.j0 sg t u) (fun (u9 : TB) t9 => bW D A (TbW dA ta u9 ++ (TbW dA tb u ++ (ws))) t9) A) (by decide) (Nat.le_of_ble_eq_true rfl) ?_
  intro A p e s m below meth c ls hsz hB
  obtain ⟨hx, hb, hr, hml, hown, hin, hlk, hE, hK, hP, hD, hS, hA, hN, hl⟩ := hB
  have hown : s.vm.findClass "SeriesVault$Table" = some m.cls := hown
  have hl : lv_has ls 6 [(0, .ref (ta 0)), (1, .int sg), (2, .ref (tb 0))] := hl
  obtain ⟨H, hH⟩ : ∃ z, z = s.heap := ⟨_, rfl⟩
  have hP : va_P D vwCl (TbW dA ta t ++ (TbW dA tb u ++ (ws))) H := by rw [hH]; exact hP
  have hS : va_S A s.heap H [] := by rw [hH]; exact hS
  rw [← hH]
  refine lv_iconst (v := 0) hx hb d_T_joinRows_0 (by decide) ?_
  refine lv_istore_n hx hb d_T_joinRows_1 rfl hl (by decide) rfl (fun ls hl => ?_)
  have hl : lv_has ls 6 [(3, .int 0), (0, .ref (ta 0)), (1, .int sg), (2, .ref (tb 0))] := hl
  refine lv_iconst (v := 0) hx hb d_T_joinRows_2 (by decide) ?_
  refine lv_istore hx hb d_T_joinRows_3 hl (by decide) rfl (fun ls hl => ?_)
  have hl : lv_has ls 6 [(4, .int 0), (3, .int 0), (0, .ref (ta 0)), (1, .int sg), (2, .ref (tb 0))] := hl
  refine lv_iconst (v := 0) hx hb d_T_joinRows_5 (by decide) ?_
  refine lv_istore hx hb d_T_joinRows_6 hl (by decide) rfl (fun ls hl => ?_)
  have hl : lv_has ls 6 [(5, .int 0), (4, .int 0), (3, .int 0), (0, .ref (ta 0)), (1, .int sg), (2, .ref (tb 0))] := hl
  refine lv_iload hx hb d_T_joinRows_8 (lv_at hl 0 rfl) ?_
  refine lv_aload_n hx hb d_T_joinRows_10 rfl (lv_at hl 3 rfl) ?_
  refine gF (v := .int (nI t.rc)) hx hb hown hE hK hP 0 rfl rfl layT 3 (by decide) w1368 rfl d_T_joinRows_11 ?_
  refine lv_icmp_ge hx hb d_T_joinRows_14 (tgt := 110) rfl (fun g1 => ?_) (fun g1 => ?_)
  rotate_left
  · have g1 := mt (nI_leI (a := t.rc) (b := 0) (by omega) (by omega)).mpr g1; exfalso; omega
  have g1 := (nI_leI (a := t.rc) (b := 0) (by omega) (by omega)).mp g1
  refine lv_aload_n hx hb d_T_joinRows_110 rfl (lv_at hl 3 rfl) ?_
  refine lv_iload_n hx hb d_T_joinRows_111 rfl (lv_at hl 2 rfl) ?_
  refine pF (v := .int (nI 0)) hx hb hown hE hK hP hD hS 0 rfl rfl layT tyT tokT nmT 3 (by decide) w1368 rfl rfl rfl (Nat.le_of_ble_eq_true rfl) d_T_joinRows_112 (fun H locs hP hD hS => ?_)
  have hP : va_P D vwCl (TbW dA ta (TB.s_rc t 0) ++ (TbW dA tb u ++ (ws))) H := hP
  have hD : va_D A (TbW dA ta (TB.s_rc t 0) ++ (TbW dA tb u ++ (ws))) := hD
  refine lv_aload_n hx hb d_T_joinRows_115 rfl (lv_at hl 3 rfl) ?_
  refine jkV (wr := []) (rnV (As := []) (rest := []) hx hb hml hown hE hK (hN _ _ hS) hP hD (v_TdropEmptyRows l D dA H.size (TbW dA tb u ++ (ws)) ta (TB.s_rc t 0) hcN (rsAll_m (fun _ hm => (List.mem_append_right _ hm)) hra) (by show 0 * t.wi ≤ t.cN; rw [Nat.zero_mul]; exact Nat.zero_le _) (Nat.zero_le _)) (q0 := 0) rfl rfl w1437 w1436 w1438 w1439 w807 rfl rfl ⟨⟨by decide, by decide⟩, rfl⟩ ⟨(Nat.le_of_ble_eq_true rfl), (Nat.le_of_ble_eq_true rfl)⟩ rfl hl.1 rfl (Nat.le_of_ble_eq_true rfl) d_T_joinRows_116 ⟨(Nat.le_of_ble_eq_true rfl), (Nat.le_of_ble_eq_true rfl)⟩) hP hD hS hA (fun u3 H locs hp9 hP hD hS => ?_)
  obtain ⟨y4, h9u⟩ : ∃ z9, z9 = u3 := ⟨_, rfl⟩
  subst h9u
  have hP : va_P D vwCl (TbW dA ta y4 ++ (TbW dA tb u ++ (ws))) H := hP
  have hD : va_D A (TbW dA ta y4 ++ (TbW dA tb u ++ (ws))) := hD
  have f_e_5 := hp9
  exact rfV hx hb hr hlk hS y4 (by rw [f_e_5, j0_0 (by omega)]) hP hD (Nat.le_of_ble_eq_true rfl) (Nat.le_of_ble_eq_true rfl) d_T_joinRows_119
set_option maxHeartbeats 4000000 in
set_option maxRecDepth 100000 in
theorem v_TjoinRows_b (l : Launch) (D : va_G) (dA : Nat → ClassId) (sz : Nat) (ws : va_W) (ta : Nat → Nat) (t : TB) (tb : Nat → Nat) (u : TB) (sg : Int32) (hcN : t.cN ≤ 65536) (hra : rsAll dA ws t.rs) (h0 : t.rc = 1) (hu : u.rc = 0) : Met l ⟨"SeriesVault$Table", "joinRows", "(ILSeriesVault$Table;)V"⟩ [Cond.code ⟨"SeriesVault$Table", "joinRows", "(ILSeriesVault$Table;)V"⟩ prog_11_method_17_code 6 none] { frames := 3, cells := 0, slots := 0, locals := 84 } (pC D dA [.ref (ta 0), .int sg, .ref (tb 0)] (TbW dA ta t ++ (TbW dA tb u ++ (ws))) sz) (va_Qv (fun (u9 : TB) => u9 = TB.j0 sg t u) (fun (u9 : TB) t9 => bW D (va_A (TbW dA ta t ++ (TbW dA tb u ++ (ws))) sz) (TbW dA ta u9 ++ (TbW dA tb u ++ (ws))) t9) (va_A (TbW dA ta t ++ (TbW dA tb u ++ (ws))) sz)) 0 0 (va_A (TbW dA ta t ++ (TbW dA tb u ++ (ws))) sz) := by
  refine mkC (y := ⟨"SeriesVault$Table", "joinRows", "(ILSeriesVault$Table;)V"⟩) (cc := prog_11_method_17_code) (maxL := 6) (av := [.ref (ta 0), .int sg, .ref (tb 0)]) (ws := TbW dA ta t ++ (TbW dA tb u ++ (ws))) (sz := sz) (Qc := fun A => va_Qv (fun (u9 : TB) => u9 = TB.j0 sg t u) (fun (u9 : TB) t9 => bW D A (TbW dA ta u9 ++ (TbW dA tb u ++ (ws))) t9) A) (by decide) (Nat.le_of_ble_eq_true rfl) ?_
  intro A p e s m below meth c ls hsz hB
  obtain ⟨hx, hb, hr, hml, hown, hin, hlk, hE, hK, hP, hD, hS, hA, hN, hl⟩ := hB
  have hown : s.vm.findClass "SeriesVault$Table" = some m.cls := hown
  have hl : lv_has ls 6 [(0, .ref (ta 0)), (1, .int sg), (2, .ref (tb 0))] := hl
  obtain ⟨H, hH⟩ : ∃ z, z = s.heap := ⟨_, rfl⟩
  have hP : va_P D vwCl (TbW dA ta t ++ (TbW dA tb u ++ (ws))) H := by rw [hH]; exact hP
  have hS : va_S A s.heap H [] := by rw [hH]; exact hS
  rw [← hH]
  refine lv_iconst (v := 0) hx hb d_T_joinRows_0 (by decide) ?_
  refine lv_istore_n hx hb d_T_joinRows_1 rfl hl (by decide) rfl (fun ls hl => ?_)
  have hl : lv_has ls 6 [(3, .int 0), (0, .ref (ta 0)), (1, .int sg), (2, .ref (tb 0))] := hl
  refine lv_iconst (v := 0) hx hb d_T_joinRows_2 (by decide) ?_
  refine lv_istore hx hb d_T_joinRows_3 hl (by decide) rfl (fun ls hl => ?_)
  have hl : lv_has ls 6 [(4, .int 0), (3, .int 0), (0, .ref (ta 0)), (1, .int sg), (2, .ref (tb 0))] := hl
  refine lv_iconst (v := 0) hx hb d_T_joinRows_5 (by decide) ?_
  refine lv_istore hx hb d_T_joinRows_6 hl (by decide) rfl (fun ls hl => ?_)
  have hl : lv_has ls 6 [(5, .int 0), (4, .int 0), (3, .int 0), (0, .ref (ta 0)), (1, .int sg), (2, .ref (tb 0))] := hl
  refine lv_iload hx hb d_T_joinRows_8 (lv_at hl 0 rfl) ?_
  refine lv_aload_n hx hb d_T_joinRows_10 rfl (lv_at hl 3 rfl) ?_
  refine gF (v := .int (nI t.rc)) hx hb hown hE hK hP 0 rfl rfl layT 3 (by decide) w1368 rfl d_T_joinRows_11 ?_
  refine lv_icmp_ge hx hb d_T_joinRows_14 (tgt := 110) rfl (fun g1 => ?_) (fun g1 => ?_)
  · have g1 := (nI_leI (a := t.rc) (b := 0) (by omega) (by omega)).mp g1; exfalso; omega
  have g1 := mt (nI_leI (a := t.rc) (b := 0) (by omega) (by omega)).mpr g1
  refine lv_iload hx hb d_T_joinRows_17 (lv_at hl 1 rfl) ?_
  refine lv_aload_n hx hb d_T_joinRows_19 rfl (lv_at hl 5 rfl) ?_
  refine gF (v := .int (nI u.rc)) hx hb hown hE hK hP 5 rfl rfl layT 3 (by decide) w1368 rfl d_T_joinRows_20 ?_
  refine lv_icmp_ge hx hb d_T_joinRows_23 (tgt := 53) rfl (fun g2 => ?_) (fun g2 => ?_)
  rotate_left
  · have g2 := mt (nI_leI (a := u.rc) (b := 0) (by omega) (by omega)).mpr g2; exfalso; omega
  have g2 := (nI_leI (a := u.rc) (b := 0) (by omega) (by omega)).mp g2
  refine lv_iload hx hb d_T_joinRows_53 (lv_at hl 1 rfl) ?_
  refine lv_aload_n hx hb d_T_joinRows_55 rfl (lv_at hl 5 rfl) ?_
  refine gF (v := .int (nI u.rc)) hx hb hown hE hK hP 5 rfl rfl layT 3 (by decide) w1368 rfl d_T_joinRows_56 ?_
  refine lv_icmp_ge hx hb d_T_joinRows_59 (tgt := 104) rfl (fun g3 => ?_) (fun g3 => ?_)
  rotate_left
  · have g3 := mt (nI_leI (a := u.rc) (b := 0) (by omega) (by omega)).mpr g3; exfalso; omega
  have g3 := (nI_leI (a := u.rc) (b := 0) (by omega) (by omega)).mp g3
  refine lv_iinc (k := 0) (v := 1) hx hb d_T_joinRows_104 hl rfl (by decide) (by decide) rfl (fun ls hl => ?_)
  have hl : lv_has ls 6 [(5, .int 1), (4, .int 0), (3, .int 0), (0, .ref (ta 0)), (1, .int sg), (2, .ref (tb 0))] := hl
  refine lv_goto hx hb d_T_joinRows_107 (tgt := 8) rfl ?_
  refine lv_iload hx hb d_T_joinRows_8 (lv_at hl 0 rfl) ?_
  refine lv_aload_n hx hb d_T_joinRows_10 rfl (lv_at hl 3 rfl) ?_
  refine gF (v := .int (nI t.rc)) hx hb hown hE hK hP 0 rfl rfl layT 3 (by decide) w1368 rfl d_T_joinRows_11 ?_
  refine lv_icmp_ge hx hb d_T_joinRows_14 (tgt := 110) rfl (fun g4 => ?_) (fun g4 => ?_)
  rotate_left
  · have g4 := mt (nI_leI (a := t.rc) (b := 1) (by omega) (by omega)).mpr g4; exfalso; omega
  have g4 := (nI_leI (a := t.rc) (b := 1) (by omega) (by omega)).mp g4
  refine lv_aload_n hx hb d_T_joinRows_110 rfl (lv_at hl 3 rfl) ?_
  refine lv_iload_n hx hb d_T_joinRows_111 rfl (lv_at hl 2 rfl) ?_
  refine pF (v := .int (nI 0)) hx hb hown hE hK hP hD hS 0 rfl rfl layT tyT tokT nmT 3 (by decide) w1368 rfl rfl rfl (Nat.le_of_ble_eq_true rfl) d_T_joinRows_112 (fun H locs hP hD hS => ?_)
  have hP : va_P D vwCl (TbW dA ta (TB.s_rc t 0) ++ (TbW dA tb u ++ (ws))) H := hP
  have hD : va_D A (TbW dA ta (TB.s_rc t 0) ++ (TbW dA tb u ++ (ws))) := hD
  refine lv_aload_n hx hb d_T_joinRows_115 rfl (lv_at hl 3 rfl) ?_
  refine jkV (wr := []) (rnV (As := []) (rest := []) hx hb hml hown hE hK (hN _ _ hS) hP hD (v_TdropEmptyRows l D dA H.size (TbW dA tb u ++ (ws)) ta (TB.s_rc t 0) hcN (rsAll_m (fun _ hm => (List.mem_append_right _ hm)) hra) (by show 0 * t.wi ≤ t.cN; rw [Nat.zero_mul]; exact Nat.zero_le _) (Nat.zero_le _)) (q0 := 0) rfl rfl w1437 w1436 w1438 w1439 w807 rfl rfl ⟨⟨by decide, by decide⟩, rfl⟩ ⟨(Nat.le_of_ble_eq_true rfl), (Nat.le_of_ble_eq_true rfl)⟩ rfl hl.1 rfl (Nat.le_of_ble_eq_true rfl) d_T_joinRows_116 ⟨(Nat.le_of_ble_eq_true rfl), (Nat.le_of_ble_eq_true rfl)⟩) hP hD hS hA (fun u6 H locs hp9 hP hD hS => ?_)
  obtain ⟨y7, h9u⟩ : ∃ z9, z9 = u6 := ⟨_, rfl⟩
  subst h9u
  have hP : va_P D vwCl (TbW dA ta y7 ++ (TbW dA tb u ++ (ws))) H := hP
  have hD : va_D A (TbW dA ta y7 ++ (TbW dA tb u ++ (ws))) := hD
  have f_e_8 := hp9
  exact rfV hx hb hr hlk hS y7 (by rw [f_e_8, j0_0 (by omega)]) hP hD (Nat.le_of_ble_eq_true rfl) (Nat.le_of_ble_eq_true rfl) d_T_joinRows_119
set_option maxHeartbeats 4000000 in
set_option maxRecDepth 100000 in
theorem v_TjoinRows_c (l : Launch) (D : va_G) (dA : Nat → ClassId) (sz : Nat) (ws : va_W) (ta : Nat → Nat) (t : TB) (tb : Nat → Nat) (u : TB) (sg : Int32) (hop : isOp sg) (hcN : t.cN ≤ 65536) (hcM : u.cN ≤ 65536) (hra : rsAll dA ws t.rs) (hn0 : t.nc = 0) (h0 : t.rc = 1) (hu : u.rc = 1) (k1 : t.wi ≤ t.cN) (k3 : t.wi ≤ u.cN) (hw : u.wi = t.wi) : Met l ⟨"SeriesVault$Table", "joinRows", "(ILSeriesVault$Table;)V"⟩ [Cond.code ⟨"SeriesVault$Table", "joinRows", "(ILSeriesVault$Table;)V"⟩ prog_11_method_17_code 6 none] { frames := 3, cells := 0, slots := 0, locals := 84 } (pC D dA [.ref (ta 0), .int sg, .ref (tb 0)] (TbW dA ta t ++ (TbW dA tb u ++ (ws))) sz) (va_Qv (fun (u9 : TB) => u9 = TB.j0 sg t u) (fun (u9 : TB) t9 => bW D (va_A (TbW dA ta t ++ (TbW dA tb u ++ (ws))) sz) (TbW dA ta u9 ++ (TbW dA tb u ++ (ws))) t9) (va_A (TbW dA ta t ++ (TbW dA tb u ++ (ws))) sz)) 0 0 (va_A (TbW dA ta t ++ (TbW dA tb u ++ (ws))) sz) := by
  refine mkC (y := ⟨"SeriesVault$Table", "joinRows", "(ILSeriesVault$Table;)V"⟩) (cc := prog_11_method_17_code) (maxL := 6) (av := [.ref (ta 0), .int sg, .ref (tb 0)]) (ws := TbW dA ta t ++ (TbW dA tb u ++ (ws))) (sz := sz) (Qc := fun A => va_Qv (fun (u9 : TB) => u9 = TB.j0 sg t u) (fun (u9 : TB) t9 => bW D A (TbW dA ta u9 ++ (TbW dA tb u ++ (ws))) t9) A) (by decide) (Nat.le_of_ble_eq_true rfl) ?_
  intro A p e s m below meth c ls hsz hB
  obtain ⟨hx, hb, hr, hml, hown, hin, hlk, hE, hK, hP, hD, hS, hA, hN, hl⟩ := hB
  have hown : s.vm.findClass "SeriesVault$Table" = some m.cls := hown
  have hl : lv_has ls 6 [(0, .ref (ta 0)), (1, .int sg), (2, .ref (tb 0))] := hl
  obtain ⟨H, hH⟩ : ∃ z, z = s.heap := ⟨_, rfl⟩
  have hP : va_P D vwCl (TbW dA ta t ++ (TbW dA tb u ++ (ws))) H := by rw [hH]; exact hP
  have hS : va_S A s.heap H [] := by rw [hH]; exact hS
  rw [← hH]
  rcases rs2C t.rs u.rs with ⟨e1, e2⟩ | ⟨a, e1, e2⟩ | ⟨b, e1, e2⟩ | ⟨a, b, e1, e2⟩
  · refine lv_iconst (v := 0) hx hb d_T_joinRows_0 (by decide) ?_
    refine lv_istore_n hx hb d_T_joinRows_1 rfl hl (by decide) rfl (fun ls hl => ?_)
    have hl : lv_has ls 6 [(3, .int 0), (0, .ref (ta 0)), (1, .int sg), (2, .ref (tb 0))] := hl
    refine lv_iconst (v := 0) hx hb d_T_joinRows_2 (by decide) ?_
    refine lv_istore hx hb d_T_joinRows_3 hl (by decide) rfl (fun ls hl => ?_)
    have hl : lv_has ls 6 [(4, .int 0), (3, .int 0), (0, .ref (ta 0)), (1, .int sg), (2, .ref (tb 0))] := hl
    refine lv_iconst (v := 0) hx hb d_T_joinRows_5 (by decide) ?_
    refine lv_istore hx hb d_T_joinRows_6 hl (by decide) rfl (fun ls hl => ?_)
    have hl : lv_has ls 6 [(5, .int 0), (4, .int 0), (3, .int 0), (0, .ref (ta 0)), (1, .int sg), (2, .ref (tb 0))] := hl
    refine lv_iload hx hb d_T_joinRows_8 (lv_at hl 0 rfl) ?_
    refine lv_aload_n hx hb d_T_joinRows_10 rfl (lv_at hl 3 rfl) ?_
    refine gF (v := .int (nI t.rc)) hx hb hown hE hK hP 0 rfl rfl layT 3 (by decide) w1368 rfl d_T_joinRows_11 ?_
    refine lv_icmp_ge hx hb d_T_joinRows_14 (tgt := 110) rfl (fun g1 => ?_) (fun g1 => ?_)
    · have g1 := (nI_leI (a := t.rc) (b := 0) (by omega) (by omega)).mp g1; exfalso; omega
    have g1 := mt (nI_leI (a := t.rc) (b := 0) (by omega) (by omega)).mpr g1
    refine lv_iload hx hb d_T_joinRows_17 (lv_at hl 1 rfl) ?_
    refine lv_aload_n hx hb d_T_joinRows_19 rfl (lv_at hl 5 rfl) ?_
    refine gF (v := .int (nI u.rc)) hx hb hown hE hK hP 5 rfl rfl layT 3 (by decide) w1368 rfl d_T_joinRows_20 ?_
    refine lv_icmp_ge hx hb d_T_joinRows_23 (tgt := 53) rfl (fun g2 => ?_) (fun g2 => ?_)
    · have g2 := (nI_leI (a := u.rc) (b := 0) (by omega) (by omega)).mp g2; exfalso; omega
    have g2 := mt (nI_leI (a := u.rc) (b := 0) (by omega) (by omega)).mpr g2
    refine lv_aload_n hx hb d_T_joinRows_26 rfl (lv_at hl 3 rfl) ?_
    refine lv_aload_n hx hb d_T_joinRows_27 rfl (lv_at hl 5 rfl) ?_
    refine gF (v := .ref (tb 2)) hx hb hown hE hK hP 5 rfl rfl layT 4 (by decide) w787 rfl d_T_joinRows_28 ?_
    refine lv_iload hx hb d_T_joinRows_31 (lv_at hl 1 rfl) ?_
    refine nqldN (f := u.rs) (n := 256) hx hb hK hP (7) 5 rfl rfl (0) (by omega) (by decide) e2 d_T_joinRows_33 ?_
    refine lv_aload_n hx hb d_T_joinRows_34 rfl (lv_at hl 3 rfl) ?_
    refine gF (v := .ref (ta 2)) hx hb hown hE hK hP 0 rfl rfl layT 4 (by decide) w787 rfl d_T_joinRows_35 ?_
    refine lv_iload hx hb d_T_joinRows_38 (lv_at hl 0 rfl) ?_
    refine nqldN (f := t.rs) (n := 256) hx hb hK hP (2) 5 rfl rfl (0) (by omega) (by decide) e1 d_T_joinRows_40 ?_
    refine jkI (wr := []) (rnV (As := [.null, .null]) (rest := []) hx hb hml hown hE hK (hN _ _ hS) hP hD (v_TcompareTexts_zz l D dA H.size (TbW dA tb u ++ (ws)) ta t hn0) (q0 := 0) rfl rfl w1421 w1420 w1422 w1423 w807 rfl rfl ⟨⟨by decide, by decide⟩, rfl⟩ ⟨(Nat.le_of_ble_eq_true rfl), (Nat.le_of_ble_eq_true rfl)⟩ rfl hl.1 rfl (Nat.le_of_ble_eq_true rfl) d_T_joinRows_41 ⟨(Nat.le_of_ble_eq_true rfl), (Nat.le_of_ble_eq_true rfl)⟩) hP hD hS hA (fun r3 u4 H locs hp9 hP hD hS => ?_)
    have hP : va_P D vwCl (TbW dA ta t ++ (TbW dA tb u ++ (ws))) H := hP
    have hD : va_D A (TbW dA ta t ++ (TbW dA tb u ++ (ws))) := hD
    replace hp9 : 0 = r3 := Eq.symm hp9
    subst hp9
    refine lv_if_ge hx hb d_T_joinRows_44 (tgt := 53) rfl (fun _ => ?_) (fun h9 => absurd (by decide) h9)
    refine lv_iload hx hb d_T_joinRows_53 (lv_at hl 1 rfl) ?_
    refine lv_aload_n hx hb d_T_joinRows_55 rfl (lv_at hl 5 rfl) ?_
    refine gF (v := .int (nI u.rc)) hx hb hown hE hK hP 5 rfl rfl layT 3 (by decide) w1368 rfl d_T_joinRows_56 ?_
    refine lv_icmp_ge hx hb d_T_joinRows_59 (tgt := 104) rfl (fun g5 => ?_) (fun g5 => ?_)
    · have g5 := (nI_leI (a := u.rc) (b := 0) (by omega) (by omega)).mp g5; exfalso; omega
    have g5 := mt (nI_leI (a := u.rc) (b := 0) (by omega) (by omega)).mpr g5
    refine lv_aload_n hx hb d_T_joinRows_62 rfl (lv_at hl 3 rfl) ?_
    refine lv_aload_n hx hb d_T_joinRows_63 rfl (lv_at hl 5 rfl) ?_
    refine gF (v := .ref (tb 2)) hx hb hown hE hK hP 5 rfl rfl layT 4 (by decide) w787 rfl d_T_joinRows_64 ?_
    refine lv_iload hx hb d_T_joinRows_67 (lv_at hl 1 rfl) ?_
    refine nqldN (f := u.rs) (n := 256) hx hb hK hP (7) 5 rfl rfl (0) (by omega) (by decide) e2 d_T_joinRows_69 ?_
    refine lv_aload_n hx hb d_T_joinRows_70 rfl (lv_at hl 3 rfl) ?_
    refine gF (v := .ref (ta 2)) hx hb hown hE hK hP 0 rfl rfl layT 4 (by decide) w787 rfl d_T_joinRows_71 ?_
    refine lv_iload hx hb d_T_joinRows_74 (lv_at hl 0 rfl) ?_
    refine nqldN (f := t.rs) (n := 256) hx hb hK hP (2) 5 rfl rfl (0) (by omega) (by decide) e1 d_T_joinRows_76 ?_
    refine jkI (wr := []) (rnV (As := [.null, .null]) (rest := []) hx hb hml hown hE hK (hN _ _ hS) hP hD (v_TcompareTexts_zz l D dA H.size (TbW dA tb u ++ (ws)) ta t hn0) (q0 := 0) rfl rfl w1421 w1420 w1422 w1423 w807 rfl rfl ⟨⟨by decide, by decide⟩, rfl⟩ ⟨(Nat.le_of_ble_eq_true rfl), (Nat.le_of_ble_eq_true rfl)⟩ rfl hl.1 rfl (Nat.le_of_ble_eq_true rfl) d_T_joinRows_77 ⟨(Nat.le_of_ble_eq_true rfl), (Nat.le_of_ble_eq_true rfl)⟩) hP hD hS hA (fun r6 u7 H locs hp9 hP hD hS => ?_)
    have hP : va_P D vwCl (TbW dA ta t ++ (TbW dA tb u ++ (ws))) H := hP
    have hD : va_D A (TbW dA ta t ++ (TbW dA tb u ++ (ws))) := hD
    replace hp9 : 0 = r6 := Eq.symm hp9
    subst hp9
    refine lv_if_ne hx hb d_T_joinRows_80 (tgt := 104) rfl (fun h9 => absurd (by decide) h9) (fun _ => ?_)
    refine lv_aload_n hx hb d_T_joinRows_83 rfl (lv_at hl 3 rfl) ?_
    refine lv_iload hx hb d_T_joinRows_84 (lv_at hl 0 rfl) ?_
    refine lv_iload_n hx hb d_T_joinRows_86 rfl (lv_at hl 2 rfl) ?_
    refine jkV (wr := []) (rnV (As := [.int 0, .int 0]) (rest := []) hx hb hml hown hE hK (hN _ _ hS) hP hD (v_TmoveRow l D dA H.size (TbW dA tb u ++ (ws)) ta t 0 0 hcN (rsAll_m (fun _ hm => (List.mem_append_right _ hm)) hra) (show 0 < 256 from by omega) (show 0 < 256 from by omega) (show 0 * t.wi + t.wi ≤ t.cN from by omega) (show 0 * t.wi + t.wi ≤ t.cN from by omega)) (q0 := 0) rfl rfl w1409 w1408 w1410 w1411 w807 rfl rfl ⟨⟨by decide, by decide⟩, rfl⟩ ⟨(Nat.le_of_ble_eq_true rfl), (Nat.le_of_ble_eq_true rfl)⟩ rfl hl.1 rfl (Nat.le_of_ble_eq_true rfl) d_T_joinRows_87 ⟨(Nat.le_of_ble_eq_true rfl), (Nat.le_of_ble_eq_true rfl)⟩) hP hD hS hA (fun u9 H locs hp9 hP hD hS => ?_)
    have hP : va_P D vwCl (TbW dA ta (TB.s_ce (TB.s_th (TB.s_rs t (va_up t.rs 0 (t.rs 0))) (va_up t.th 0 (t.th 0))) (va_cpy t.ce t.ce (0 * t.wi) (0 * t.wi) t.wi)) ++ (TbW dA tb u ++ (ws))) H := hP
    have hD : va_D A (TbW dA ta (TB.s_ce (TB.s_th (TB.s_rs t (va_up t.rs 0 (t.rs 0))) (va_up t.th 0 (t.th 0))) (va_cpy t.ce t.ce (0 * t.wi) (0 * t.wi) t.wi)) ++ (TbW dA tb u ++ (ws))) := hD
    refine lv_aload_n hx hb d_T_joinRows_90 rfl (lv_at hl 3 rfl) ?_
    refine lv_iload_n hx hb d_T_joinRows_91 rfl (lv_at hl 4 rfl) ?_
    refine lv_aload_n hx hb d_T_joinRows_92 rfl (lv_at hl 3 rfl) ?_
    refine lv_iload_n hx hb d_T_joinRows_93 rfl (lv_at hl 2 rfl) ?_
    refine lv_aload_n hx hb d_T_joinRows_94 rfl (lv_at hl 5 rfl) ?_
    refine lv_iload hx hb d_T_joinRows_95 (lv_at hl 1 rfl) ?_
    refine lv_iload_n hx hb d_T_joinRows_97 rfl (lv_at hl 2 rfl) ?_
    refine jkV (wr := []) (rnV (As := [.int sg, .ref (ta 0), .int 0, .ref (tb 0), .int 0, .int 0]) (rest := []) hx hb hml hown hE hK (hN _ _ hS) hP hD (v_TjoinRow_l l D dA H.size ws ta (TB.s_ce (TB.s_th (TB.s_rs t (va_up t.rs 0 (t.rs 0))) (va_up t.th 0 (t.th 0))) (va_cpy t.ce t.ce (0 * t.wi) (0 * t.wi) t.wi)) tb u sg 0 0 0 hop hcN hcM (show 0 < 256 from by omega) (show 0 < 256 from by omega) (show 0 < 256 from by omega) (by show 0 * t.wi + t.wi ≤ t.cN; omega) (by show 0 * t.wi + t.wi ≤ t.cN; omega) (by show 0 * u.wi + t.wi ≤ u.cN; rw [Nat.zero_mul]; omega) (Nat.le_refl _)) (q0 := 0) rfl rfl w1441 w1440 w1442 w1443 w807 rfl rfl ⟨⟨by decide, by decide⟩, rfl⟩ ⟨(Nat.le_of_ble_eq_true rfl), (Nat.le_of_ble_eq_true rfl)⟩ rfl hl.1 rfl (Nat.le_of_ble_eq_true rfl) d_T_joinRows_98 ⟨(Nat.le_of_ble_eq_true rfl), (Nat.le_of_ble_eq_true rfl)⟩) hP hD hS hA (fun u11 H locs hp9 hP hD hS => ?_)
    have hP : va_P D vwCl (TbW dA ta (TB.s_ce (TB.s_th (TB.s_rs t (va_up t.rs 0 (t.rs 0))) (va_up (va_up t.th 0 (t.th 0)) 0 (jrW sg (((va_up t.th 0 (t.th 0)) 0) &&& (u.th 0)) (fun w => (va_cpy t.ce t.ce (0 * t.wi) (0 * t.wi) t.wi) (0 * t.wi + w)) (fun w => u.ce (0 * u.wi + w)) (va_cpy t.ce t.ce (0 * t.wi) (0 * t.wi) t.wi) (0 * t.wi) t.wi).1)) ((jrW sg (((va_up t.th 0 (t.th 0)) 0) &&& (u.th 0)) (fun w => (va_cpy t.ce t.ce (0 * t.wi) (0 * t.wi) t.wi) (0 * t.wi + w)) (fun w => u.ce (0 * u.wi + w)) (va_cpy t.ce t.ce (0 * t.wi) (0 * t.wi) t.wi) (0 * t.wi) t.wi).2)) ++ (TbW dA tb u ++ (ws))) H := hP
    have hD : va_D A (TbW dA ta (TB.s_ce (TB.s_th (TB.s_rs t (va_up t.rs 0 (t.rs 0))) (va_up (va_up t.th 0 (t.th 0)) 0 (jrW sg (((va_up t.th 0 (t.th 0)) 0) &&& (u.th 0)) (fun w => (va_cpy t.ce t.ce (0 * t.wi) (0 * t.wi) t.wi) (0 * t.wi + w)) (fun w => u.ce (0 * u.wi + w)) (va_cpy t.ce t.ce (0 * t.wi) (0 * t.wi) t.wi) (0 * t.wi) t.wi).1)) ((jrW sg (((va_up t.th 0 (t.th 0)) 0) &&& (u.th 0)) (fun w => (va_cpy t.ce t.ce (0 * t.wi) (0 * t.wi) t.wi) (0 * t.wi + w)) (fun w => u.ce (0 * u.wi + w)) (va_cpy t.ce t.ce (0 * t.wi) (0 * t.wi) t.wi) (0 * t.wi) t.wi).2)) ++ (TbW dA tb u ++ (ws))) := hD
    refine lv_iinc (k := 2) (v := 1) hx hb d_T_joinRows_101 hl rfl (by decide) (by decide) rfl (fun ls hl => ?_)
    have hl : lv_has ls 6 [(3, .int 1), (5, .int 0), (4, .int 0), (0, .ref (ta 0)), (1, .int sg), (2, .ref (tb 0))] := hl
    refine lv_iinc (k := 1) (v := 1) hx hb d_T_joinRows_104 hl rfl (by decide) (by decide) rfl (fun ls hl => ?_)
    have hl : lv_has ls 6 [(5, .int 1), (3, .int 1), (4, .int 0), (0, .ref (ta 0)), (1, .int sg), (2, .ref (tb 0))] := hl
    refine lv_goto hx hb d_T_joinRows_107 (tgt := 8) rfl ?_
    refine lv_iload hx hb d_T_joinRows_8 (lv_at hl 0 rfl) ?_
    refine lv_aload_n hx hb d_T_joinRows_10 rfl (lv_at hl 3 rfl) ?_
    refine gF (v := .int (nI t.rc)) hx hb hown hE hK hP 0 rfl rfl layT 3 (by decide) w1368 rfl d_T_joinRows_11 ?_
    refine lv_icmp_ge hx hb d_T_joinRows_14 (tgt := 110) rfl (fun g12 => ?_) (fun g12 => ?_)
    rotate_left
    · have g12 := mt (nI_leI (a := t.rc) (b := 1) (by omega) (by omega)).mpr g12; exfalso; omega
    have g12 := (nI_leI (a := t.rc) (b := 1) (by omega) (by omega)).mp g12
    refine lv_aload_n hx hb d_T_joinRows_110 rfl (lv_at hl 3 rfl) ?_
    refine lv_iload_n hx hb d_T_joinRows_111 rfl (lv_at hl 1 rfl) ?_
    refine pF (v := .int (nI 1)) hx hb hown hE hK hP hD hS 0 rfl rfl layT tyT tokT nmT 3 (by decide) w1368 rfl rfl rfl (Nat.le_of_ble_eq_true rfl) d_T_joinRows_112 (fun H locs hP hD hS => ?_)
    have hP : va_P D vwCl (TbW dA ta (TB.s_ce (TB.s_th (TB.s_rs (TB.s_rc t 1) (va_up t.rs 0 (t.rs 0))) (va_up (va_up t.th 0 (t.th 0)) 0 (jrW sg (((va_up t.th 0 (t.th 0)) 0) &&& (u.th 0)) (fun w => (va_cpy t.ce t.ce (0 * t.wi) (0 * t.wi) t.wi) (0 * t.wi + w)) (fun w => u.ce (0 * u.wi + w)) (va_cpy t.ce t.ce (0 * t.wi) (0 * t.wi) t.wi) (0 * t.wi) t.wi).1)) ((jrW sg (((va_up t.th 0 (t.th 0)) 0) &&& (u.th 0)) (fun w => (va_cpy t.ce t.ce (0 * t.wi) (0 * t.wi) t.wi) (0 * t.wi + w)) (fun w => u.ce (0 * u.wi + w)) (va_cpy t.ce t.ce (0 * t.wi) (0 * t.wi) t.wi) (0 * t.wi) t.wi).2)) ++ (TbW dA tb u ++ (ws))) H := hP
    have hD : va_D A (TbW dA ta (TB.s_ce (TB.s_th (TB.s_rs (TB.s_rc t 1) (va_up t.rs 0 (t.rs 0))) (va_up (va_up t.th 0 (t.th 0)) 0 (jrW sg (((va_up t.th 0 (t.th 0)) 0) &&& (u.th 0)) (fun w => (va_cpy t.ce t.ce (0 * t.wi) (0 * t.wi) t.wi) (0 * t.wi + w)) (fun w => u.ce (0 * u.wi + w)) (va_cpy t.ce t.ce (0 * t.wi) (0 * t.wi) t.wi) (0 * t.wi) t.wi).1)) ((jrW sg (((va_up t.th 0 (t.th 0)) 0) &&& (u.th 0)) (fun w => (va_cpy t.ce t.ce (0 * t.wi) (0 * t.wi) t.wi) (0 * t.wi + w)) (fun w => u.ce (0 * u.wi + w)) (va_cpy t.ce t.ce (0 * t.wi) (0 * t.wi) t.wi) (0 * t.wi) t.wi).2)) ++ (TbW dA tb u ++ (ws))) := hD
    refine lv_aload_n hx hb d_T_joinRows_115 rfl (lv_at hl 3 rfl) ?_
    refine jkV (wr := []) (rnV (As := []) (rest := []) hx hb hml hown hE hK (hN _ _ hS) hP hD (v_TdropEmptyRows l D dA H.size (TbW dA tb u ++ (ws)) ta (TB.s_ce (TB.s_th (TB.s_rs (TB.s_rc t 1) (va_up t.rs 0 (t.rs 0))) (va_up (va_up t.th 0 (t.th 0)) 0 (jrW sg (((va_up t.th 0 (t.th 0)) 0) &&& (u.th 0)) (fun w => (va_cpy t.ce t.ce (0 * t.wi) (0 * t.wi) t.wi) (0 * t.wi + w)) (fun w => u.ce (0 * u.wi + w)) (va_cpy t.ce t.ce (0 * t.wi) (0 * t.wi) t.wi) (0 * t.wi) t.wi).1)) ((jrW sg (((va_up t.th 0 (t.th 0)) 0) &&& (u.th 0)) (fun w => (va_cpy t.ce t.ce (0 * t.wi) (0 * t.wi) t.wi) (0 * t.wi + w)) (fun w => u.ce (0 * u.wi + w)) (va_cpy t.ce t.ce (0 * t.wi) (0 * t.wi) t.wi) (0 * t.wi) t.wi).2)) hcN (rsAll_m (fun _ hm => (List.mem_append_right _ hm)) (rsAll_mv (r := 0) (n := 0) hra)) (by show 1 * t.wi ≤ t.cN; omega) (by show 1 ≤ 256; omega)) (q0 := 0) rfl rfl w1437 w1436 w1438 w1439 w807 rfl rfl ⟨⟨by decide, by decide⟩, rfl⟩ ⟨(Nat.le_of_ble_eq_true rfl), (Nat.le_of_ble_eq_true rfl)⟩ rfl hl.1 rfl (Nat.le_of_ble_eq_true rfl) d_T_joinRows_116 ⟨(Nat.le_of_ble_eq_true rfl), (Nat.le_of_ble_eq_true rfl)⟩) hP hD hS hA (fun u14 H locs hp9 hP hD hS => ?_)
    obtain ⟨y15, h9u⟩ : ∃ z9, z9 = u14 := ⟨_, rfl⟩
    subst h9u
    have hP : va_P D vwCl (TbW dA ta y15 ++ (TbW dA tb u ++ (ws))) H := hP
    have hD : va_D A (TbW dA ta y15 ++ (TbW dA tb u ++ (ws))) := hD
    have f_e_16 := hp9
    exact rfV hx hb hr hlk hS y15 (by rw [f_e_16, j0_1 h0 hu]; rfl) hP hD (Nat.le_of_ble_eq_true rfl) (Nat.le_of_ble_eq_true rfl) d_T_joinRows_119
  · refine lv_iconst (v := 0) hx hb d_T_joinRows_0 (by decide) ?_
    refine lv_istore_n hx hb d_T_joinRows_1 rfl hl (by decide) rfl (fun ls hl => ?_)
    have hl : lv_has ls 6 [(3, .int 0), (0, .ref (ta 0)), (1, .int sg), (2, .ref (tb 0))] := hl
    refine lv_iconst (v := 0) hx hb d_T_joinRows_2 (by decide) ?_
    refine lv_istore hx hb d_T_joinRows_3 hl (by decide) rfl (fun ls hl => ?_)
    have hl : lv_has ls 6 [(4, .int 0), (3, .int 0), (0, .ref (ta 0)), (1, .int sg), (2, .ref (tb 0))] := hl
    refine lv_iconst (v := 0) hx hb d_T_joinRows_5 (by decide) ?_
    refine lv_istore hx hb d_T_joinRows_6 hl (by decide) rfl (fun ls hl => ?_)
    have hl : lv_has ls 6 [(5, .int 0), (4, .int 0), (3, .int 0), (0, .ref (ta 0)), (1, .int sg), (2, .ref (tb 0))] := hl
    refine lv_iload hx hb d_T_joinRows_8 (lv_at hl 0 rfl) ?_
    refine lv_aload_n hx hb d_T_joinRows_10 rfl (lv_at hl 3 rfl) ?_
    refine gF (v := .int (nI t.rc)) hx hb hown hE hK hP 0 rfl rfl layT 3 (by decide) w1368 rfl d_T_joinRows_11 ?_
    refine lv_icmp_ge hx hb d_T_joinRows_14 (tgt := 110) rfl (fun g17 => ?_) (fun g17 => ?_)
    · have g17 := (nI_leI (a := t.rc) (b := 0) (by omega) (by omega)).mp g17; exfalso; omega
    have g17 := mt (nI_leI (a := t.rc) (b := 0) (by omega) (by omega)).mpr g17
    refine lv_iload hx hb d_T_joinRows_17 (lv_at hl 1 rfl) ?_
    refine lv_aload_n hx hb d_T_joinRows_19 rfl (lv_at hl 5 rfl) ?_
    refine gF (v := .int (nI u.rc)) hx hb hown hE hK hP 5 rfl rfl layT 3 (by decide) w1368 rfl d_T_joinRows_20 ?_
    refine lv_icmp_ge hx hb d_T_joinRows_23 (tgt := 53) rfl (fun g18 => ?_) (fun g18 => ?_)
    · have g18 := (nI_leI (a := u.rc) (b := 0) (by omega) (by omega)).mp g18; exfalso; omega
    have g18 := mt (nI_leI (a := u.rc) (b := 0) (by omega) (by omega)).mpr g18
    refine lv_aload_n hx hb d_T_joinRows_26 rfl (lv_at hl 3 rfl) ?_
    refine lv_aload_n hx hb d_T_joinRows_27 rfl (lv_at hl 5 rfl) ?_
    refine gF (v := .ref (tb 2)) hx hb hown hE hK hP 5 rfl rfl layT 4 (by decide) w787 rfl d_T_joinRows_28 ?_
    refine lv_iload hx hb d_T_joinRows_31 (lv_at hl 1 rfl) ?_
    refine nqldN (f := u.rs) (n := 256) hx hb hK hP (7) 5 rfl rfl (0) (by omega) (by decide) e2 d_T_joinRows_33 ?_
    refine lv_aload_n hx hb d_T_joinRows_34 rfl (lv_at hl 3 rfl) ?_
    refine gF (v := .ref (ta 2)) hx hb hown hE hK hP 0 rfl rfl layT 4 (by decide) w787 rfl d_T_joinRows_35 ?_
    refine lv_iload hx hb d_T_joinRows_38 (lv_at hl 0 rfl) ?_
    refine nqld (f := t.rs) (n := 256) hx hb hK hP (2) 5 rfl rfl (0) (by omega) (by decide) e1 d_T_joinRows_40 ?_
    refine jkI (wr := []) (rnV (As := [.null, .ref a]) (rest := []) hx hb hml hown hE hK (hN _ _ hS) hP hD (v_TcompareTexts_zr l D dA H.size (TbW dA tb u ++ (ws)) ta t a hn0) (q0 := 0) rfl rfl w1421 w1420 w1422 w1423 w807 rfl rfl ⟨⟨by decide, by decide⟩, rfl⟩ ⟨(Nat.le_of_ble_eq_true rfl), (Nat.le_of_ble_eq_true rfl)⟩ rfl hl.1 rfl (Nat.le_of_ble_eq_true rfl) d_T_joinRows_41 ⟨(Nat.le_of_ble_eq_true rfl), (Nat.le_of_ble_eq_true rfl)⟩) hP hD hS hA (fun r19 u20 H locs hp9 hP hD hS => ?_)
    have hP : va_P D vwCl (TbW dA ta t ++ (TbW dA tb u ++ (ws))) H := hP
    have hD : va_D A (TbW dA ta t ++ (TbW dA tb u ++ (ws))) := hD
    replace hp9 : 0 = r19 := Eq.symm hp9
    subst hp9
    refine lv_if_ge hx hb d_T_joinRows_44 (tgt := 53) rfl (fun _ => ?_) (fun h9 => absurd (by decide) h9)
    refine lv_iload hx hb d_T_joinRows_53 (lv_at hl 1 rfl) ?_
    refine lv_aload_n hx hb d_T_joinRows_55 rfl (lv_at hl 5 rfl) ?_
    refine gF (v := .int (nI u.rc)) hx hb hown hE hK hP 5 rfl rfl layT 3 (by decide) w1368 rfl d_T_joinRows_56 ?_
    refine lv_icmp_ge hx hb d_T_joinRows_59 (tgt := 104) rfl (fun g21 => ?_) (fun g21 => ?_)
    · have g21 := (nI_leI (a := u.rc) (b := 0) (by omega) (by omega)).mp g21; exfalso; omega
    have g21 := mt (nI_leI (a := u.rc) (b := 0) (by omega) (by omega)).mpr g21
    refine lv_aload_n hx hb d_T_joinRows_62 rfl (lv_at hl 3 rfl) ?_
    refine lv_aload_n hx hb d_T_joinRows_63 rfl (lv_at hl 5 rfl) ?_
    refine gF (v := .ref (tb 2)) hx hb hown hE hK hP 5 rfl rfl layT 4 (by decide) w787 rfl d_T_joinRows_64 ?_
    refine lv_iload hx hb d_T_joinRows_67 (lv_at hl 1 rfl) ?_
    refine nqldN (f := u.rs) (n := 256) hx hb hK hP (7) 5 rfl rfl (0) (by omega) (by decide) e2 d_T_joinRows_69 ?_
    refine lv_aload_n hx hb d_T_joinRows_70 rfl (lv_at hl 3 rfl) ?_
    refine gF (v := .ref (ta 2)) hx hb hown hE hK hP 0 rfl rfl layT 4 (by decide) w787 rfl d_T_joinRows_71 ?_
    refine lv_iload hx hb d_T_joinRows_74 (lv_at hl 0 rfl) ?_
    refine nqld (f := t.rs) (n := 256) hx hb hK hP (2) 5 rfl rfl (0) (by omega) (by decide) e1 d_T_joinRows_76 ?_
    refine jkI (wr := []) (rnV (As := [.null, .ref a]) (rest := []) hx hb hml hown hE hK (hN _ _ hS) hP hD (v_TcompareTexts_zr l D dA H.size (TbW dA tb u ++ (ws)) ta t a hn0) (q0 := 0) rfl rfl w1421 w1420 w1422 w1423 w807 rfl rfl ⟨⟨by decide, by decide⟩, rfl⟩ ⟨(Nat.le_of_ble_eq_true rfl), (Nat.le_of_ble_eq_true rfl)⟩ rfl hl.1 rfl (Nat.le_of_ble_eq_true rfl) d_T_joinRows_77 ⟨(Nat.le_of_ble_eq_true rfl), (Nat.le_of_ble_eq_true rfl)⟩) hP hD hS hA (fun r22 u23 H locs hp9 hP hD hS => ?_)
    have hP : va_P D vwCl (TbW dA ta t ++ (TbW dA tb u ++ (ws))) H := hP
    have hD : va_D A (TbW dA ta t ++ (TbW dA tb u ++ (ws))) := hD
    replace hp9 : 0 = r22 := Eq.symm hp9
    subst hp9
    refine lv_if_ne hx hb d_T_joinRows_80 (tgt := 104) rfl (fun h9 => absurd (by decide) h9) (fun _ => ?_)
    refine lv_aload_n hx hb d_T_joinRows_83 rfl (lv_at hl 3 rfl) ?_
    refine lv_iload hx hb d_T_joinRows_84 (lv_at hl 0 rfl) ?_
    refine lv_iload_n hx hb d_T_joinRows_86 rfl (lv_at hl 2 rfl) ?_
    refine jkV (wr := []) (rnV (As := [.int 0, .int 0]) (rest := []) hx hb hml hown hE hK (hN _ _ hS) hP hD (v_TmoveRow l D dA H.size (TbW dA tb u ++ (ws)) ta t 0 0 hcN (rsAll_m (fun _ hm => (List.mem_append_right _ hm)) hra) (show 0 < 256 from by omega) (show 0 < 256 from by omega) (show 0 * t.wi + t.wi ≤ t.cN from by omega) (show 0 * t.wi + t.wi ≤ t.cN from by omega)) (q0 := 0) rfl rfl w1409 w1408 w1410 w1411 w807 rfl rfl ⟨⟨by decide, by decide⟩, rfl⟩ ⟨(Nat.le_of_ble_eq_true rfl), (Nat.le_of_ble_eq_true rfl)⟩ rfl hl.1 rfl (Nat.le_of_ble_eq_true rfl) d_T_joinRows_87 ⟨(Nat.le_of_ble_eq_true rfl), (Nat.le_of_ble_eq_true rfl)⟩) hP hD hS hA (fun u25 H locs hp9 hP hD hS => ?_)
    have hP : va_P D vwCl (TbW dA ta (TB.s_ce (TB.s_th (TB.s_rs t (va_up t.rs 0 (t.rs 0))) (va_up t.th 0 (t.th 0))) (va_cpy t.ce t.ce (0 * t.wi) (0 * t.wi) t.wi)) ++ (TbW dA tb u ++ (ws))) H := hP
    have hD : va_D A (TbW dA ta (TB.s_ce (TB.s_th (TB.s_rs t (va_up t.rs 0 (t.rs 0))) (va_up t.th 0 (t.th 0))) (va_cpy t.ce t.ce (0 * t.wi) (0 * t.wi) t.wi)) ++ (TbW dA tb u ++ (ws))) := hD
    refine lv_aload_n hx hb d_T_joinRows_90 rfl (lv_at hl 3 rfl) ?_
    refine lv_iload_n hx hb d_T_joinRows_91 rfl (lv_at hl 4 rfl) ?_
    refine lv_aload_n hx hb d_T_joinRows_92 rfl (lv_at hl 3 rfl) ?_
    refine lv_iload_n hx hb d_T_joinRows_93 rfl (lv_at hl 2 rfl) ?_
    refine lv_aload_n hx hb d_T_joinRows_94 rfl (lv_at hl 5 rfl) ?_
    refine lv_iload hx hb d_T_joinRows_95 (lv_at hl 1 rfl) ?_
    refine lv_iload_n hx hb d_T_joinRows_97 rfl (lv_at hl 2 rfl) ?_
    refine jkV (wr := []) (rnV (As := [.int sg, .ref (ta 0), .int 0, .ref (tb 0), .int 0, .int 0]) (rest := []) hx hb hml hown hE hK (hN _ _ hS) hP hD (v_TjoinRow_l l D dA H.size ws ta (TB.s_ce (TB.s_th (TB.s_rs t (va_up t.rs 0 (t.rs 0))) (va_up t.th 0 (t.th 0))) (va_cpy t.ce t.ce (0 * t.wi) (0 * t.wi) t.wi)) tb u sg 0 0 0 hop hcN hcM (show 0 < 256 from by omega) (show 0 < 256 from by omega) (show 0 < 256 from by omega) (by show 0 * t.wi + t.wi ≤ t.cN; omega) (by show 0 * t.wi + t.wi ≤ t.cN; omega) (by show 0 * u.wi + t.wi ≤ u.cN; rw [Nat.zero_mul]; omega) (Nat.le_refl _)) (q0 := 0) rfl rfl w1441 w1440 w1442 w1443 w807 rfl rfl ⟨⟨by decide, by decide⟩, rfl⟩ ⟨(Nat.le_of_ble_eq_true rfl), (Nat.le_of_ble_eq_true rfl)⟩ rfl hl.1 rfl (Nat.le_of_ble_eq_true rfl) d_T_joinRows_98 ⟨(Nat.le_of_ble_eq_true rfl), (Nat.le_of_ble_eq_true rfl)⟩) hP hD hS hA (fun u27 H locs hp9 hP hD hS => ?_)
    have hP : va_P D vwCl (TbW dA ta (TB.s_ce (TB.s_th (TB.s_rs t (va_up t.rs 0 (t.rs 0))) (va_up (va_up t.th 0 (t.th 0)) 0 (jrW sg (((va_up t.th 0 (t.th 0)) 0) &&& (u.th 0)) (fun w => (va_cpy t.ce t.ce (0 * t.wi) (0 * t.wi) t.wi) (0 * t.wi + w)) (fun w => u.ce (0 * u.wi + w)) (va_cpy t.ce t.ce (0 * t.wi) (0 * t.wi) t.wi) (0 * t.wi) t.wi).1)) ((jrW sg (((va_up t.th 0 (t.th 0)) 0) &&& (u.th 0)) (fun w => (va_cpy t.ce t.ce (0 * t.wi) (0 * t.wi) t.wi) (0 * t.wi + w)) (fun w => u.ce (0 * u.wi + w)) (va_cpy t.ce t.ce (0 * t.wi) (0 * t.wi) t.wi) (0 * t.wi) t.wi).2)) ++ (TbW dA tb u ++ (ws))) H := hP
    have hD : va_D A (TbW dA ta (TB.s_ce (TB.s_th (TB.s_rs t (va_up t.rs 0 (t.rs 0))) (va_up (va_up t.th 0 (t.th 0)) 0 (jrW sg (((va_up t.th 0 (t.th 0)) 0) &&& (u.th 0)) (fun w => (va_cpy t.ce t.ce (0 * t.wi) (0 * t.wi) t.wi) (0 * t.wi + w)) (fun w => u.ce (0 * u.wi + w)) (va_cpy t.ce t.ce (0 * t.wi) (0 * t.wi) t.wi) (0 * t.wi) t.wi).1)) ((jrW sg (((va_up t.th 0 (t.th 0)) 0) &&& (u.th 0)) (fun w => (va_cpy t.ce t.ce (0 * t.wi) (0 * t.wi) t.wi) (0 * t.wi + w)) (fun w => u.ce (0 * u.wi + w)) (va_cpy t.ce t.ce (0 * t.wi) (0 * t.wi) t.wi) (0 * t.wi) t.wi).2)) ++ (TbW dA tb u ++ (ws))) := hD
    refine lv_iinc (k := 2) (v := 1) hx hb d_T_joinRows_101 hl rfl (by decide) (by decide) rfl (fun ls hl => ?_)
    have hl : lv_has ls 6 [(3, .int 1), (5, .int 0), (4, .int 0), (0, .ref (ta 0)), (1, .int sg), (2, .ref (tb 0))] := hl
    refine lv_iinc (k := 1) (v := 1) hx hb d_T_joinRows_104 hl rfl (by decide) (by decide) rfl (fun ls hl => ?_)
    have hl : lv_has ls 6 [(5, .int 1), (3, .int 1), (4, .int 0), (0, .ref (ta 0)), (1, .int sg), (2, .ref (tb 0))] := hl
    refine lv_goto hx hb d_T_joinRows_107 (tgt := 8) rfl ?_
    refine lv_iload hx hb d_T_joinRows_8 (lv_at hl 0 rfl) ?_
    refine lv_aload_n hx hb d_T_joinRows_10 rfl (lv_at hl 3 rfl) ?_
    refine gF (v := .int (nI t.rc)) hx hb hown hE hK hP 0 rfl rfl layT 3 (by decide) w1368 rfl d_T_joinRows_11 ?_
    refine lv_icmp_ge hx hb d_T_joinRows_14 (tgt := 110) rfl (fun g28 => ?_) (fun g28 => ?_)
    rotate_left
    · have g28 := mt (nI_leI (a := t.rc) (b := 1) (by omega) (by omega)).mpr g28; exfalso; omega
    have g28 := (nI_leI (a := t.rc) (b := 1) (by omega) (by omega)).mp g28
    refine lv_aload_n hx hb d_T_joinRows_110 rfl (lv_at hl 3 rfl) ?_
    refine lv_iload_n hx hb d_T_joinRows_111 rfl (lv_at hl 1 rfl) ?_
    refine pF (v := .int (nI 1)) hx hb hown hE hK hP hD hS 0 rfl rfl layT tyT tokT nmT 3 (by decide) w1368 rfl rfl rfl (Nat.le_of_ble_eq_true rfl) d_T_joinRows_112 (fun H locs hP hD hS => ?_)
    have hP : va_P D vwCl (TbW dA ta (TB.s_ce (TB.s_th (TB.s_rs (TB.s_rc t 1) (va_up t.rs 0 (t.rs 0))) (va_up (va_up t.th 0 (t.th 0)) 0 (jrW sg (((va_up t.th 0 (t.th 0)) 0) &&& (u.th 0)) (fun w => (va_cpy t.ce t.ce (0 * t.wi) (0 * t.wi) t.wi) (0 * t.wi + w)) (fun w => u.ce (0 * u.wi + w)) (va_cpy t.ce t.ce (0 * t.wi) (0 * t.wi) t.wi) (0 * t.wi) t.wi).1)) ((jrW sg (((va_up t.th 0 (t.th 0)) 0) &&& (u.th 0)) (fun w => (va_cpy t.ce t.ce (0 * t.wi) (0 * t.wi) t.wi) (0 * t.wi + w)) (fun w => u.ce (0 * u.wi + w)) (va_cpy t.ce t.ce (0 * t.wi) (0 * t.wi) t.wi) (0 * t.wi) t.wi).2)) ++ (TbW dA tb u ++ (ws))) H := hP
    have hD : va_D A (TbW dA ta (TB.s_ce (TB.s_th (TB.s_rs (TB.s_rc t 1) (va_up t.rs 0 (t.rs 0))) (va_up (va_up t.th 0 (t.th 0)) 0 (jrW sg (((va_up t.th 0 (t.th 0)) 0) &&& (u.th 0)) (fun w => (va_cpy t.ce t.ce (0 * t.wi) (0 * t.wi) t.wi) (0 * t.wi + w)) (fun w => u.ce (0 * u.wi + w)) (va_cpy t.ce t.ce (0 * t.wi) (0 * t.wi) t.wi) (0 * t.wi) t.wi).1)) ((jrW sg (((va_up t.th 0 (t.th 0)) 0) &&& (u.th 0)) (fun w => (va_cpy t.ce t.ce (0 * t.wi) (0 * t.wi) t.wi) (0 * t.wi + w)) (fun w => u.ce (0 * u.wi + w)) (va_cpy t.ce t.ce (0 * t.wi) (0 * t.wi) t.wi) (0 * t.wi) t.wi).2)) ++ (TbW dA tb u ++ (ws))) := hD
    refine lv_aload_n hx hb d_T_joinRows_115 rfl (lv_at hl 3 rfl) ?_
    refine jkV (wr := []) (rnV (As := []) (rest := []) hx hb hml hown hE hK (hN _ _ hS) hP hD (v_TdropEmptyRows l D dA H.size (TbW dA tb u ++ (ws)) ta (TB.s_ce (TB.s_th (TB.s_rs (TB.s_rc t 1) (va_up t.rs 0 (t.rs 0))) (va_up (va_up t.th 0 (t.th 0)) 0 (jrW sg (((va_up t.th 0 (t.th 0)) 0) &&& (u.th 0)) (fun w => (va_cpy t.ce t.ce (0 * t.wi) (0 * t.wi) t.wi) (0 * t.wi + w)) (fun w => u.ce (0 * u.wi + w)) (va_cpy t.ce t.ce (0 * t.wi) (0 * t.wi) t.wi) (0 * t.wi) t.wi).1)) ((jrW sg (((va_up t.th 0 (t.th 0)) 0) &&& (u.th 0)) (fun w => (va_cpy t.ce t.ce (0 * t.wi) (0 * t.wi) t.wi) (0 * t.wi + w)) (fun w => u.ce (0 * u.wi + w)) (va_cpy t.ce t.ce (0 * t.wi) (0 * t.wi) t.wi) (0 * t.wi) t.wi).2)) hcN (rsAll_m (fun _ hm => (List.mem_append_right _ hm)) (rsAll_mv (r := 0) (n := 0) hra)) (by show 1 * t.wi ≤ t.cN; omega) (by show 1 ≤ 256; omega)) (q0 := 0) rfl rfl w1437 w1436 w1438 w1439 w807 rfl rfl ⟨⟨by decide, by decide⟩, rfl⟩ ⟨(Nat.le_of_ble_eq_true rfl), (Nat.le_of_ble_eq_true rfl)⟩ rfl hl.1 rfl (Nat.le_of_ble_eq_true rfl) d_T_joinRows_116 ⟨(Nat.le_of_ble_eq_true rfl), (Nat.le_of_ble_eq_true rfl)⟩) hP hD hS hA (fun u30 H locs hp9 hP hD hS => ?_)
    obtain ⟨y31, h9u⟩ : ∃ z9, z9 = u30 := ⟨_, rfl⟩
    subst h9u
    have hP : va_P D vwCl (TbW dA ta y31 ++ (TbW dA tb u ++ (ws))) H := hP
    have hD : va_D A (TbW dA ta y31 ++ (TbW dA tb u ++ (ws))) := hD
    have f_e_32 := hp9
    exact rfV hx hb hr hlk hS y31 (by rw [f_e_32, j0_1 h0 hu]; rfl) hP hD (Nat.le_of_ble_eq_true rfl) (Nat.le_of_ble_eq_true rfl) d_T_joinRows_119
  · refine lv_iconst (v := 0) hx hb d_T_joinRows_0 (by decide) ?_
    refine lv_istore_n hx hb d_T_joinRows_1 rfl hl (by decide) rfl (fun ls hl => ?_)
    have hl : lv_has ls 6 [(3, .int 0), (0, .ref (ta 0)), (1, .int sg), (2, .ref (tb 0))] := hl
    refine lv_iconst (v := 0) hx hb d_T_joinRows_2 (by decide) ?_
    refine lv_istore hx hb d_T_joinRows_3 hl (by decide) rfl (fun ls hl => ?_)
    have hl : lv_has ls 6 [(4, .int 0), (3, .int 0), (0, .ref (ta 0)), (1, .int sg), (2, .ref (tb 0))] := hl
    refine lv_iconst (v := 0) hx hb d_T_joinRows_5 (by decide) ?_
    refine lv_istore hx hb d_T_joinRows_6 hl (by decide) rfl (fun ls hl => ?_)
    have hl : lv_has ls 6 [(5, .int 0), (4, .int 0), (3, .int 0), (0, .ref (ta 0)), (1, .int sg), (2, .ref (tb 0))] := hl
    refine lv_iload hx hb d_T_joinRows_8 (lv_at hl 0 rfl) ?_
    refine lv_aload_n hx hb d_T_joinRows_10 rfl (lv_at hl 3 rfl) ?_
    refine gF (v := .int (nI t.rc)) hx hb hown hE hK hP 0 rfl rfl layT 3 (by decide) w1368 rfl d_T_joinRows_11 ?_
    refine lv_icmp_ge hx hb d_T_joinRows_14 (tgt := 110) rfl (fun g33 => ?_) (fun g33 => ?_)
    · have g33 := (nI_leI (a := t.rc) (b := 0) (by omega) (by omega)).mp g33; exfalso; omega
    have g33 := mt (nI_leI (a := t.rc) (b := 0) (by omega) (by omega)).mpr g33
    refine lv_iload hx hb d_T_joinRows_17 (lv_at hl 1 rfl) ?_
    refine lv_aload_n hx hb d_T_joinRows_19 rfl (lv_at hl 5 rfl) ?_
    refine gF (v := .int (nI u.rc)) hx hb hown hE hK hP 5 rfl rfl layT 3 (by decide) w1368 rfl d_T_joinRows_20 ?_
    refine lv_icmp_ge hx hb d_T_joinRows_23 (tgt := 53) rfl (fun g34 => ?_) (fun g34 => ?_)
    · have g34 := (nI_leI (a := u.rc) (b := 0) (by omega) (by omega)).mp g34; exfalso; omega
    have g34 := mt (nI_leI (a := u.rc) (b := 0) (by omega) (by omega)).mpr g34
    refine lv_aload_n hx hb d_T_joinRows_26 rfl (lv_at hl 3 rfl) ?_
    refine lv_aload_n hx hb d_T_joinRows_27 rfl (lv_at hl 5 rfl) ?_
    refine gF (v := .ref (tb 2)) hx hb hown hE hK hP 5 rfl rfl layT 4 (by decide) w787 rfl d_T_joinRows_28 ?_
    refine lv_iload hx hb d_T_joinRows_31 (lv_at hl 1 rfl) ?_
    refine nqld (f := u.rs) (n := 256) hx hb hK hP (7) 5 rfl rfl (0) (by omega) (by decide) e2 d_T_joinRows_33 ?_
    refine lv_aload_n hx hb d_T_joinRows_34 rfl (lv_at hl 3 rfl) ?_
    refine gF (v := .ref (ta 2)) hx hb hown hE hK hP 0 rfl rfl layT 4 (by decide) w787 rfl d_T_joinRows_35 ?_
    refine lv_iload hx hb d_T_joinRows_38 (lv_at hl 0 rfl) ?_
    refine nqldN (f := t.rs) (n := 256) hx hb hK hP (2) 5 rfl rfl (0) (by omega) (by decide) e1 d_T_joinRows_40 ?_
    refine jkI (wr := []) (rnV (As := [.ref b, .null]) (rest := []) hx hb hml hown hE hK (hN _ _ hS) hP hD (v_TcompareTexts_rz l D dA H.size (TbW dA tb u ++ (ws)) ta t b hn0) (q0 := 0) rfl rfl w1421 w1420 w1422 w1423 w807 rfl rfl ⟨⟨by decide, by decide⟩, rfl⟩ ⟨(Nat.le_of_ble_eq_true rfl), (Nat.le_of_ble_eq_true rfl)⟩ rfl hl.1 rfl (Nat.le_of_ble_eq_true rfl) d_T_joinRows_41 ⟨(Nat.le_of_ble_eq_true rfl), (Nat.le_of_ble_eq_true rfl)⟩) hP hD hS hA (fun r35 u36 H locs hp9 hP hD hS => ?_)
    have hP : va_P D vwCl (TbW dA ta t ++ (TbW dA tb u ++ (ws))) H := hP
    have hD : va_D A (TbW dA ta t ++ (TbW dA tb u ++ (ws))) := hD
    replace hp9 : 0 = r35 := Eq.symm hp9
    subst hp9
    refine lv_if_ge hx hb d_T_joinRows_44 (tgt := 53) rfl (fun _ => ?_) (fun h9 => absurd (by decide) h9)
    refine lv_iload hx hb d_T_joinRows_53 (lv_at hl 1 rfl) ?_
    refine lv_aload_n hx hb d_T_joinRows_55 rfl (lv_at hl 5 rfl) ?_
    refine gF (v := .int (nI u.rc)) hx hb hown hE hK hP 5 rfl rfl layT 3 (by decide) w1368 rfl d_T_joinRows_56 ?_
    refine lv_icmp_ge hx hb d_T_joinRows_59 (tgt := 104) rfl (fun g37 => ?_) (fun g37 => ?_)
    · have g37 := (nI_leI (a := u.rc) (b := 0) (by omega) (by omega)).mp g37; exfalso; omega
    have g37 := mt (nI_leI (a := u.rc) (b := 0) (by omega) (by omega)).mpr g37
    refine lv_aload_n hx hb d_T_joinRows_62 rfl (lv_at hl 3 rfl) ?_
    refine lv_aload_n hx hb d_T_joinRows_63 rfl (lv_at hl 5 rfl) ?_
    refine gF (v := .ref (tb 2)) hx hb hown hE hK hP 5 rfl rfl layT 4 (by decide) w787 rfl d_T_joinRows_64 ?_
    refine lv_iload hx hb d_T_joinRows_67 (lv_at hl 1 rfl) ?_
    refine nqld (f := u.rs) (n := 256) hx hb hK hP (7) 5 rfl rfl (0) (by omega) (by decide) e2 d_T_joinRows_69 ?_
    refine lv_aload_n hx hb d_T_joinRows_70 rfl (lv_at hl 3 rfl) ?_
    refine gF (v := .ref (ta 2)) hx hb hown hE hK hP 0 rfl rfl layT 4 (by decide) w787 rfl d_T_joinRows_71 ?_
    refine lv_iload hx hb d_T_joinRows_74 (lv_at hl 0 rfl) ?_
    refine nqldN (f := t.rs) (n := 256) hx hb hK hP (2) 5 rfl rfl (0) (by omega) (by decide) e1 d_T_joinRows_76 ?_
    refine jkI (wr := []) (rnV (As := [.ref b, .null]) (rest := []) hx hb hml hown hE hK (hN _ _ hS) hP hD (v_TcompareTexts_rz l D dA H.size (TbW dA tb u ++ (ws)) ta t b hn0) (q0 := 0) rfl rfl w1421 w1420 w1422 w1423 w807 rfl rfl ⟨⟨by decide, by decide⟩, rfl⟩ ⟨(Nat.le_of_ble_eq_true rfl), (Nat.le_of_ble_eq_true rfl)⟩ rfl hl.1 rfl (Nat.le_of_ble_eq_true rfl) d_T_joinRows_77 ⟨(Nat.le_of_ble_eq_true rfl), (Nat.le_of_ble_eq_true rfl)⟩) hP hD hS hA (fun r38 u39 H locs hp9 hP hD hS => ?_)
    have hP : va_P D vwCl (TbW dA ta t ++ (TbW dA tb u ++ (ws))) H := hP
    have hD : va_D A (TbW dA ta t ++ (TbW dA tb u ++ (ws))) := hD
    replace hp9 : 0 = r38 := Eq.symm hp9
    subst hp9
    refine lv_if_ne hx hb d_T_joinRows_80 (tgt := 104) rfl (fun h9 => absurd (by decide) h9) (fun _ => ?_)
    refine lv_aload_n hx hb d_T_joinRows_83 rfl (lv_at hl 3 rfl) ?_
    refine lv_iload hx hb d_T_joinRows_84 (lv_at hl 0 rfl) ?_
    refine lv_iload_n hx hb d_T_joinRows_86 rfl (lv_at hl 2 rfl) ?_
    refine jkV (wr := []) (rnV (As := [.int 0, .int 0]) (rest := []) hx hb hml hown hE hK (hN _ _ hS) hP hD (v_TmoveRow l D dA H.size (TbW dA tb u ++ (ws)) ta t 0 0 hcN (rsAll_m (fun _ hm => (List.mem_append_right _ hm)) hra) (show 0 < 256 from by omega) (show 0 < 256 from by omega) (show 0 * t.wi + t.wi ≤ t.cN from by omega) (show 0 * t.wi + t.wi ≤ t.cN from by omega)) (q0 := 0) rfl rfl w1409 w1408 w1410 w1411 w807 rfl rfl ⟨⟨by decide, by decide⟩, rfl⟩ ⟨(Nat.le_of_ble_eq_true rfl), (Nat.le_of_ble_eq_true rfl)⟩ rfl hl.1 rfl (Nat.le_of_ble_eq_true rfl) d_T_joinRows_87 ⟨(Nat.le_of_ble_eq_true rfl), (Nat.le_of_ble_eq_true rfl)⟩) hP hD hS hA (fun u41 H locs hp9 hP hD hS => ?_)
    have hP : va_P D vwCl (TbW dA ta (TB.s_ce (TB.s_th (TB.s_rs t (va_up t.rs 0 (t.rs 0))) (va_up t.th 0 (t.th 0))) (va_cpy t.ce t.ce (0 * t.wi) (0 * t.wi) t.wi)) ++ (TbW dA tb u ++ (ws))) H := hP
    have hD : va_D A (TbW dA ta (TB.s_ce (TB.s_th (TB.s_rs t (va_up t.rs 0 (t.rs 0))) (va_up t.th 0 (t.th 0))) (va_cpy t.ce t.ce (0 * t.wi) (0 * t.wi) t.wi)) ++ (TbW dA tb u ++ (ws))) := hD
    refine lv_aload_n hx hb d_T_joinRows_90 rfl (lv_at hl 3 rfl) ?_
    refine lv_iload_n hx hb d_T_joinRows_91 rfl (lv_at hl 4 rfl) ?_
    refine lv_aload_n hx hb d_T_joinRows_92 rfl (lv_at hl 3 rfl) ?_
    refine lv_iload_n hx hb d_T_joinRows_93 rfl (lv_at hl 2 rfl) ?_
    refine lv_aload_n hx hb d_T_joinRows_94 rfl (lv_at hl 5 rfl) ?_
    refine lv_iload hx hb d_T_joinRows_95 (lv_at hl 1 rfl) ?_
    refine lv_iload_n hx hb d_T_joinRows_97 rfl (lv_at hl 2 rfl) ?_
    refine jkV (wr := []) (rnV (As := [.int sg, .ref (ta 0), .int 0, .ref (tb 0), .int 0, .int 0]) (rest := []) hx hb hml hown hE hK (hN _ _ hS) hP hD (v_TjoinRow_l l D dA H.size ws ta (TB.s_ce (TB.s_th (TB.s_rs t (va_up t.rs 0 (t.rs 0))) (va_up t.th 0 (t.th 0))) (va_cpy t.ce t.ce (0 * t.wi) (0 * t.wi) t.wi)) tb u sg 0 0 0 hop hcN hcM (show 0 < 256 from by omega) (show 0 < 256 from by omega) (show 0 < 256 from by omega) (by show 0 * t.wi + t.wi ≤ t.cN; omega) (by show 0 * t.wi + t.wi ≤ t.cN; omega) (by show 0 * u.wi + t.wi ≤ u.cN; rw [Nat.zero_mul]; omega) (Nat.le_refl _)) (q0 := 0) rfl rfl w1441 w1440 w1442 w1443 w807 rfl rfl ⟨⟨by decide, by decide⟩, rfl⟩ ⟨(Nat.le_of_ble_eq_true rfl), (Nat.le_of_ble_eq_true rfl)⟩ rfl hl.1 rfl (Nat.le_of_ble_eq_true rfl) d_T_joinRows_98 ⟨(Nat.le_of_ble_eq_true rfl), (Nat.le_of_ble_eq_true rfl)⟩) hP hD hS hA (fun u43 H locs hp9 hP hD hS => ?_)
    have hP : va_P D vwCl (TbW dA ta (TB.s_ce (TB.s_th (TB.s_rs t (va_up t.rs 0 (t.rs 0))) (va_up (va_up t.th 0 (t.th 0)) 0 (jrW sg (((va_up t.th 0 (t.th 0)) 0) &&& (u.th 0)) (fun w => (va_cpy t.ce t.ce (0 * t.wi) (0 * t.wi) t.wi) (0 * t.wi + w)) (fun w => u.ce (0 * u.wi + w)) (va_cpy t.ce t.ce (0 * t.wi) (0 * t.wi) t.wi) (0 * t.wi) t.wi).1)) ((jrW sg (((va_up t.th 0 (t.th 0)) 0) &&& (u.th 0)) (fun w => (va_cpy t.ce t.ce (0 * t.wi) (0 * t.wi) t.wi) (0 * t.wi + w)) (fun w => u.ce (0 * u.wi + w)) (va_cpy t.ce t.ce (0 * t.wi) (0 * t.wi) t.wi) (0 * t.wi) t.wi).2)) ++ (TbW dA tb u ++ (ws))) H := hP
    have hD : va_D A (TbW dA ta (TB.s_ce (TB.s_th (TB.s_rs t (va_up t.rs 0 (t.rs 0))) (va_up (va_up t.th 0 (t.th 0)) 0 (jrW sg (((va_up t.th 0 (t.th 0)) 0) &&& (u.th 0)) (fun w => (va_cpy t.ce t.ce (0 * t.wi) (0 * t.wi) t.wi) (0 * t.wi + w)) (fun w => u.ce (0 * u.wi + w)) (va_cpy t.ce t.ce (0 * t.wi) (0 * t.wi) t.wi) (0 * t.wi) t.wi).1)) ((jrW sg (((va_up t.th 0 (t.th 0)) 0) &&& (u.th 0)) (fun w => (va_cpy t.ce t.ce (0 * t.wi) (0 * t.wi) t.wi) (0 * t.wi + w)) (fun w => u.ce (0 * u.wi + w)) (va_cpy t.ce t.ce (0 * t.wi) (0 * t.wi) t.wi) (0 * t.wi) t.wi).2)) ++ (TbW dA tb u ++ (ws))) := hD
    refine lv_iinc (k := 2) (v := 1) hx hb d_T_joinRows_101 hl rfl (by decide) (by decide) rfl (fun ls hl => ?_)
    have hl : lv_has ls 6 [(3, .int 1), (5, .int 0), (4, .int 0), (0, .ref (ta 0)), (1, .int sg), (2, .ref (tb 0))] := hl
    refine lv_iinc (k := 1) (v := 1) hx hb d_T_joinRows_104 hl rfl (by decide) (by decide) rfl (fun ls hl => ?_)
    have hl : lv_has ls 6 [(5, .int 1), (3, .int 1), (4, .int 0), (0, .ref (ta 0)), (1, .int sg), (2, .ref (tb 0))] := hl
    refine lv_goto hx hb d_T_joinRows_107 (tgt := 8) rfl ?_
    refine lv_iload hx hb d_T_joinRows_8 (lv_at hl 0 rfl) ?_
    refine lv_aload_n hx hb d_T_joinRows_10 rfl (lv_at hl 3 rfl) ?_
    refine gF (v := .int (nI t.rc)) hx hb hown hE hK hP 0 rfl rfl layT 3 (by decide) w1368 rfl d_T_joinRows_11 ?_
    refine lv_icmp_ge hx hb d_T_joinRows_14 (tgt := 110) rfl (fun g44 => ?_) (fun g44 => ?_)
    rotate_left
    · have g44 := mt (nI_leI (a := t.rc) (b := 1) (by omega) (by omega)).mpr g44; exfalso; omega
    have g44 := (nI_leI (a := t.rc) (b := 1) (by omega) (by omega)).mp g44
    refine lv_aload_n hx hb d_T_joinRows_110 rfl (lv_at hl 3 rfl) ?_
    refine lv_iload_n hx hb d_T_joinRows_111 rfl (lv_at hl 1 rfl) ?_
    refine pF (v := .int (nI 1)) hx hb hown hE hK hP hD hS 0 rfl rfl layT tyT tokT nmT 3 (by decide) w1368 rfl rfl rfl (Nat.le_of_ble_eq_true rfl) d_T_joinRows_112 (fun H locs hP hD hS => ?_)
    have hP : va_P D vwCl (TbW dA ta (TB.s_ce (TB.s_th (TB.s_rs (TB.s_rc t 1) (va_up t.rs 0 (t.rs 0))) (va_up (va_up t.th 0 (t.th 0)) 0 (jrW sg (((va_up t.th 0 (t.th 0)) 0) &&& (u.th 0)) (fun w => (va_cpy t.ce t.ce (0 * t.wi) (0 * t.wi) t.wi) (0 * t.wi + w)) (fun w => u.ce (0 * u.wi + w)) (va_cpy t.ce t.ce (0 * t.wi) (0 * t.wi) t.wi) (0 * t.wi) t.wi).1)) ((jrW sg (((va_up t.th 0 (t.th 0)) 0) &&& (u.th 0)) (fun w => (va_cpy t.ce t.ce (0 * t.wi) (0 * t.wi) t.wi) (0 * t.wi + w)) (fun w => u.ce (0 * u.wi + w)) (va_cpy t.ce t.ce (0 * t.wi) (0 * t.wi) t.wi) (0 * t.wi) t.wi).2)) ++ (TbW dA tb u ++ (ws))) H := hP
    have hD : va_D A (TbW dA ta (TB.s_ce (TB.s_th (TB.s_rs (TB.s_rc t 1) (va_up t.rs 0 (t.rs 0))) (va_up (va_up t.th 0 (t.th 0)) 0 (jrW sg (((va_up t.th 0 (t.th 0)) 0) &&& (u.th 0)) (fun w => (va_cpy t.ce t.ce (0 * t.wi) (0 * t.wi) t.wi) (0 * t.wi + w)) (fun w => u.ce (0 * u.wi + w)) (va_cpy t.ce t.ce (0 * t.wi) (0 * t.wi) t.wi) (0 * t.wi) t.wi).1)) ((jrW sg (((va_up t.th 0 (t.th 0)) 0) &&& (u.th 0)) (fun w => (va_cpy t.ce t.ce (0 * t.wi) (0 * t.wi) t.wi) (0 * t.wi + w)) (fun w => u.ce (0 * u.wi + w)) (va_cpy t.ce t.ce (0 * t.wi) (0 * t.wi) t.wi) (0 * t.wi) t.wi).2)) ++ (TbW dA tb u ++ (ws))) := hD
    refine lv_aload_n hx hb d_T_joinRows_115 rfl (lv_at hl 3 rfl) ?_
    refine jkV (wr := []) (rnV (As := []) (rest := []) hx hb hml hown hE hK (hN _ _ hS) hP hD (v_TdropEmptyRows l D dA H.size (TbW dA tb u ++ (ws)) ta (TB.s_ce (TB.s_th (TB.s_rs (TB.s_rc t 1) (va_up t.rs 0 (t.rs 0))) (va_up (va_up t.th 0 (t.th 0)) 0 (jrW sg (((va_up t.th 0 (t.th 0)) 0) &&& (u.th 0)) (fun w => (va_cpy t.ce t.ce (0 * t.wi) (0 * t.wi) t.wi) (0 * t.wi + w)) (fun w => u.ce (0 * u.wi + w)) (va_cpy t.ce t.ce (0 * t.wi) (0 * t.wi) t.wi) (0 * t.wi) t.wi).1)) ((jrW sg (((va_up t.th 0 (t.th 0)) 0) &&& (u.th 0)) (fun w => (va_cpy t.ce t.ce (0 * t.wi) (0 * t.wi) t.wi) (0 * t.wi + w)) (fun w => u.ce (0 * u.wi + w)) (va_cpy t.ce t.ce (0 * t.wi) (0 * t.wi) t.wi) (0 * t.wi) t.wi).2)) hcN (rsAll_m (fun _ hm => (List.mem_append_right _ hm)) (rsAll_mv (r := 0) (n := 0) hra)) (by show 1 * t.wi ≤ t.cN; omega) (by show 1 ≤ 256; omega)) (q0 := 0) rfl rfl w1437 w1436 w1438 w1439 w807 rfl rfl ⟨⟨by decide, by decide⟩, rfl⟩ ⟨(Nat.le_of_ble_eq_true rfl), (Nat.le_of_ble_eq_true rfl)⟩ rfl hl.1 rfl (Nat.le_of_ble_eq_true rfl) d_T_joinRows_116 ⟨(Nat.le_of_ble_eq_true rfl), (Nat.le_of_ble_eq_true rfl)⟩) hP hD hS hA (fun u46 H locs hp9 hP hD hS => ?_)
    obtain ⟨y47, h9u⟩ : ∃ z9, z9 = u46 := ⟨_, rfl⟩
    subst h9u
    have hP : va_P D vwCl (TbW dA ta y47 ++ (TbW dA tb u ++ (ws))) H := hP
    have hD : va_D A (TbW dA ta y47 ++ (TbW dA tb u ++ (ws))) := hD
    have f_e_48 := hp9
    exact rfV hx hb hr hlk hS y47 (by rw [f_e_48, j0_1 h0 hu]; rfl) hP hD (Nat.le_of_ble_eq_true rfl) (Nat.le_of_ble_eq_true rfl) d_T_joinRows_119
  · refine lv_iconst (v := 0) hx hb d_T_joinRows_0 (by decide) ?_
    refine lv_istore_n hx hb d_T_joinRows_1 rfl hl (by decide) rfl (fun ls hl => ?_)
    have hl : lv_has ls 6 [(3, .int 0), (0, .ref (ta 0)), (1, .int sg), (2, .ref (tb 0))] := hl
    refine lv_iconst (v := 0) hx hb d_T_joinRows_2 (by decide) ?_
    refine lv_istore hx hb d_T_joinRows_3 hl (by decide) rfl (fun ls hl => ?_)
    have hl : lv_has ls 6 [(4, .int 0), (3, .int 0), (0, .ref (ta 0)), (1, .int sg), (2, .ref (tb 0))] := hl
    refine lv_iconst (v := 0) hx hb d_T_joinRows_5 (by decide) ?_
    refine lv_istore hx hb d_T_joinRows_6 hl (by decide) rfl (fun ls hl => ?_)
    have hl : lv_has ls 6 [(5, .int 0), (4, .int 0), (3, .int 0), (0, .ref (ta 0)), (1, .int sg), (2, .ref (tb 0))] := hl
    refine lv_iload hx hb d_T_joinRows_8 (lv_at hl 0 rfl) ?_
    refine lv_aload_n hx hb d_T_joinRows_10 rfl (lv_at hl 3 rfl) ?_
    refine gF (v := .int (nI t.rc)) hx hb hown hE hK hP 0 rfl rfl layT 3 (by decide) w1368 rfl d_T_joinRows_11 ?_
    refine lv_icmp_ge hx hb d_T_joinRows_14 (tgt := 110) rfl (fun g49 => ?_) (fun g49 => ?_)
    · have g49 := (nI_leI (a := t.rc) (b := 0) (by omega) (by omega)).mp g49; exfalso; omega
    have g49 := mt (nI_leI (a := t.rc) (b := 0) (by omega) (by omega)).mpr g49
    refine lv_iload hx hb d_T_joinRows_17 (lv_at hl 1 rfl) ?_
    refine lv_aload_n hx hb d_T_joinRows_19 rfl (lv_at hl 5 rfl) ?_
    refine gF (v := .int (nI u.rc)) hx hb hown hE hK hP 5 rfl rfl layT 3 (by decide) w1368 rfl d_T_joinRows_20 ?_
    refine lv_icmp_ge hx hb d_T_joinRows_23 (tgt := 53) rfl (fun g50 => ?_) (fun g50 => ?_)
    · have g50 := (nI_leI (a := u.rc) (b := 0) (by omega) (by omega)).mp g50; exfalso; omega
    have g50 := mt (nI_leI (a := u.rc) (b := 0) (by omega) (by omega)).mpr g50
    refine lv_aload_n hx hb d_T_joinRows_26 rfl (lv_at hl 3 rfl) ?_
    refine lv_aload_n hx hb d_T_joinRows_27 rfl (lv_at hl 5 rfl) ?_
    refine gF (v := .ref (tb 2)) hx hb hown hE hK hP 5 rfl rfl layT 4 (by decide) w787 rfl d_T_joinRows_28 ?_
    refine lv_iload hx hb d_T_joinRows_31 (lv_at hl 1 rfl) ?_
    refine nqld (f := u.rs) (n := 256) hx hb hK hP (7) 5 rfl rfl (0) (by omega) (by decide) e2 d_T_joinRows_33 ?_
    refine lv_aload_n hx hb d_T_joinRows_34 rfl (lv_at hl 3 rfl) ?_
    refine gF (v := .ref (ta 2)) hx hb hown hE hK hP 0 rfl rfl layT 4 (by decide) w787 rfl d_T_joinRows_35 ?_
    refine lv_iload hx hb d_T_joinRows_38 (lv_at hl 0 rfl) ?_
    refine nqld (f := t.rs) (n := 256) hx hb hK hP (2) 5 rfl rfl (0) (by omega) (by decide) e1 d_T_joinRows_40 ?_
    refine jkI (wr := []) (rnV (As := [.ref b, .ref a]) (rest := []) hx hb hml hown hE hK (hN _ _ hS) hP hD (v_TcompareTexts_rr l D dA H.size (TbW dA tb u ++ (ws)) ta t b a hn0) (q0 := 0) rfl rfl w1421 w1420 w1422 w1423 w807 rfl rfl ⟨⟨by decide, by decide⟩, rfl⟩ ⟨(Nat.le_of_ble_eq_true rfl), (Nat.le_of_ble_eq_true rfl)⟩ rfl hl.1 rfl (Nat.le_of_ble_eq_true rfl) d_T_joinRows_41 ⟨(Nat.le_of_ble_eq_true rfl), (Nat.le_of_ble_eq_true rfl)⟩) hP hD hS hA (fun r51 u52 H locs hp9 hP hD hS => ?_)
    have hP : va_P D vwCl (TbW dA ta t ++ (TbW dA tb u ++ (ws))) H := hP
    have hD : va_D A (TbW dA ta t ++ (TbW dA tb u ++ (ws))) := hD
    replace hp9 : 0 = r51 := Eq.symm hp9
    subst hp9
    refine lv_if_ge hx hb d_T_joinRows_44 (tgt := 53) rfl (fun _ => ?_) (fun h9 => absurd (by decide) h9)
    refine lv_iload hx hb d_T_joinRows_53 (lv_at hl 1 rfl) ?_
    refine lv_aload_n hx hb d_T_joinRows_55 rfl (lv_at hl 5 rfl) ?_
    refine gF (v := .int (nI u.rc)) hx hb hown hE hK hP 5 rfl rfl layT 3 (by decide) w1368 rfl d_T_joinRows_56 ?_
    refine lv_icmp_ge hx hb d_T_joinRows_59 (tgt := 104) rfl (fun g53 => ?_) (fun g53 => ?_)
    · have g53 := (nI_leI (a := u.rc) (b := 0) (by omega) (by omega)).mp g53; exfalso; omega
    have g53 := mt (nI_leI (a := u.rc) (b := 0) (by omega) (by omega)).mpr g53
    refine lv_aload_n hx hb d_T_joinRows_62 rfl (lv_at hl 3 rfl) ?_
    refine lv_aload_n hx hb d_T_joinRows_63 rfl (lv_at hl 5 rfl) ?_
    refine gF (v := .ref (tb 2)) hx hb hown hE hK hP 5 rfl rfl layT 4 (by decide) w787 rfl d_T_joinRows_64 ?_
    refine lv_iload hx hb d_T_joinRows_67 (lv_at hl 1 rfl) ?_
    refine nqld (f := u.rs) (n := 256) hx hb hK hP (7) 5 rfl rfl (0) (by omega) (by decide) e2 d_T_joinRows_69 ?_
    refine lv_aload_n hx hb d_T_joinRows_70 rfl (lv_at hl 3 rfl) ?_
    refine gF (v := .ref (ta 2)) hx hb hown hE hK hP 0 rfl rfl layT 4 (by decide) w787 rfl d_T_joinRows_71 ?_
    refine lv_iload hx hb d_T_joinRows_74 (lv_at hl 0 rfl) ?_
    refine nqld (f := t.rs) (n := 256) hx hb hK hP (2) 5 rfl rfl (0) (by omega) (by decide) e1 d_T_joinRows_76 ?_
    refine jkI (wr := []) (rnV (As := [.ref b, .ref a]) (rest := []) hx hb hml hown hE hK (hN _ _ hS) hP hD (v_TcompareTexts_rr l D dA H.size (TbW dA tb u ++ (ws)) ta t b a hn0) (q0 := 0) rfl rfl w1421 w1420 w1422 w1423 w807 rfl rfl ⟨⟨by decide, by decide⟩, rfl⟩ ⟨(Nat.le_of_ble_eq_true rfl), (Nat.le_of_ble_eq_true rfl)⟩ rfl hl.1 rfl (Nat.le_of_ble_eq_true rfl) d_T_joinRows_77 ⟨(Nat.le_of_ble_eq_true rfl), (Nat.le_of_ble_eq_true rfl)⟩) hP hD hS hA (fun r54 u55 H locs hp9 hP hD hS => ?_)
    have hP : va_P D vwCl (TbW dA ta t ++ (TbW dA tb u ++ (ws))) H := hP
    have hD : va_D A (TbW dA ta t ++ (TbW dA tb u ++ (ws))) := hD
    replace hp9 : 0 = r54 := Eq.symm hp9
    subst hp9
    refine lv_if_ne hx hb d_T_joinRows_80 (tgt := 104) rfl (fun h9 => absurd (by decide) h9) (fun _ => ?_)
    refine lv_aload_n hx hb d_T_joinRows_83 rfl (lv_at hl 3 rfl) ?_
    refine lv_iload hx hb d_T_joinRows_84 (lv_at hl 0 rfl) ?_
    refine lv_iload_n hx hb d_T_joinRows_86 rfl (lv_at hl 2 rfl) ?_
    refine jkV (wr := []) (rnV (As := [.int 0, .int 0]) (rest := []) hx hb hml hown hE hK (hN _ _ hS) hP hD (v_TmoveRow l D dA H.size (TbW dA tb u ++ (ws)) ta t 0 0 hcN (rsAll_m (fun _ hm => (List.mem_append_right _ hm)) hra) (show 0 < 256 from by omega) (show 0 < 256 from by omega) (show 0 * t.wi + t.wi ≤ t.cN from by omega) (show 0 * t.wi + t.wi ≤ t.cN from by omega)) (q0 := 0) rfl rfl w1409 w1408 w1410 w1411 w807 rfl rfl ⟨⟨by decide, by decide⟩, rfl⟩ ⟨(Nat.le_of_ble_eq_true rfl), (Nat.le_of_ble_eq_true rfl)⟩ rfl hl.1 rfl (Nat.le_of_ble_eq_true rfl) d_T_joinRows_87 ⟨(Nat.le_of_ble_eq_true rfl), (Nat.le_of_ble_eq_true rfl)⟩) hP hD hS hA (fun u57 H locs hp9 hP hD hS => ?_)
    have hP : va_P D vwCl (TbW dA ta (TB.s_ce (TB.s_th (TB.s_rs t (va_up t.rs 0 (t.rs 0))) (va_up t.th 0 (t.th 0))) (va_cpy t.ce t.ce (0 * t.wi) (0 * t.wi) t.wi)) ++ (TbW dA tb u ++ (ws))) H := hP
    have hD : va_D A (TbW dA ta (TB.s_ce (TB.s_th (TB.s_rs t (va_up t.rs 0 (t.rs 0))) (va_up t.th 0 (t.th 0))) (va_cpy t.ce t.ce (0 * t.wi) (0 * t.wi) t.wi)) ++ (TbW dA tb u ++ (ws))) := hD
    refine lv_aload_n hx hb d_T_joinRows_90 rfl (lv_at hl 3 rfl) ?_
    refine lv_iload_n hx hb d_T_joinRows_91 rfl (lv_at hl 4 rfl) ?_
    refine lv_aload_n hx hb d_T_joinRows_92 rfl (lv_at hl 3 rfl) ?_
    refine lv_iload_n hx hb d_T_joinRows_93 rfl (lv_at hl 2 rfl) ?_
    refine lv_aload_n hx hb d_T_joinRows_94 rfl (lv_at hl 5 rfl) ?_
    refine lv_iload hx hb d_T_joinRows_95 (lv_at hl 1 rfl) ?_
    refine lv_iload_n hx hb d_T_joinRows_97 rfl (lv_at hl 2 rfl) ?_
    refine jkV (wr := []) (rnV (As := [.int sg, .ref (ta 0), .int 0, .ref (tb 0), .int 0, .int 0]) (rest := []) hx hb hml hown hE hK (hN _ _ hS) hP hD (v_TjoinRow_l l D dA H.size ws ta (TB.s_ce (TB.s_th (TB.s_rs t (va_up t.rs 0 (t.rs 0))) (va_up t.th 0 (t.th 0))) (va_cpy t.ce t.ce (0 * t.wi) (0 * t.wi) t.wi)) tb u sg 0 0 0 hop hcN hcM (show 0 < 256 from by omega) (show 0 < 256 from by omega) (show 0 < 256 from by omega) (by show 0 * t.wi + t.wi ≤ t.cN; omega) (by show 0 * t.wi + t.wi ≤ t.cN; omega) (by show 0 * u.wi + t.wi ≤ u.cN; rw [Nat.zero_mul]; omega) (Nat.le_refl _)) (q0 := 0) rfl rfl w1441 w1440 w1442 w1443 w807 rfl rfl ⟨⟨by decide, by decide⟩, rfl⟩ ⟨(Nat.le_of_ble_eq_true rfl), (Nat.le_of_ble_eq_true rfl)⟩ rfl hl.1 rfl (Nat.le_of_ble_eq_true rfl) d_T_joinRows_98 ⟨(Nat.le_of_ble_eq_true rfl), (Nat.le_of_ble_eq_true rfl)⟩) hP hD hS hA (fun u59 H locs hp9 hP hD hS => ?_)
    have hP : va_P D vwCl (TbW dA ta (TB.s_ce (TB.s_th (TB.s_rs t (va_up t.rs 0 (t.rs 0))) (va_up (va_up t.th 0 (t.th 0)) 0 (jrW sg (((va_up t.th 0 (t.th 0)) 0) &&& (u.th 0)) (fun w => (va_cpy t.ce t.ce (0 * t.wi) (0 * t.wi) t.wi) (0 * t.wi + w)) (fun w => u.ce (0 * u.wi + w)) (va_cpy t.ce t.ce (0 * t.wi) (0 * t.wi) t.wi) (0 * t.wi) t.wi).1)) ((jrW sg (((va_up t.th 0 (t.th 0)) 0) &&& (u.th 0)) (fun w => (va_cpy t.ce t.ce (0 * t.wi) (0 * t.wi) t.wi) (0 * t.wi + w)) (fun w => u.ce (0 * u.wi + w)) (va_cpy t.ce t.ce (0 * t.wi) (0 * t.wi) t.wi) (0 * t.wi) t.wi).2)) ++ (TbW dA tb u ++ (ws))) H := hP
    have hD : va_D A (TbW dA ta (TB.s_ce (TB.s_th (TB.s_rs t (va_up t.rs 0 (t.rs 0))) (va_up (va_up t.th 0 (t.th 0)) 0 (jrW sg (((va_up t.th 0 (t.th 0)) 0) &&& (u.th 0)) (fun w => (va_cpy t.ce t.ce (0 * t.wi) (0 * t.wi) t.wi) (0 * t.wi + w)) (fun w => u.ce (0 * u.wi + w)) (va_cpy t.ce t.ce (0 * t.wi) (0 * t.wi) t.wi) (0 * t.wi) t.wi).1)) ((jrW sg (((va_up t.th 0 (t.th 0)) 0) &&& (u.th 0)) (fun w => (va_cpy t.ce t.ce (0 * t.wi) (0 * t.wi) t.wi) (0 * t.wi + w)) (fun w => u.ce (0 * u.wi + w)) (va_cpy t.ce t.ce (0 * t.wi) (0 * t.wi) t.wi) (0 * t.wi) t.wi).2)) ++ (TbW dA tb u ++ (ws))) := hD
    refine lv_iinc (k := 2) (v := 1) hx hb d_T_joinRows_101 hl rfl (by decide) (by decide) rfl (fun ls hl => ?_)
    have hl : lv_has ls 6 [(3, .int 1), (5, .int 0), (4, .int 0), (0, .ref (ta 0)), (1, .int sg), (2, .ref (tb 0))] := hl
    refine lv_iinc (k := 1) (v := 1) hx hb d_T_joinRows_104 hl rfl (by decide) (by decide) rfl (fun ls hl => ?_)
    have hl : lv_has ls 6 [(5, .int 1), (3, .int 1), (4, .int 0), (0, .ref (ta 0)), (1, .int sg), (2, .ref (tb 0))] := hl
    refine lv_goto hx hb d_T_joinRows_107 (tgt := 8) rfl ?_
    refine lv_iload hx hb d_T_joinRows_8 (lv_at hl 0 rfl) ?_
    refine lv_aload_n hx hb d_T_joinRows_10 rfl (lv_at hl 3 rfl) ?_
    refine gF (v := .int (nI t.rc)) hx hb hown hE hK hP 0 rfl rfl layT 3 (by decide) w1368 rfl d_T_joinRows_11 ?_
    refine lv_icmp_ge hx hb d_T_joinRows_14 (tgt := 110) rfl (fun g60 => ?_) (fun g60 => ?_)
    rotate_left
    · have g60 := mt (nI_leI (a := t.rc) (b := 1) (by omega) (by omega)).mpr g60; exfalso; omega
    have g60 := (nI_leI (a := t.rc) (b := 1) (by omega) (by omega)).mp g60
    refine lv_aload_n hx hb d_T_joinRows_110 rfl (lv_at hl 3 rfl) ?_
    refine lv_iload_n hx hb d_T_joinRows_111 rfl (lv_at hl 1 rfl) ?_
    refine pF (v := .int (nI 1)) hx hb hown hE hK hP hD hS 0 rfl rfl layT tyT tokT nmT 3 (by decide) w1368 rfl rfl rfl (Nat.le_of_ble_eq_true rfl) d_T_joinRows_112 (fun H locs hP hD hS => ?_)
    have hP : va_P D vwCl (TbW dA ta (TB.s_ce (TB.s_th (TB.s_rs (TB.s_rc t 1) (va_up t.rs 0 (t.rs 0))) (va_up (va_up t.th 0 (t.th 0)) 0 (jrW sg (((va_up t.th 0 (t.th 0)) 0) &&& (u.th 0)) (fun w => (va_cpy t.ce t.ce (0 * t.wi) (0 * t.wi) t.wi) (0 * t.wi + w)) (fun w => u.ce (0 * u.wi + w)) (va_cpy t.ce t.ce (0 * t.wi) (0 * t.wi) t.wi) (0 * t.wi) t.wi).1)) ((jrW sg (((va_up t.th 0 (t.th 0)) 0) &&& (u.th 0)) (fun w => (va_cpy t.ce t.ce (0 * t.wi) (0 * t.wi) t.wi) (0 * t.wi + w)) (fun w => u.ce (0 * u.wi + w)) (va_cpy t.ce t.ce (0 * t.wi) (0 * t.wi) t.wi) (0 * t.wi) t.wi).2)) ++ (TbW dA tb u ++ (ws))) H := hP
    have hD : va_D A (TbW dA ta (TB.s_ce (TB.s_th (TB.s_rs (TB.s_rc t 1) (va_up t.rs 0 (t.rs 0))) (va_up (va_up t.th 0 (t.th 0)) 0 (jrW sg (((va_up t.th 0 (t.th 0)) 0) &&& (u.th 0)) (fun w => (va_cpy t.ce t.ce (0 * t.wi) (0 * t.wi) t.wi) (0 * t.wi + w)) (fun w => u.ce (0 * u.wi + w)) (va_cpy t.ce t.ce (0 * t.wi) (0 * t.wi) t.wi) (0 * t.wi) t.wi).1)) ((jrW sg (((va_up t.th 0 (t.th 0)) 0) &&& (u.th 0)) (fun w => (va_cpy t.ce t.ce (0 * t.wi) (0 * t.wi) t.wi) (0 * t.wi + w)) (fun w => u.ce (0 * u.wi + w)) (va_cpy t.ce t.ce (0 * t.wi) (0 * t.wi) t.wi) (0 * t.wi) t.wi).2)) ++ (TbW dA tb u ++ (ws))) := hD
    refine lv_aload_n hx hb d_T_joinRows_115 rfl (lv_at hl 3 rfl) ?_
    refine jkV (wr := []) (rnV (As := []) (rest := []) hx hb hml hown hE hK (hN _ _ hS) hP hD (v_TdropEmptyRows l D dA H.size (TbW dA tb u ++ (ws)) ta (TB.s_ce (TB.s_th (TB.s_rs (TB.s_rc t 1) (va_up t.rs 0 (t.rs 0))) (va_up (va_up t.th 0 (t.th 0)) 0 (jrW sg (((va_up t.th 0 (t.th 0)) 0) &&& (u.th 0)) (fun w => (va_cpy t.ce t.ce (0 * t.wi) (0 * t.wi) t.wi) (0 * t.wi + w)) (fun w => u.ce (0 * u.wi + w)) (va_cpy t.ce t.ce (0 * t.wi) (0 * t.wi) t.wi) (0 * t.wi) t.wi).1)) ((jrW sg (((va_up t.th 0 (t.th 0)) 0) &&& (u.th 0)) (fun w => (va_cpy t.ce t.ce (0 * t.wi) (0 * t.wi) t.wi) (0 * t.wi + w)) (fun w => u.ce (0 * u.wi + w)) (va_cpy t.ce t.ce (0 * t.wi) (0 * t.wi) t.wi) (0 * t.wi) t.wi).2)) hcN (rsAll_m (fun _ hm => (List.mem_append_right _ hm)) (rsAll_mv (r := 0) (n := 0) hra)) (by show 1 * t.wi ≤ t.cN; omega) (by show 1 ≤ 256; omega)) (q0 := 0) rfl rfl w1437 w1436 w1438 w1439 w807 rfl rfl ⟨⟨by decide, by decide⟩, rfl⟩ ⟨(Nat.le_of_ble_eq_true rfl), (Nat.le_of_ble_eq_true rfl)⟩ rfl hl.1 rfl (Nat.le_of_ble_eq_true rfl) d_T_joinRows_116 ⟨(Nat.le_of_ble_eq_true rfl), (Nat.le_of_ble_eq_true rfl)⟩) hP hD hS hA (fun u62 H locs hp9 hP hD hS => ?_)
    obtain ⟨y63, h9u⟩ : ∃ z9, z9 = u62 := ⟨_, rfl⟩
    subst h9u
    have hP : va_P D vwCl (TbW dA ta y63 ++ (TbW dA tb u ++ (ws))) H := hP
    have hD : va_D A (TbW dA ta y63 ++ (TbW dA tb u ++ (ws))) := hD
    have f_e_64 := hp9
    exact rfV hx hb hr hlk hS y63 (by rw [f_e_64, j0_1 h0 hu]; rfl) hP hD (Nat.le_of_ble_eq_true rfl) (Nat.le_of_ble_eq_true rfl) d_T_joinRows_119
end
section
/-! The stack's tables inside ll. -/
def tbs (dA : Nat → ClassId) (AT : Nat → Nat → Nat) (T : Nat → TB) : Nat → va_W
  | 0 => []
  | n + 1 => TbW dA (AT n) (T n) ++ tbs dA AT T n
theorem tbs_e {dA : Nat → ClassId} {AT AT' : Nat → Nat → Nat} {T T' : Nat → TB} : ∀ {n : Nat}, (∀ j, j < n → AT' j = AT j ∧ T' j = T j) → tbs dA AT' T' n = tbs dA AT T n
  | 0, _ => rfl
  | n + 1, h => by
    show TbW dA (AT' n) (T' n) ++ tbs dA AT' T' n = TbW dA (AT n) (T n) ++ tbs dA AT T n
    rw [(h n (by omega)).1, (h n (by omega)).2, tbs_e (fun j hj => h j (by omega))]
theorem tbs_x {dA : Nat → ClassId} (AT : Nat → Nat → Nat) (T : Nat → TB) {i : Nat} : ∀ {n : Nat}, i < n → ∃ R : va_W, ∀ (AT' : Nat → Nat → Nat) (T' : Nat → TB), (∀ j, j < n → j ≠ i → AT' j = AT j ∧ T' j = T j) → (tbs dA AT' T' n).Perm (TbW dA (AT' i) (T' i) ++ R)
  | 0, h => absurd h (Nat.not_lt_zero i)
  | n + 1, h => by
    by_cases e : i = n
    · subst e
      refine ⟨tbs dA AT T i, fun AT' T' hh => ?_⟩
      have e2 : tbs dA AT' T' i = tbs dA AT T i := tbs_e (fun j hj => hh j (by omega) (by omega))
      exact List.Perm.of_eq (show TbW dA (AT' i) (T' i) ++ tbs dA AT' T' i = TbW dA (AT' i) (T' i) ++ tbs dA AT T i by rw [e2])
    · obtain ⟨R, hR⟩ := tbs_x (dA := dA) AT T (n := n) (i := i) (by omega)
      refine ⟨TbW dA (AT n) (T n) ++ R, fun AT' T' hh => ?_⟩
      have a := hR AT' T' (fun j hj hne => hh j (by omega) hne)
      have b := hh n (by omega) (fun z => e z.symm)
      show (TbW dA (AT' n) (T' n) ++ tbs dA AT' T' n).Perm _
      rw [b.1, b.2]
      exact (List.Perm.append_left _ a).trans (List.perm_append_comm_assoc _ _ _)
theorem tbs_x2 {dA : Nat → ClassId} (AT : Nat → Nat → Nat) (T : Nat → TB) {i j : Nat} (hij : i ≠ j) : ∀ {n : Nat}, i < n → j < n → ∃ R : va_W, ∀ (AT' : Nat → Nat → Nat) (T' : Nat → TB), (∀ k, k < n → k ≠ i → k ≠ j → AT' k = AT k ∧ T' k = T k) → (tbs dA AT' T' n).Perm (TbW dA (AT' i) (T' i) ++ (TbW dA (AT' j) (T' j) ++ R))
  | 0, h, _ => absurd h (Nat.not_lt_zero i)
  | n + 1, h, h2 => by
    by_cases e : i = n
    · subst e
      obtain ⟨R, hR⟩ := tbs_x (dA := dA) AT T (n := i) (i := j) (by omega)
      refine ⟨R, fun AT' T' hh => ?_⟩
      exact List.Perm.append_left _ (hR AT' T' (fun k hk hne => hh k (by omega) (by omega) hne))
    · by_cases e2 : j = n
      · subst e2
        obtain ⟨R, hR⟩ := tbs_x (dA := dA) AT T (n := j) (i := i) (by omega)
        refine ⟨R, fun AT' T' hh => ?_⟩
        exact (List.Perm.append_left _ (hR AT' T' (fun k hk hne => hh k (by omega) hne (by omega)))).trans (List.perm_append_comm_assoc _ _ _)
      · obtain ⟨R, hR⟩ := tbs_x2 (dA := dA) AT T hij (n := n) (by omega) (by omega)
        refine ⟨TbW dA (AT n) (T n) ++ R, fun AT' T' hh => ?_⟩
        have a := hR AT' T' (fun k hk h3 h4 => hh k (by omega) h3 h4)
        have b := hh n (by omega) (fun z => e z.symm) (fun z => e2 z.symm)
        show (TbW dA (AT' n) (T' n) ++ tbs dA AT' T' n).Perm _
        rw [b.1, b.2]
        refine (List.Perm.append_left _ a).trans ((List.perm_append_comm_assoc _ _ _).trans (List.Perm.append_left _ ?_))
        exact List.perm_append_comm_assoc _ _ _
theorem tbs_in {dA : Nat → ClassId} {AT : Nat → Nat → Nat} {T : Nat → TB} {i : Nat} : ∀ {n : Nat}, i < n → ∀ c, c ∈ TbW dA (AT i) (T i) → c ∈ tbs dA AT T n
  | 0, h, _, _ => absurd h (Nat.not_lt_zero i)
  | n + 1, h, c, hc => by
    by_cases e : i = n
    · subst e; exact List.mem_append_left _ hc
    · exact List.mem_append_right _ (tbs_in (n := n) (by omega) c hc)
/-- what lies in ll, in any order -/
theorem llQ {dA : Nat → ClassId} {h : Nat} {ad : Nat → Nat} {x : VS} {L r : va_W} (e : x.ll.Perm (L ++ r)) : (VW dA h ad x).Perm (L ++ VW dA h ad (VS.s_ll x r)) := by
  obtain ⟨F, hF1, hF2⟩ : ∃ F : va_W, VW dA h ad x = F ++ (x.ll ++ x.pl) ∧ VW dA h ad (VS.s_ll x r) = F ++ (r ++ x.pl) := ⟨_, rfl, rfl⟩
  rw [hF1, hF2]
  have a : (F ++ (x.ll ++ x.pl)).Perm (F ++ ((L ++ r) ++ x.pl)) := List.Perm.append_left F (List.Perm.append_right _ e)
  rw [List.append_assoc] at a
  exact a.trans (List.perm_append_comm_assoc F L (r ++ x.pl))
theorem llm {dA : Nat → ClassId} {h : Nat} {ad : Nat → Nat} {x : VS} {c : Nat × va_E} (e : c ∈ x.ll) : c ∈ VW dA h ad x := by
  obtain ⟨F, hF1⟩ : ∃ F : va_W, VW dA h ad x = F ++ (x.ll ++ x.pl) := ⟨_, rfl⟩
  rw [hF1]
  exact List.mem_append_right _ (List.mem_append_left _ e)
theorem vaA_pm {ws ws' : va_W} {sz : Nat} (h : ws.Perm ws') : va_A ws sz = va_A ws' sz := by
  have k : ∀ {w w' : va_W}, w.Perm w' → ∀ q, va_A w sz q → va_A w' sz q := by
    intro w w' hw q hq
    rcases hq with ⟨n, e, hn⟩ | hq
    · obtain ⟨m, hm⟩ := List.mem_iff_getElem?.mp (hw.mem_iff.mp (List.mem_of_getElem? hn))
      exact Or.inl ⟨m, e, hm⟩
    · exact Or.inr hq
  funext q
  exact propext ⟨k h q, k h.symm q⟩
theorem pC_pm {D : va_G} {dA : Nat → ClassId} {av : List Value} {ws ws' : va_W} {sz : Nat} {a : Array Value} {U : State} (p : ws.Perm ws') (h : pC D dA av ws sz a U) : pC D dA av ws' sz a U := by
  obtain ⟨q0, q1, qP, qK, qD, qE⟩ := h
  exact ⟨q0, q1, pmP p qP, qK, pmD p qD, qE⟩
theorem pCy_pm {D : va_G} {dA : Nat → ClassId} {e0 mi : Nat} {av : List Value} {ws ws' : va_W} {sz : Nat} {a : Array Value} {U : State} (p : ws.Perm ws') (h : pCy D dA e0 mi av ws sz a U) : pCy D dA e0 mi av ws' sz a U := by
  obtain ⟨⟨h1, h2, h3, h4⟩, h5⟩ := h
  exact ⟨⟨pC_pm p h1, h2, h3, by rw [← vaA_pm p]; exact h4⟩, h5⟩
theorem bW_pm {D : va_G} {A : Nat → Prop} {ws ws' : va_W} {t : State} (p : ws.Perm ws') (h : bW D A ws t) : bW D A ws' t := ⟨pmP p h.1, pmD p h.2⟩
/-- the stack's list and its tables are in ll, beside r -/
def skP (dA : Nat → ClassId) (ad : Nat → Nat) (r : va_W) (x : VS) (la : Nat → Nat) (g : LI) (AT : Nat → Nat → Nat) (T : Nat → TB) : Prop := x.ll.Perm (LiW dA la g ++ (tbs dA AT T g.sz ++ r)) ∧ la 0 = ad 25 ∧ g.sz ≤ g.eN ∧ g.eN ≤ 4096 ∧ 0 < g.eN ∧ ∀ i, i < g.sz → g.el i = some (AT i 0)
theorem skP_x {dA : Nat → ClassId} {ad : Nat → Nat} {r : va_W} {x y : VS} {la : Nat → Nat} {g : LI} {AT : Nat → Nat → Nat} {T : Nat → TB} (e : y.ll = x.ll) (h : skP dA ad r x la g AT T) : skP dA ad r y la g AT T := by
  unfold skP at h ⊢
  rw [e]
  exact h
section SK
variable {dA : Nat → ClassId} {h : Nat} {ad : Nat → Nat} {r : va_W} {x : VS} {la : Nat → Nat} {g : LI} {AT : Nat → Nat → Nat} {T : Nat → TB}
/-- table i taken out, and put back -/
theorem sk_1 {i : Nat} (hk : skP dA ad r x la g AT T) (hi : i < g.sz) : ∃ W : va_W, (VW dA h ad x).Perm (TbW dA (AT i) (T i) ++ VW dA h ad (VS.s_ll x W)) ∧ ∀ (y : VS) (u : TB), y.ll = W → skP dA ad r (VS.s_ll y (TbW dA (AT i) u ++ W)) la g AT (va_up T i u) ∧ (TbW dA (AT i) u ++ VW dA h ad y).Perm (VW dA h ad (VS.s_ll y (TbW dA (AT i) u ++ W))) := by
  obtain ⟨k1, k2, k3, k4, k5, k6⟩ := hk
  obtain ⟨R, hR⟩ := tbs_x (dA := dA) AT T hi
  have sw : ∀ u : TB, (TbW dA (AT i) u ++ (LiW dA la g ++ (R ++ r))).Perm (LiW dA la g ++ (tbs dA AT (va_up T i u) g.sz ++ r)) := by
    intro u
    have a := hR AT (va_up T i u) (fun j _ hj => ⟨rfl, va_up_ne _ _ hj⟩)
    rw [va_up_self] at a
    refine (List.perm_append_comm_assoc _ _ _).trans (List.Perm.append_left _ ?_)
    rw [← List.append_assoc]
    exact List.Perm.append_right _ a.symm
  refine ⟨LiW dA la g ++ (R ++ r), llQ ?_, fun y u hy => ⟨⟨sw u, k2, k3, k4, k5, k6⟩, ?_⟩⟩
  · have a := sw (T i)
    have e : tbs dA AT (va_up T i (T i)) g.sz = tbs dA AT T g.sz := tbs_e (fun j _ => ⟨rfl, (by by_cases e : j = i; (subst e; exact va_up_self _ _ _); exact va_up_ne _ _ e)⟩)
    rw [e] at a
    exact k1.trans a.symm
  · rw [← hy]
    exact llT y (TbW dA (AT i) u)
end SK
theorem v_numW (l : Launch) (D : va_G) (dA : Nat → ClassId) (sz : Nat) (h : Nat) (ad : Nat → Nat) (x : VS) (la : Nat → Nat) (g : LI) (AT : Nat → Nat → Nat) (T : Nat → TB) (r : va_W) (i : Nat) (v : Int64) (n : Nat) (hk : skP dA ad r x la g AT T) (hi : i < g.sz) (hcN : (T i).cN ≤ 65536) (h1 : n ≤ 64) (h2 : 64 ≤ (T i).cN) : Met l ⟨"SeriesVault$Table", "makeNumber", "(JI)V"⟩ [Cond.code ⟨"SeriesVault$Table", "makeNumber", "(JI)V"⟩ prog_11_method_2_code 5 none] { frames := 4, cells := 0, slots := 0, locals := 68 } (pC D dA [.ref (AT i 0), .long v, .int (nI n)] (VW dA h ad x) sz) (va_Qv (fun (u9 : VS) => u9 = VS.s_ll x u9.ll ∧ skP dA ad r u9 la g AT (va_up T i ((T i).num v n))) (fun (u9 : VS) t9 => bW D (va_A (VW dA h ad x) sz) (VW dA h ad u9) t9) (va_A (VW dA h ad x) sz)) 0 0 (va_A (VW dA h ad x) sz) := by
  obtain ⟨W, p, hb⟩ := sk_1 (h := h) hk hi
  rw [vaA_pm p]
  refine Met_mono (v_TmakeNumber l D dA sz (VW dA h ad (VS.s_ll x W)) (AT i) (T i) v n hcN h1 h2) (Nat.le_refl _) (Nat.le_refl _) (Nat.le_refl _) (Nat.le_refl _) (Nat.le_refl _) (Nat.le_refl _) (fun _ _ q => pC_pm p q) ?_ (fun _ q => q)
  rintro b9 st o9 t ⟨⟨u, c1, c2, c3⟩, c4⟩
  obtain ⟨s1, s2⟩ := hb (VS.s_ll x W) ((T i).num v n) rfl
  refine ⟨⟨VS.s_ll x (TbW dA (AT i) ((T i).num v n) ++ W), c1, ⟨rfl, s1⟩, bW_pm s2 ?_⟩, c4⟩
  rw [← c2]
  exact c3
theorem v_turnW (l : Launch) (D : va_G) (dA : Nat → ClassId) (sz : Nat) (h : Nat) (ad : Nat → Nat) (x : VS) (la : Nat → Nat) (g : LI) (AT : Nat → Nat → Nat) (T : Nat → TB) (r : va_W) (i : Nat) (hk : skP dA ad r x la g AT T) (hi : i < g.sz) (hN : (T i).cN ≤ 65536) (h1 : (T i).rc * (T i).wi ≤ (T i).cN) : Met l ⟨"SeriesVault$Table", "turn", "()V"⟩ [Cond.code ⟨"SeriesVault$Table", "turn", "()V"⟩ prog_11_method_13_code 2 none] { frames := 1, cells := 0, slots := 0, locals := 0 } (pC D dA [.ref (AT i 0)] (VW dA h ad x) sz) (va_Qv (fun (u9 : VS) => u9 = VS.s_ll x u9.ll ∧ skP dA ad r u9 la g AT (va_up T i (TB.s_ce (T i) (tnG (T i).ce ((T i).rc * (T i).wi))))) (fun (u9 : VS) t9 => bW D (va_A (VW dA h ad x) sz) (VW dA h ad u9) t9) (va_A (VW dA h ad x) sz)) 0 0 (va_A (VW dA h ad x) sz) := by
  obtain ⟨W, p, hb⟩ := sk_1 (h := h) hk hi
  rw [vaA_pm p]
  refine Met_mono (v_Tturn l D dA sz (VW dA h ad (VS.s_ll x W)) (AT i) (T i) hN h1) (Nat.le_refl _) (Nat.le_refl _) (Nat.le_refl _) (Nat.le_refl _) (Nat.le_refl _) (Nat.le_refl _) (fun _ _ q => pC_pm p q) ?_ (fun _ q => q)
  rintro b9 st o9 t ⟨⟨u, c1, c2, c3⟩, c4⟩
  obtain ⟨s1, s2⟩ := hb (VS.s_ll x W) (TB.s_ce (T i) (tnG (T i).ce ((T i).rc * (T i).wi))) rfl
  refine ⟨⟨VS.s_ll x (TbW dA (AT i) (TB.s_ce (T i) (tnG (T i).ce ((T i).rc * (T i).wi))) ++ W), c1, ⟨rfl, s1⟩, bW_pm s2 ?_⟩, c4⟩
  exact c3
end
section
abbrev PKT : Type := TB × (Nat → Int32) × (Nat → Bool) × (Nat → Int64) × (Nat → Nat) × Nat × (Nat → Int64) × (Nat → Nat) × (Nat → Option Nat) × TB × (Nat → List LB) × (Nat → Int32) × (Nat → Bool) × TB × (Nat → Int64) × (Nat → Nat) × TB
/-- rows picked: every stage -/
def pkF (dA : Nat → ClassId) (t : TB) (x : VS) (nu : Int64) (nn : Nat) (NL : Nat → List Int32) (n : Nat) (KD : Nat → Int32) (MN : Nat → List Int32) (MT : Nat → List Int32) (SS : Nat → List LB) (PS : Nat → PT) (u9 : PKT) : Prop := nmOk dA x.pl u9.2.2.2.2.2.2.2.2.1 nn NL ∧ (u9.2.2.2.2.2.2.2.2.2.1, u9.2.2.2.2.2.2.2.2.2.2.1, u9.2.2.2.2.2.2.2.2.2.2.2.1, u9.2.2.2.2.2.2.2.2.2.2.2.2.1) = pkG NL n KD MN MT SS x.kn (TB.s_rc (TB.s_wi (TB.s_nc (TB.s_nm t u9.2.2.2.2.2.2.2.2.1) nn) x.awi) 0, fun _ => [], x.aro, x.ahb) x.nser ∧ u9.2.1 = pkR NL SS u9.2.2.2.2.2.2.2.2.2.1.nc u9.2.2.2.2.2.2.2.2.2.1.rc u9.2.2.2.2.2.2.2.2.2.2.1 u9.2.2.2.2.2.2.2.2.2.2.2.1 x.nser ∧ (∃ q, u9.2.2.2.2.2.2.2.2.2.2.2.2.2.1 = clT u9.2.2.2.2.2.2.2.2.2.1 q) ∧ beR (VS.s_ahb (VS.s_aro x u9.2.1) u9.2.2.2.2.2.2.2.2.2.2.2.2.1) (u9.2.2.2.2.2.2.2.2.2.2.2.2.2.1.rc * x.awi) (u9.2.2.2.2.1, u9.2.2.2.2.2.1, u9.2.2.2.2.2.2.2.2.2.2.2.2.2.2.1, u9.2.2.2.2.2.2.2.2.2.2.2.2.2.2.2.1) ∧ (u9.2.2.2.2.2.2.2.2.2.2.2.2.2.2.2.2, u9.2.2.1, u9.2.2.2.1, u9.2.2.2.2.2.2.1, u9.2.2.2.2.2.2.2.1) = mmA nu.toInt32 (VS.s_bO (VS.s_bT (VS.s_bN (VS.s_bA (VS.s_ahb (VS.s_aro x u9.2.1) u9.2.2.2.2.2.2.2.2.2.2.2.2.1) u9.2.2.2.2.1) u9.2.2.2.2.2.1) u9.2.2.2.2.2.2.2.2.2.2.2.2.2.2.1) u9.2.2.2.2.2.2.2.2.2.2.2.2.2.2.2.1) PS u9.2.2.2.2.2.2.2.2.2.2.2.2.2.1 ∧ u9.1 = u9.2.2.2.2.2.2.2.2.2.2.2.2.2.2.2.2.de ∧ rsAll dA x.pl u9.2.2.2.2.2.2.2.2.2.2.2.2.2.2.2.2.rs
def pkY (x : VS) (u9 : PKT) : VS := VS.s_bO (VS.s_bT (VS.s_bN (VS.s_bA (VS.s_abf (VS.s_ahb (VS.s_aro x u9.2.1) u9.2.2.1) u9.2.2.2.1) u9.2.2.2.2.1) u9.2.2.2.2.2.1) u9.2.2.2.2.2.2.1) u9.2.2.2.2.2.2.2.1
theorem v_pickW (l : Launch) (D : va_G) (dA : Nat → ClassId) (sz : Nat) (h : Nat) (ad : Nat → Nat) (x : VS) (la : Nat → Nat) (g : LI) (AT : Nat → Nat → Nat) (T : Nat → TB) (r : va_W) (i : Nat) (sp : Nat) (kd : Int32) (pl : Nat) (nu : Int64) (nn : Nat) (NL : Nat → List Int32) (n : Nat) (KD : Nat → Int32) (MN : Nat → List Int32) (MT : Nat → List Int32) (SS : Nat → List LB) (PS : Nat → PT) (hk : skP dA ad r x la g AT T) (hi : i < g.sz) (hst : isStp dA x.pl sp kd pl nu nn NL n KD MN MT) (hnn : nn ≤ 6) (hkn : knOk dA x.kn x.nser x.pl SS) (hwi : x.awi ≤ 64) (hcN : (T i).cN ≤ 65536) (hra : rsAll dA x.pl (T i).rs) (hfn : isFn nu.toInt32) (h5 : x.bN ≤ 65536) (h6 : ∀ k : Nat, x.bO k < 256) (hps : psOk dA x.nP x.npc x.pl PS) (hpn : x.npc ≤ 32) (hs1 : x.nsc ≤ 64) (hs7 : ∀ q : Nat, q < x.nsc → x.nsO q < 2 ^ 31) (hns : x.nser ≤ 256) (hpo : ∀ k : Nat, k < x.npc → ∀ i : Nat, i < (PS k).n → (PS k).o i < x.nser ∧ wOk x.afr x.awd x.awi ((PS k).t i)) (hho : ∀ i : Nat, i < x.hsize → x.hO i < x.nser ∧ wOk x.afr x.awd x.awi (x.hT i)) (hhz : x.hsize ≤ x.hN) (hhN : x.hN ≤ 65536) : Met l ⟨"SeriesVault$Answers", "pick", "(LSeriesVault$Step;LSeriesVault$Table;[LSeriesVault$Series;LSeriesVault$Shelf;LSeriesVault$Points;)V"⟩ [Cond.code ⟨"SeriesVault$Answers", "pick", "(LSeriesVault$Step;LSeriesVault$Table;[LSeriesVault$Series;LSeriesVault$Shelf;LSeriesVault$Points;)V"⟩ prog_2_method_6_code 7 none] { frames := 6, cells := 3, slots := pkS (pkG NL n KD MN MT SS x.kn (TB.s_rc (TB.s_wi (TB.s_nc (T i) nn) x.awi) 0, fun _ => [], x.aro, x.ahb) x.nser).1.rc x.awi (T i).cN x.bN, locals := 356 } (pC D dA [.ref (ad 24), .ref sp, .ref (AT i 0), .ref (ad 17), .ref (ad 3), .ref (ad 1)] (VW dA h ad x) sz) (va_Qv (fun (u9 : VS × TB) => ∃ (W : va_W) (v9 : PKT), pkF dA (T i) (VS.s_ll x W) nu nn NL n KD MN MT SS PS v9 ∧ u9.2 = v9.1 ∧ u9.1 = VS.s_ll (pkY x v9) u9.1.ll ∧ skP dA ad r u9.1 la g AT (va_up T i u9.2)) (fun (u9 : VS × TB) t9 => bW D (va_A (VW dA h ad x) sz) (VW dA h ad u9.1) t9) (va_A (VW dA h ad x) sz)) 3 (pkS (pkG NL n KD MN MT SS x.kn (TB.s_rc (TB.s_wi (TB.s_nc (T i) nn) x.awi) 0, fun _ => [], x.aro, x.ahb) x.nser).1.rc x.awi (T i).cN x.bN) (va_A (VW dA h ad x) sz) := by
  obtain ⟨W, p, hb⟩ := sk_1 (h := h) hk hi
  rw [vaA_pm p]
  refine Met_mono (v_pick l D dA sz h ad (AT i) (T i) (VS.s_ll x W) sp kd pl nu nn NL n KD MN MT SS PS hst hnn hkn hwi hcN hra hfn h5 h6 hps hpn hs1 hs7 hns hpo hho hhz hhN) (Nat.le_refl _) (Nat.le_refl _) (Nat.le_refl _) (Nat.le_refl _) (Nat.le_refl _) (Nat.le_refl _) (fun _ _ q => pC_pm p q) ?_ (fun _ q => q)
  rintro b9 st o9 t ⟨⟨u, c1, c2, c3⟩, c4⟩
  obtain ⟨s1, s2⟩ := hb (pkY (VS.s_ll x W) u) u.1 rfl
  exact ⟨⟨(VS.s_ll (pkY (VS.s_ll x W) u) (TbW dA (AT i) u.1 ++ W), u.1), c1, ⟨W, u, c2, rfl, rfl, s1⟩, bW_pm s2 c3⟩, c4⟩
end
