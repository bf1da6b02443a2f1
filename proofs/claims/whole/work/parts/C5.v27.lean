theorem sum_le {f : Nat → Nat} {b : Nat} : ∀ {n : Nat}, (∀ k, k < n → f k ≤ b) → sumN n f ≤ b * n
  | 0, _ => Nat.le_refl _
  | n + 1, h => by
    have h1 := sum_le (n := n) (fun k hk => h k (by omega))
    have h2 := h n (by omega)
    show sumN n f + f n ≤ _
    rw [Nat.mul_succ]
    omega
theorem so_le {dA : Nat → ClassId} {x : VS} {PS : Nat → PT} {w : Nat} {a b : Int64} (hps : psOk dA x.nP x.npc x.pl PS) (hpn : x.npc ≤ 32) : sumN x.npc (x.soN PS w a b) ≤ 384000 := by
  have h := sum_le (f := x.soN PS w a b) (b := 12000) (n := x.npc) (fun k hk => by
    obtain ⟨pp, -, -, hk1⟩ := hps k hk
    exact Nat.le_trans (cnt_le _ _) hk1.1)
  omega
theorem sb_le {dA : Nat → ClassId} {x : VS} {PS : Nat → PT} {a : Int64} (hps : psOk dA x.nP x.npc x.pl PS) (hpn : x.npc ≤ 32) : sumN x.npc (x.sbN PS a) ≤ 384000 := by
  have h := sum_le (f := x.sbN PS a) (b := 12000) (n := x.npc) (fun k hk => by
    obtain ⟨pp, -, -, hk1⟩ := hps k hk
    exact Nat.le_trans (cnt_le _ _) hk1.1)
  omega
def VS.dwS (x : VS) (w : Nat) (a b : Int64) : VS := VS.s_hsize (VS.s_hV (VS.s_hT (VS.s_hO x (tdT (x.hWn w a b) x.hO x.hsize)) (tdT (x.hWn w a b) x.hT x.hsize)) (tdT (x.hWn w a b) x.hV x.hsize)) (cnt x.hsize (x.hWn w a b))
def VS.asS (x : VS) (w : Nat) (a b : Int64) : VS := VS.s_nsc (VS.s_nsT (VS.s_nsF (VS.s_nsO x (va_up x.nsO x.nsc w)) (va_up x.nsF x.nsc (maxL a x.nhor))) (va_up x.nsT x.nsc (minL b (x.nlast w)))) (x.nsc + 1)
theorem d_V_letGo_0 : decode prog_1_method_35_code 0 = .ok (.aload_n 0, 1) := by decide +kernel
theorem d_V_letGo_1 : decode prog_1_method_35_code 1 = .ok (.getfield 33, 3) := by decide +kernel
theorem d_V_letGo_4 : decode prog_1_method_35_code 4 = .ok (.iload_n 1, 1) := by decide +kernel
theorem d_V_letGo_5 : decode prog_1_method_35_code 5 = .ok (.lload_n 2, 1) := by decide +kernel
theorem d_V_letGo_6 : decode prog_1_method_35_code 6 = .ok (.lload 4, 2) := by decide +kernel
theorem d_V_letGo_8 : decode prog_1_method_35_code 8 = .ok (.invokevirtual 278, 3) := by decide +kernel
theorem d_V_letGo_11 : decode prog_1_method_35_code 11 = .ok (.ifCond .le 14, 3) := by decide +kernel
theorem d_V_letGo_25 : decode prog_1_method_35_code 25 = .ok (.aload_n 0, 1) := by decide +kernel
theorem d_V_letGo_26 : decode prog_1_method_35_code 26 = .ok (.getfield 23, 3) := by decide +kernel
theorem d_V_letGo_29 : decode prog_1_method_35_code 29 = .ok (.iload_n 1, 1) := by decide +kernel
theorem d_V_letGo_30 : decode prog_1_method_35_code 30 = .ok (.lload_n 2, 1) := by decide +kernel
theorem d_V_letGo_31 : decode prog_1_method_35_code 31 = .ok (.lload 4, 2) := by decide +kernel
theorem d_V_letGo_33 : decode prog_1_method_35_code 33 = .ok (.invokevirtual 291, 3) := by decide +kernel
theorem d_V_letGo_36 : decode prog_1_method_35_code 36 = .ok (.return_, 1) := by decide +kernel
theorem w1335 : Cond.methodLink "SeriesVault" 278 ⟨"SeriesVault$Shelf", "countSeen", "(IJJ)I"⟩ ∈ aW := aw_of (tb_5 (List.mem_of_getElem? (i := 181) rfl)) rfl
theorem w1336 : Cond.code ⟨"SeriesVault$Shelf", "countSeen", "(IJJ)I"⟩ prog_9_method_19_code 8 (some FieldType.int) ∈ aW := aw_of (tb_5 (List.mem_of_getElem? (i := 184) rfl)) rfl
theorem w1337 : Cond.instanceMethod ⟨"SeriesVault$Shelf", "countSeen", "(IJJ)I"⟩ ∈ aW := aw_of (tb_5 (List.mem_of_getElem? (i := 182) rfl)) rfl
theorem w1338 : Cond.selects "SeriesVault$Shelf" ⟨"SeriesVault$Shelf", "countSeen", "(IJJ)I"⟩ ⟨"SeriesVault$Shelf", "countSeen", "(IJJ)I"⟩ ∈ aW := aw_of (tb_5 (List.mem_of_getElem? (i := 183) rfl)) rfl
theorem w1339 : Cond.methodLink "SeriesVault" 291 ⟨"SeriesVault$Points", "dropWithin", "(IJJ)V"⟩ ∈ aW := aw_of (tb_5 (List.mem_of_getElem? (i := 219) rfl)) rfl
theorem w1340 : Cond.code ⟨"SeriesVault$Points", "dropWithin", "(IJJ)V"⟩ prog_5_method_7_code 8 none ∈ aW := aw_of (tb_5 (List.mem_of_getElem? (i := 222) rfl)) rfl
theorem w1341 : Cond.instanceMethod ⟨"SeriesVault$Points", "dropWithin", "(IJJ)V"⟩ ∈ aW := aw_of (tb_5 (List.mem_of_getElem? (i := 220) rfl)) rfl
theorem w1342 : Cond.selects "SeriesVault$Points" ⟨"SeriesVault$Points", "dropWithin", "(IJJ)V"⟩ ⟨"SeriesVault$Points", "dropWithin", "(IJJ)V"⟩ ∈ aW := aw_of (tb_5 (List.mem_of_getElem? (i := 221) rfl)) rfl
set_option maxHeartbeats 4000000 in
set_option maxRecDepth 100000 in
theorem v_letGo_0 (l : Launch) (D : va_G) (dA : Nat → ClassId) (sz : Nat) (h : Nat) (ad : Nat → Nat) (x : VS) (PS : Nat → PT) (w : Nat) (a : Int64) (b : Int64) (hps : psOk dA x.nP x.npc x.pl PS) (hpn : x.npc ≤ 32) (h1 : x.nsc ≤ 64) (h7 : ∀ q : Nat, q < x.nsc → x.nsO q < 2 ^ 31) (h0 : x.hsize ≤ x.hN) (h9 : x.hN ≤ 65536) (hw : w < 256) (hh7 : ∀ q : Nat, q < x.hsize → x.hO q < 2 ^ 31) (hz : sumN x.npc (x.soN PS w a b) = 0) : Met l ⟨"SeriesVault", "letGo", "(IJJ)V"⟩ [Cond.code ⟨"SeriesVault", "letGo", "(IJJ)V"⟩ prog_1_method_35_code 6 none] { frames := 5, cells := 0, slots := 0, locals := 103 } (pC D dA [.ref h, .int (nI w), .long a, .long b] (VW dA h ad x) sz) (va_Qv (fun (u9 : Unit) => True) (fun (u9 : Unit) t9 => bW D (va_A (VW dA h ad x) sz) (VW dA h ad (VS.s_hsize (VS.s_hV (VS.s_hT (VS.s_hO x (tdT (x.hWn w a b) x.hO x.hsize)) (tdT (x.hWn w a b) x.hT x.hsize)) (tdT (x.hWn w a b) x.hV x.hsize)) (cnt x.hsize (x.hWn w a b)))) t9) (va_A (VW dA h ad x) sz)) 0 0 (va_A (VW dA h ad x) sz) := by
  refine mkC (y := ⟨"SeriesVault", "letGo", "(IJJ)V"⟩) (cc := prog_1_method_35_code) (maxL := 6) (av := [.ref h, .int (nI w), .long a, .long b]) (ws := VW dA h ad x) (sz := sz) (Qc := fun A => va_Qv (fun (u9 : Unit) => True) (fun (u9 : Unit) t9 => bW D A (VW dA h ad (VS.s_hsize (VS.s_hV (VS.s_hT (VS.s_hO x (tdT (x.hWn w a b) x.hO x.hsize)) (tdT (x.hWn w a b) x.hT x.hsize)) (tdT (x.hWn w a b) x.hV x.hsize)) (cnt x.hsize (x.hWn w a b)))) t9) A) (by decide) (Nat.le_of_ble_eq_true rfl) ?_
  intro A p e s m below meth c ls hsz hB
  obtain ⟨hx, hb, hr, hml, hown, hin, hlk, hE, hK, hP, hD, hS, hA, hN, hl⟩ := hB
  have hown : s.vm.findClass "SeriesVault" = some m.cls := hown
  have hl : lv_has ls 6 [(0, .ref h), (1, .int (nI w)), (2, .long a), (4, .long b)] := hl
  obtain ⟨H, hH⟩ : ∃ z, z = s.heap := ⟨_, rfl⟩
  have hP : va_P D vwCl (VW dA h ad x) H := by rw [hH]; exact hP
  have hS : va_S A s.heap H [] := by rw [hH]; exact hS
  rw [← hH]
  refine lv_aload_n hx hb d_V_letGo_0 rfl (lv_at hl 0 rfl) ?_
  refine gF (v := .ref (ad 3)) hx hb hown hE hK hP 0 rfl rfl layV 11 (by decide) w297 rfl d_V_letGo_1 ?_
  refine lv_iload_n hx hb d_V_letGo_4 rfl (lv_at hl 1 rfl) ?_
  refine lv_lload_n hx hb d_V_letGo_5 rfl (lv_at hl 2 rfl) ?_
  refine lv_lload hx hb d_V_letGo_6 (lv_at hl 3 rfl) ?_
  refine jfI (rnV (As := [.int (nI w), .long a, .long b]) (rest := []) hx hb hml hown hE hK (hN _ _ hS) hP hD (v_countSeen l D dA H.size h ad x PS w a b hps (show x.npc ≤ 32 from by omega) (show x.nsc ≤ 64 from by omega) h7 (show w < 256 from by omega)) (q0 := 17) rfl rfl w1336 w1335 w1337 w1338 w583 rfl rfl ⟨⟨by decide, by decide⟩, rfl⟩ ⟨(Nat.le_of_ble_eq_true rfl), (Nat.le_of_ble_eq_true rfl)⟩ rfl hl.1 rfl (Nat.le_of_ble_eq_true rfl) d_V_letGo_8 ⟨(Nat.le_of_ble_eq_true rfl), (Nat.le_of_ble_eq_true rfl)⟩) hP hD hS hA (fun r1 u2 H locs hp9 hP hD hS => ?_)
  have hP : va_P D vwCl (VW dA h ad x) H := hP
  have hD : va_D A (VW dA h ad x) := hD
  replace hp9 : nI (sumN x.npc (x.soN PS w a b)) = r1 := Eq.symm hp9
  subst hp9
  have so := so_le (w := w) (a := a) (b := b) hps hpn
  refine lv_if_le hx hb d_V_letGo_11 (tgt := 25) rfl (fun g3 => ?_) (fun g3 => ?_)
  rotate_left
  · have g3 := mt (nI_leI (a := sumN x.npc (x.soN PS w a b)) (b := 0) (by omega) (by decide)).mpr g3; exfalso; omega
  have g3 := (nI_leI (a := sumN x.npc (x.soN PS w a b)) (b := 0) (by omega) (by decide)).mp g3
  refine lv_aload_n hx hb d_V_letGo_25 rfl (lv_at hl 0 rfl) ?_
  refine gF (v := .ref (ad 1)) hx hb hown hE hK hP 0 rfl rfl layV 9 (by decide) w576 rfl d_V_letGo_26 ?_
  refine lv_iload_n hx hb d_V_letGo_29 rfl (lv_at hl 1 rfl) ?_
  refine lv_lload_n hx hb d_V_letGo_30 rfl (lv_at hl 2 rfl) ?_
  refine lv_lload hx hb d_V_letGo_31 (lv_at hl 3 rfl) ?_
  refine jfV (rnV (As := [.int (nI w), .long a, .long b]) (rest := []) hx hb hml hown hE hK (hN _ _ hS) hP hD (v_dropWithin l D dA H.size h ad x w a b (show x.hsize ≤ x.hN from by omega) (show x.hN ≤ 65536 from by omega) (show w < 2 ^ 31 from by omega) hh7) (q0 := 9) rfl rfl w1340 w1339 w1341 w1342 w578 rfl rfl ⟨⟨by decide, by decide⟩, rfl⟩ ⟨(Nat.le_of_ble_eq_true rfl), (Nat.le_of_ble_eq_true rfl)⟩ rfl hl.1 rfl (Nat.le_of_ble_eq_true rfl) d_V_letGo_33 ⟨(Nat.le_of_ble_eq_true rfl), (Nat.le_of_ble_eq_true rfl)⟩) hP hD hS hA (fun u5 H locs hp9 hP hD hS => ?_)
  have hP : va_P D vwCl (VW dA h ad (VS.s_hsize (VS.s_hV (VS.s_hT (VS.s_hO x (tdT (x.hWn w a b) x.hO x.hsize)) (tdT (x.hWn w a b) x.hT x.hsize)) (tdT (x.hWn w a b) x.hV x.hsize)) (cnt x.hsize (x.hWn w a b)))) H := hP
  have hD : va_D A (VW dA h ad (VS.s_hsize (VS.s_hV (VS.s_hT (VS.s_hO x (tdT (x.hWn w a b) x.hO x.hsize)) (tdT (x.hWn w a b) x.hT x.hsize)) (tdT (x.hWn w a b) x.hV x.hsize)) (cnt x.hsize (x.hWn w a b)))) := hD
  exact rfV hx hb hr hlk hS () trivial hP hD (Nat.le_of_ble_eq_true rfl) (Nat.le_of_ble_eq_true rfl) d_V_letGo_36
theorem d_V_letGo_14 : decode prog_1_method_35_code 14 = .ok (.aload_n 0, 1) := by decide +kernel
theorem d_V_letGo_15 : decode prog_1_method_35_code 15 = .ok (.getfield 33, 3) := by decide +kernel
theorem d_V_letGo_18 : decode prog_1_method_35_code 18 = .ok (.iload_n 1, 1) := by decide +kernel
theorem d_V_letGo_19 : decode prog_1_method_35_code 19 = .ok (.lload_n 2, 1) := by decide +kernel
theorem d_V_letGo_20 : decode prog_1_method_35_code 20 = .ok (.lload 4, 2) := by decide +kernel
theorem d_V_letGo_22 : decode prog_1_method_35_code 22 = .ok (.invokevirtual 288, 3) := by decide +kernel
theorem w1343 : Cond.methodLink "SeriesVault" 288 ⟨"SeriesVault$Shelf", "addScar", "(IJJ)V"⟩ ∈ aW := aw_of (tb_5 (List.mem_of_getElem? (i := 209) rfl)) rfl
theorem w1344 : Cond.code ⟨"SeriesVault$Shelf", "addScar", "(IJJ)V"⟩ prog_9_method_10_code 6 none ∈ aW := aw_of (tb_5 (List.mem_of_getElem? (i := 212) rfl)) rfl
theorem w1345 : Cond.instanceMethod ⟨"SeriesVault$Shelf", "addScar", "(IJJ)V"⟩ ∈ aW := aw_of (tb_5 (List.mem_of_getElem? (i := 210) rfl)) rfl
theorem w1346 : Cond.selects "SeriesVault$Shelf" ⟨"SeriesVault$Shelf", "addScar", "(IJJ)V"⟩ ⟨"SeriesVault$Shelf", "addScar", "(IJJ)V"⟩ ∈ aW := aw_of (tb_5 (List.mem_of_getElem? (i := 211) rfl)) rfl
set_option maxHeartbeats 4000000 in
set_option maxRecDepth 100000 in
theorem v_letGo_1 (l : Launch) (D : va_G) (dA : Nat → ClassId) (sz : Nat) (h : Nat) (ad : Nat → Nat) (x : VS) (PS : Nat → PT) (w : Nat) (a : Int64) (b : Int64) (hps : psOk dA x.nP x.npc x.pl PS) (hpn : x.npc ≤ 32) (h1 : x.nsc ≤ 64) (h7 : ∀ q : Nat, q < x.nsc → x.nsO q < 2 ^ 31) (h0 : x.hsize ≤ x.hN) (h9 : x.hN ≤ 65536) (hw : w < 256) (hh7 : ∀ q : Nat, q < x.hsize → x.hO q < 2 ^ 31) (hz : 0 < sumN x.npc (x.soN PS w a b)) (hsc : x.nsc < 64) : Met l ⟨"SeriesVault", "letGo", "(IJJ)V"⟩ [Cond.code ⟨"SeriesVault", "letGo", "(IJJ)V"⟩ prog_1_method_35_code 6 none] { frames := 5, cells := 0, slots := 0, locals := 103 } (pC D dA [.ref h, .int (nI w), .long a, .long b] (VW dA h ad x) sz) (va_Qv (fun (u9 : Unit) => True) (fun (u9 : Unit) t9 => bW D (va_A (VW dA h ad x) sz) (VW dA h ad (VS.s_nsc (VS.s_nsT (VS.s_nsF (VS.s_nsO (VS.s_hsize (VS.s_hV (VS.s_hT (VS.s_hO x (tdT (x.hWn w a b) x.hO x.hsize)) (tdT (x.hWn w a b) x.hT x.hsize)) (tdT (x.hWn w a b) x.hV x.hsize)) (cnt x.hsize (x.hWn w a b))) (va_up x.nsO x.nsc w)) (va_up x.nsF x.nsc (maxL a x.nhor))) (va_up x.nsT x.nsc (minL b (x.nlast w)))) (x.nsc + 1))) t9) (va_A (VW dA h ad x) sz)) 0 0 (va_A (VW dA h ad x) sz) := by
  refine mkC (y := ⟨"SeriesVault", "letGo", "(IJJ)V"⟩) (cc := prog_1_method_35_code) (maxL := 6) (av := [.ref h, .int (nI w), .long a, .long b]) (ws := VW dA h ad x) (sz := sz) (Qc := fun A => va_Qv (fun (u9 : Unit) => True) (fun (u9 : Unit) t9 => bW D A (VW dA h ad (VS.s_nsc (VS.s_nsT (VS.s_nsF (VS.s_nsO (VS.s_hsize (VS.s_hV (VS.s_hT (VS.s_hO x (tdT (x.hWn w a b) x.hO x.hsize)) (tdT (x.hWn w a b) x.hT x.hsize)) (tdT (x.hWn w a b) x.hV x.hsize)) (cnt x.hsize (x.hWn w a b))) (va_up x.nsO x.nsc w)) (va_up x.nsF x.nsc (maxL a x.nhor))) (va_up x.nsT x.nsc (minL b (x.nlast w)))) (x.nsc + 1))) t9) A) (by decide) (Nat.le_of_ble_eq_true rfl) ?_
  intro A p e s m below meth c ls hsz hB
  obtain ⟨hx, hb, hr, hml, hown, hin, hlk, hE, hK, hP, hD, hS, hA, hN, hl⟩ := hB
  have hown : s.vm.findClass "SeriesVault" = some m.cls := hown
  have hl : lv_has ls 6 [(0, .ref h), (1, .int (nI w)), (2, .long a), (4, .long b)] := hl
  obtain ⟨H, hH⟩ : ∃ z, z = s.heap := ⟨_, rfl⟩
  have hP : va_P D vwCl (VW dA h ad x) H := by rw [hH]; exact hP
  have hS : va_S A s.heap H [] := by rw [hH]; exact hS
  rw [← hH]
  refine lv_aload_n hx hb d_V_letGo_0 rfl (lv_at hl 0 rfl) ?_
  refine gF (v := .ref (ad 3)) hx hb hown hE hK hP 0 rfl rfl layV 11 (by decide) w297 rfl d_V_letGo_1 ?_
  refine lv_iload_n hx hb d_V_letGo_4 rfl (lv_at hl 1 rfl) ?_
  refine lv_lload_n hx hb d_V_letGo_5 rfl (lv_at hl 2 rfl) ?_
  refine lv_lload hx hb d_V_letGo_6 (lv_at hl 3 rfl) ?_
  refine jfI (rnV (As := [.int (nI w), .long a, .long b]) (rest := []) hx hb hml hown hE hK (hN _ _ hS) hP hD (v_countSeen l D dA H.size h ad x PS w a b hps (show x.npc ≤ 32 from by omega) (show x.nsc ≤ 64 from by omega) h7 (show w < 256 from by omega)) (q0 := 17) rfl rfl w1336 w1335 w1337 w1338 w583 rfl rfl ⟨⟨by decide, by decide⟩, rfl⟩ ⟨(Nat.le_of_ble_eq_true rfl), (Nat.le_of_ble_eq_true rfl)⟩ rfl hl.1 rfl (Nat.le_of_ble_eq_true rfl) d_V_letGo_8 ⟨(Nat.le_of_ble_eq_true rfl), (Nat.le_of_ble_eq_true rfl)⟩) hP hD hS hA (fun r1 u2 H locs hp9 hP hD hS => ?_)
  have hP : va_P D vwCl (VW dA h ad x) H := hP
  have hD : va_D A (VW dA h ad x) := hD
  replace hp9 : nI (sumN x.npc (x.soN PS w a b)) = r1 := Eq.symm hp9
  subst hp9
  have so := so_le (w := w) (a := a) (b := b) hps hpn
  refine lv_if_le hx hb d_V_letGo_11 (tgt := 25) rfl (fun h9 => absurd h9 (mt (nI_leI (a := sumN x.npc (x.soN PS w a b)) (b := 0) (by omega) (by omega)).mp (Nat.not_le.mpr hz))) (fun _ => ?_)
  refine lv_aload_n hx hb d_V_letGo_14 rfl (lv_at hl 0 rfl) ?_
  refine gF (v := .ref (ad 3)) hx hb hown hE hK hP 0 rfl rfl layV 11 (by decide) w297 rfl d_V_letGo_15 ?_
  refine lv_iload_n hx hb d_V_letGo_18 rfl (lv_at hl 1 rfl) ?_
  refine lv_lload_n hx hb d_V_letGo_19 rfl (lv_at hl 2 rfl) ?_
  refine lv_lload hx hb d_V_letGo_20 (lv_at hl 3 rfl) ?_
  refine jfV (rnV (As := [.int (nI w), .long a, .long b]) (rest := []) hx hb hml hown hE hK (hN _ _ hS) hP hD (v_addScar l D dA H.size h ad x w a b (show x.nsc < 64 from by omega) (show w < 256 from by omega)) (q0 := 17) rfl rfl w1344 w1343 w1345 w1346 w583 rfl rfl ⟨⟨by decide, by decide⟩, rfl⟩ ⟨(Nat.le_of_ble_eq_true rfl), (Nat.le_of_ble_eq_true rfl)⟩ rfl hl.1 rfl (Nat.le_of_ble_eq_true rfl) d_V_letGo_22 ⟨(Nat.le_of_ble_eq_true rfl), (Nat.le_of_ble_eq_true rfl)⟩) hP hD hS hA (fun u4 H locs hp9 hP hD hS => ?_)
  have hP : va_P D vwCl (VW dA h ad (VS.s_nsc (VS.s_nsT (VS.s_nsF (VS.s_nsO x (va_up x.nsO x.nsc w)) (va_up x.nsF x.nsc (maxL a x.nhor))) (va_up x.nsT x.nsc (minL b (x.nlast w)))) (x.nsc + 1))) H := hP
  have hD : va_D A (VW dA h ad (VS.s_nsc (VS.s_nsT (VS.s_nsF (VS.s_nsO x (va_up x.nsO x.nsc w)) (va_up x.nsF x.nsc (maxL a x.nhor))) (va_up x.nsT x.nsc (minL b (x.nlast w)))) (x.nsc + 1))) := hD
  refine lv_aload_n hx hb d_V_letGo_25 rfl (lv_at hl 0 rfl) ?_
  refine gF (v := .ref (ad 1)) hx hb hown hE hK hP 0 rfl rfl layV 9 (by decide) w576 rfl d_V_letGo_26 ?_
  refine lv_iload_n hx hb d_V_letGo_29 rfl (lv_at hl 1 rfl) ?_
  refine lv_lload_n hx hb d_V_letGo_30 rfl (lv_at hl 2 rfl) ?_
  refine lv_lload hx hb d_V_letGo_31 (lv_at hl 3 rfl) ?_
  refine jfV (rnV (As := [.int (nI w), .long a, .long b]) (rest := []) hx hb hml hown hE hK (hN _ _ hS) hP hD (v_dropWithin l D dA H.size h ad (VS.s_nsc (VS.s_nsT (VS.s_nsF (VS.s_nsO x (va_up x.nsO x.nsc w)) (va_up x.nsF x.nsc (maxL a x.nhor))) (va_up x.nsT x.nsc (minL b (x.nlast w)))) (x.nsc + 1)) w a b (show x.hsize ≤ x.hN from by omega) (show x.hN ≤ 65536 from by omega) (show w < 2 ^ 31 from by omega) hh7) (q0 := 9) rfl rfl w1340 w1339 w1341 w1342 w578 rfl rfl ⟨⟨by decide, by decide⟩, rfl⟩ ⟨(Nat.le_of_ble_eq_true rfl), (Nat.le_of_ble_eq_true rfl)⟩ rfl hl.1 rfl (Nat.le_of_ble_eq_true rfl) d_V_letGo_33 ⟨(Nat.le_of_ble_eq_true rfl), (Nat.le_of_ble_eq_true rfl)⟩) hP hD hS hA (fun u6 H locs hp9 hP hD hS => ?_)
  have hP : va_P D vwCl (VW dA h ad (VS.s_nsc (VS.s_nsT (VS.s_nsF (VS.s_nsO (VS.s_hsize (VS.s_hV (VS.s_hT (VS.s_hO x (tdT (x.hWn w a b) x.hO x.hsize)) (tdT (x.hWn w a b) x.hT x.hsize)) (tdT (x.hWn w a b) x.hV x.hsize)) (cnt x.hsize (x.hWn w a b))) (va_up x.nsO x.nsc w)) (va_up x.nsF x.nsc (maxL a x.nhor))) (va_up x.nsT x.nsc (minL b (x.nlast w)))) (x.nsc + 1))) H := hP
  have hD : va_D A (VW dA h ad (VS.s_nsc (VS.s_nsT (VS.s_nsF (VS.s_nsO (VS.s_hsize (VS.s_hV (VS.s_hT (VS.s_hO x (tdT (x.hWn w a b) x.hO x.hsize)) (tdT (x.hWn w a b) x.hT x.hsize)) (tdT (x.hWn w a b) x.hV x.hsize)) (cnt x.hsize (x.hWn w a b))) (va_up x.nsO x.nsc w)) (va_up x.nsF x.nsc (maxL a x.nhor))) (va_up x.nsT x.nsc (minL b (x.nlast w)))) (x.nsc + 1))) := hD
  exact rfV hx hb hr hlk hS () trivial hP hD (Nat.le_of_ble_eq_true rfl) (Nat.le_of_ble_eq_true rfl) d_V_letGo_36
set_option maxHeartbeats 4000000 in
set_option maxRecDepth 100000 in
theorem v_count_0 (l : Launch) (D : va_G) (dA : Nat → ClassId) (sz : Nat) (h : Nat) (ad : Nat → Nat) (x : VS) (ho : x.powered = true) : Met l ⟨"SeriesVault", "count", "(I)I"⟩ [Cond.code ⟨"SeriesVault", "count", "(I)I"⟩ prog_1_method_43_code 2 (some FieldType.int)] { frames := 2, cells := 0, slots := 0, locals := 20 } (pC D dA [.ref h, .int 0] (VW dA h ad x) sz) (va_Qi (fun (r9 : Int32) (u9 : Unit) => r9 = nI x.nser) (fun (u9 : Unit) t9 => bW D (va_A (VW dA h ad x) sz) (VW dA h ad x) t9) (va_A (VW dA h ad x) sz)) 0 0 (va_A (VW dA h ad x) sz) := by
  refine mkC (y := ⟨"SeriesVault", "count", "(I)I"⟩) (cc := prog_1_method_43_code) (maxL := 2) (av := [.ref h, .int 0]) (ws := VW dA h ad x) (sz := sz) (Qc := fun A => va_Qi (fun (r9 : Int32) (u9 : Unit) => r9 = nI x.nser) (fun (u9 : Unit) t9 => bW D A (VW dA h ad x) t9) A) (by decide) (Nat.le_of_ble_eq_true rfl) ?_
  intro A p e s m below meth c ls hsz hB
  obtain ⟨hx, hb, hr, hml, hown, hin, hlk, hE, hK, hP, hD, hS, hA, hN, hl⟩ := hB
  have hown : s.vm.findClass "SeriesVault" = some m.cls := hown
  have hl : lv_has ls 2 [(0, .ref h), (1, .int 0)] := hl
  obtain ⟨H, hH⟩ : ∃ z, z = s.heap := ⟨_, rfl⟩
  have hP : va_P D vwCl (VW dA h ad x) H := by rw [hH]; exact hP
  have hS : va_S A s.heap H [] := by rw [hH]; exact hS
  rw [← hH]
  refine lv_aload_n hx hb d_V_count_0 rfl (lv_at hl 0 rfl) ?_
  refine jfV (rnV (As := []) (rest := []) hx hb hml hown hE hK (hN _ _ hS) hP hD (v_checkPower l D dA H.size h ad x ho) (q0 := 0) rfl rfl w278 w276 w279 w280 w277 rfl rfl ⟨⟨by decide, by decide⟩, rfl⟩ ⟨(Nat.le_of_ble_eq_true rfl), (Nat.le_of_ble_eq_true rfl)⟩ rfl hl.1 rfl (Nat.le_of_ble_eq_true rfl) d_V_count_1 ⟨(Nat.le_of_ble_eq_true rfl), (Nat.le_of_ble_eq_true rfl)⟩) hP hD hS hA (fun u2 H locs hp9 hP hD hS => ?_)
  have hP : va_P D vwCl (VW dA h ad x) H := hP
  have hD : va_D A (VW dA h ad x) := hD
  refine lv_iload_n hx hb d_V_count_4 rfl (lv_at hl 1 rfl) ?_
  refine lv_tableIn (x := 0) (off := 51) (tgt := 56) hx hb d_V_count_5 (by decide) (by decide) (by decide) rfl ?_
  refine lv_aload_n hx hb d_V_count_56 rfl (lv_at hl 0 rfl) ?_
  refine gF (v := .ref (ad 3)) hx hb hown hE hK hP 0 rfl rfl layV 11 (by decide) w297 rfl d_V_count_57 ?_
  refine gFN (v := .int (nI x.nser)) hx hb hown hE hK hP 17 rfl rfl layH 8 (by decide) w298 rfl d_V_count_60 ?_
  exact rfI hx hb hr hlk hS () rfl hP hD (Nat.le_of_ble_eq_true rfl) (Nat.le_of_ble_eq_true rfl) d_V_count_63
set_option maxHeartbeats 4000000 in
set_option maxRecDepth 100000 in
theorem v_count_1 (l : Launch) (D : va_G) (dA : Nat → ClassId) (sz : Nat) (h : Nat) (ad : Nat → Nat) (x : VS) (ho : x.powered = true) : Met l ⟨"SeriesVault", "count", "(I)I"⟩ [Cond.code ⟨"SeriesVault", "count", "(I)I"⟩ prog_1_method_43_code 2 (some FieldType.int)] { frames := 2, cells := 0, slots := 0, locals := 20 } (pC D dA [.ref h, .int 1] (VW dA h ad x) sz) (va_Qi (fun (r9 : Int32) (u9 : Unit) => r9 = nI x.hsize) (fun (u9 : Unit) t9 => bW D (va_A (VW dA h ad x) sz) (VW dA h ad x) t9) (va_A (VW dA h ad x) sz)) 0 0 (va_A (VW dA h ad x) sz) := by
  refine mkC (y := ⟨"SeriesVault", "count", "(I)I"⟩) (cc := prog_1_method_43_code) (maxL := 2) (av := [.ref h, .int 1]) (ws := VW dA h ad x) (sz := sz) (Qc := fun A => va_Qi (fun (r9 : Int32) (u9 : Unit) => r9 = nI x.hsize) (fun (u9 : Unit) t9 => bW D A (VW dA h ad x) t9) A) (by decide) (Nat.le_of_ble_eq_true rfl) ?_
  intro A p e s m below meth c ls hsz hB
  obtain ⟨hx, hb, hr, hml, hown, hin, hlk, hE, hK, hP, hD, hS, hA, hN, hl⟩ := hB
  have hown : s.vm.findClass "SeriesVault" = some m.cls := hown
  have hl : lv_has ls 2 [(0, .ref h), (1, .int 1)] := hl
  obtain ⟨H, hH⟩ : ∃ z, z = s.heap := ⟨_, rfl⟩
  have hP : va_P D vwCl (VW dA h ad x) H := by rw [hH]; exact hP
  have hS : va_S A s.heap H [] := by rw [hH]; exact hS
  rw [← hH]
  refine lv_aload_n hx hb d_V_count_0 rfl (lv_at hl 0 rfl) ?_
  refine jfV (rnV (As := []) (rest := []) hx hb hml hown hE hK (hN _ _ hS) hP hD (v_checkPower l D dA H.size h ad x ho) (q0 := 0) rfl rfl w278 w276 w279 w280 w277 rfl rfl ⟨⟨by decide, by decide⟩, rfl⟩ ⟨(Nat.le_of_ble_eq_true rfl), (Nat.le_of_ble_eq_true rfl)⟩ rfl hl.1 rfl (Nat.le_of_ble_eq_true rfl) d_V_count_1 ⟨(Nat.le_of_ble_eq_true rfl), (Nat.le_of_ble_eq_true rfl)⟩) hP hD hS hA (fun u2 H locs hp9 hP hD hS => ?_)
  have hP : va_P D vwCl (VW dA h ad x) H := hP
  have hD : va_D A (VW dA h ad x) := hD
  refine lv_iload_n hx hb d_V_count_4 rfl (lv_at hl 1 rfl) ?_
  refine lv_tableIn (x := 1) (off := 59) (tgt := 64) hx hb d_V_count_5 (by decide) (by decide) (by decide) rfl ?_
  refine lv_aload_n hx hb d_V_count_64 rfl (lv_at hl 0 rfl) ?_
  refine gF (v := .ref (ad 1)) hx hb hown hE hK hP 0 rfl rfl layV 9 (by decide) w576 rfl d_V_count_65 ?_
  refine gFN (v := .int (nI x.hsize)) hx hb hown hE hK hP 9 rfl rfl layP 3 (by decide) w641 rfl d_V_count_68 ?_
  exact rfI hx hb hr hlk hS () rfl hP hD (Nat.le_of_ble_eq_true rfl) (Nat.le_of_ble_eq_true rfl) d_V_count_71
set_option maxHeartbeats 4000000 in
set_option maxRecDepth 100000 in
theorem v_count_2 (l : Launch) (D : va_G) (dA : Nat → ClassId) (sz : Nat) (h : Nat) (ad : Nat → Nat) (x : VS) (ho : x.powered = true) : Met l ⟨"SeriesVault", "count", "(I)I"⟩ [Cond.code ⟨"SeriesVault", "count", "(I)I"⟩ prog_1_method_43_code 2 (some FieldType.int)] { frames := 2, cells := 0, slots := 0, locals := 20 } (pC D dA [.ref h, .int 2] (VW dA h ad x) sz) (va_Qi (fun (r9 : Int32) (u9 : Unit) => r9 = nI x.npc) (fun (u9 : Unit) t9 => bW D (va_A (VW dA h ad x) sz) (VW dA h ad x) t9) (va_A (VW dA h ad x) sz)) 0 0 (va_A (VW dA h ad x) sz) := by
  refine mkC (y := ⟨"SeriesVault", "count", "(I)I"⟩) (cc := prog_1_method_43_code) (maxL := 2) (av := [.ref h, .int 2]) (ws := VW dA h ad x) (sz := sz) (Qc := fun A => va_Qi (fun (r9 : Int32) (u9 : Unit) => r9 = nI x.npc) (fun (u9 : Unit) t9 => bW D A (VW dA h ad x) t9) A) (by decide) (Nat.le_of_ble_eq_true rfl) ?_
  intro A p e s m below meth c ls hsz hB
  obtain ⟨hx, hb, hr, hml, hown, hin, hlk, hE, hK, hP, hD, hS, hA, hN, hl⟩ := hB
  have hown : s.vm.findClass "SeriesVault" = some m.cls := hown
  have hl : lv_has ls 2 [(0, .ref h), (1, .int 2)] := hl
  obtain ⟨H, hH⟩ : ∃ z, z = s.heap := ⟨_, rfl⟩
  have hP : va_P D vwCl (VW dA h ad x) H := by rw [hH]; exact hP
  have hS : va_S A s.heap H [] := by rw [hH]; exact hS
  rw [← hH]
  refine lv_aload_n hx hb d_V_count_0 rfl (lv_at hl 0 rfl) ?_
  refine jfV (rnV (As := []) (rest := []) hx hb hml hown hE hK (hN _ _ hS) hP hD (v_checkPower l D dA H.size h ad x ho) (q0 := 0) rfl rfl w278 w276 w279 w280 w277 rfl rfl ⟨⟨by decide, by decide⟩, rfl⟩ ⟨(Nat.le_of_ble_eq_true rfl), (Nat.le_of_ble_eq_true rfl)⟩ rfl hl.1 rfl (Nat.le_of_ble_eq_true rfl) d_V_count_1 ⟨(Nat.le_of_ble_eq_true rfl), (Nat.le_of_ble_eq_true rfl)⟩) hP hD hS hA (fun u2 H locs hp9 hP hD hS => ?_)
  have hP : va_P D vwCl (VW dA h ad x) H := hP
  have hD : va_D A (VW dA h ad x) := hD
  refine lv_iload_n hx hb d_V_count_4 rfl (lv_at hl 1 rfl) ?_
  refine lv_tableIn (x := 2) (off := 67) (tgt := 72) hx hb d_V_count_5 (by decide) (by decide) (by decide) rfl ?_
  refine lv_aload_n hx hb d_V_count_72 rfl (lv_at hl 0 rfl) ?_
  refine gF (v := .ref (ad 3)) hx hb hown hE hK hP 0 rfl rfl layV 11 (by decide) w297 rfl d_V_count_73 ?_
  refine gFN (v := .int (nI x.npc)) hx hb hown hE hK hP 17 rfl rfl layH 1 (by decide) w303 rfl d_V_count_76 ?_
  exact rfI hx hb hr hlk hS () rfl hP hD (Nat.le_of_ble_eq_true rfl) (Nat.le_of_ble_eq_true rfl) d_V_count_79
set_option maxHeartbeats 4000000 in
set_option maxRecDepth 100000 in
theorem v_count_3 (l : Launch) (D : va_G) (dA : Nat → ClassId) (sz : Nat) (h : Nat) (ad : Nat → Nat) (x : VS) (ho : x.powered = true) : Met l ⟨"SeriesVault", "count", "(I)I"⟩ [Cond.code ⟨"SeriesVault", "count", "(I)I"⟩ prog_1_method_43_code 2 (some FieldType.int)] { frames := 2, cells := 0, slots := 0, locals := 20 } (pC D dA [.ref h, .int 3] (VW dA h ad x) sz) (va_Qi (fun (r9 : Int32) (u9 : Unit) => r9 = nI x.nsc) (fun (u9 : Unit) t9 => bW D (va_A (VW dA h ad x) sz) (VW dA h ad x) t9) (va_A (VW dA h ad x) sz)) 0 0 (va_A (VW dA h ad x) sz) := by
  refine mkC (y := ⟨"SeriesVault", "count", "(I)I"⟩) (cc := prog_1_method_43_code) (maxL := 2) (av := [.ref h, .int 3]) (ws := VW dA h ad x) (sz := sz) (Qc := fun A => va_Qi (fun (r9 : Int32) (u9 : Unit) => r9 = nI x.nsc) (fun (u9 : Unit) t9 => bW D A (VW dA h ad x) t9) A) (by decide) (Nat.le_of_ble_eq_true rfl) ?_
  intro A p e s m below meth c ls hsz hB
  obtain ⟨hx, hb, hr, hml, hown, hin, hlk, hE, hK, hP, hD, hS, hA, hN, hl⟩ := hB
  have hown : s.vm.findClass "SeriesVault" = some m.cls := hown
  have hl : lv_has ls 2 [(0, .ref h), (1, .int 3)] := hl
  obtain ⟨H, hH⟩ : ∃ z, z = s.heap := ⟨_, rfl⟩
  have hP : va_P D vwCl (VW dA h ad x) H := by rw [hH]; exact hP
  have hS : va_S A s.heap H [] := by rw [hH]; exact hS
  rw [← hH]
  refine lv_aload_n hx hb d_V_count_0 rfl (lv_at hl 0 rfl) ?_
  refine jfV (rnV (As := []) (rest := []) hx hb hml hown hE hK (hN _ _ hS) hP hD (v_checkPower l D dA H.size h ad x ho) (q0 := 0) rfl rfl w278 w276 w279 w280 w277 rfl rfl ⟨⟨by decide, by decide⟩, rfl⟩ ⟨(Nat.le_of_ble_eq_true rfl), (Nat.le_of_ble_eq_true rfl)⟩ rfl hl.1 rfl (Nat.le_of_ble_eq_true rfl) d_V_count_1 ⟨(Nat.le_of_ble_eq_true rfl), (Nat.le_of_ble_eq_true rfl)⟩) hP hD hS hA (fun u2 H locs hp9 hP hD hS => ?_)
  have hP : va_P D vwCl (VW dA h ad x) H := hP
  have hD : va_D A (VW dA h ad x) := hD
  refine lv_iload_n hx hb d_V_count_4 rfl (lv_at hl 1 rfl) ?_
  refine lv_tableIn (x := 3) (off := 75) (tgt := 80) hx hb d_V_count_5 (by decide) (by decide) (by decide) rfl ?_
  refine lv_aload_n hx hb d_V_count_80 rfl (lv_at hl 0 rfl) ?_
  refine gF (v := .ref (ad 3)) hx hb hown hE hK hP 0 rfl rfl layV 11 (by decide) w297 rfl d_V_count_81 ?_
  refine gFN (v := .int (nI x.nsc)) hx hb hown hE hK hP 17 rfl rfl layH 6 (by decide) w642 rfl d_V_count_84 ?_
  exact rfI hx hb hr hlk hS () rfl hP hD (Nat.le_of_ble_eq_true rfl) (Nat.le_of_ble_eq_true rfl) d_V_count_87
set_option maxHeartbeats 4000000 in
set_option maxRecDepth 100000 in
theorem v_count_5 (l : Launch) (D : va_G) (dA : Nat → ClassId) (sz : Nat) (h : Nat) (ad : Nat → Nat) (x : VS) (ho : x.powered = true) : Met l ⟨"SeriesVault", "count", "(I)I"⟩ [Cond.code ⟨"SeriesVault", "count", "(I)I"⟩ prog_1_method_43_code 2 (some FieldType.int)] { frames := 2, cells := 0, slots := 0, locals := 20 } (pC D dA [.ref h, .int 5] (VW dA h ad x) sz) (va_Qi (fun (r9 : Int32) (u9 : Unit) => r9 = nI x.junits) (fun (u9 : Unit) t9 => bW D (va_A (VW dA h ad x) sz) (VW dA h ad x) t9) (va_A (VW dA h ad x) sz)) 0 0 (va_A (VW dA h ad x) sz) := by
  refine mkC (y := ⟨"SeriesVault", "count", "(I)I"⟩) (cc := prog_1_method_43_code) (maxL := 2) (av := [.ref h, .int 5]) (ws := VW dA h ad x) (sz := sz) (Qc := fun A => va_Qi (fun (r9 : Int32) (u9 : Unit) => r9 = nI x.junits) (fun (u9 : Unit) t9 => bW D A (VW dA h ad x) t9) A) (by decide) (Nat.le_of_ble_eq_true rfl) ?_
  intro A p e s m below meth c ls hsz hB
  obtain ⟨hx, hb, hr, hml, hown, hin, hlk, hE, hK, hP, hD, hS, hA, hN, hl⟩ := hB
  have hown : s.vm.findClass "SeriesVault" = some m.cls := hown
  have hl : lv_has ls 2 [(0, .ref h), (1, .int 5)] := hl
  obtain ⟨H, hH⟩ : ∃ z, z = s.heap := ⟨_, rfl⟩
  have hP : va_P D vwCl (VW dA h ad x) H := by rw [hH]; exact hP
  have hS : va_S A s.heap H [] := by rw [hH]; exact hS
  rw [← hH]
  refine lv_aload_n hx hb d_V_count_0 rfl (lv_at hl 0 rfl) ?_
  refine jfV (rnV (As := []) (rest := []) hx hb hml hown hE hK (hN _ _ hS) hP hD (v_checkPower l D dA H.size h ad x ho) (q0 := 0) rfl rfl w278 w276 w279 w280 w277 rfl rfl ⟨⟨by decide, by decide⟩, rfl⟩ ⟨(Nat.le_of_ble_eq_true rfl), (Nat.le_of_ble_eq_true rfl)⟩ rfl hl.1 rfl (Nat.le_of_ble_eq_true rfl) d_V_count_1 ⟨(Nat.le_of_ble_eq_true rfl), (Nat.le_of_ble_eq_true rfl)⟩) hP hD hS hA (fun u2 H locs hp9 hP hD hS => ?_)
  have hP : va_P D vwCl (VW dA h ad x) H := hP
  have hD : va_D A (VW dA h ad x) := hD
  refine lv_iload_n hx hb d_V_count_4 rfl (lv_at hl 1 rfl) ?_
  refine lv_tableIn (x := 5) (off := 88) (tgt := 93) hx hb d_V_count_5 (by decide) (by decide) (by decide) rfl ?_
  refine lv_aload_n hx hb d_V_count_93 rfl (lv_at hl 0 rfl) ?_
  refine gF (v := .ref (ad 0)) hx hb hown hE hK hP 0 rfl rfl layV 8 (by decide) w312 rfl d_V_count_94 ?_
  refine gFN (v := .int (nI x.junits)) hx hb hown hE hK hP 2 rfl rfl layJ 8 (by decide) w647 rfl d_V_count_97 ?_
  exact rfI hx hb hr hlk hS () rfl hP hD (Nat.le_of_ble_eq_true rfl) (Nat.le_of_ble_eq_true rfl) d_V_count_100
set_option maxHeartbeats 4000000 in
set_option maxRecDepth 100000 in
theorem v_count_6 (l : Launch) (D : va_G) (dA : Nat → ClassId) (sz : Nat) (h : Nat) (ad : Nat → Nat) (x : VS) (ho : x.powered = true) : Met l ⟨"SeriesVault", "count", "(I)I"⟩ [Cond.code ⟨"SeriesVault", "count", "(I)I"⟩ prog_1_method_43_code 2 (some FieldType.int)] { frames := 2, cells := 0, slots := 0, locals := 20 } (pC D dA [.ref h, .int 6] (VW dA h ad x) sz) (va_Qi (fun (r9 : Int32) (u9 : Unit) => r9 = nI x.jsize) (fun (u9 : Unit) t9 => bW D (va_A (VW dA h ad x) sz) (VW dA h ad x) t9) (va_A (VW dA h ad x) sz)) 0 0 (va_A (VW dA h ad x) sz) := by
  refine mkC (y := ⟨"SeriesVault", "count", "(I)I"⟩) (cc := prog_1_method_43_code) (maxL := 2) (av := [.ref h, .int 6]) (ws := VW dA h ad x) (sz := sz) (Qc := fun A => va_Qi (fun (r9 : Int32) (u9 : Unit) => r9 = nI x.jsize) (fun (u9 : Unit) t9 => bW D A (VW dA h ad x) t9) A) (by decide) (Nat.le_of_ble_eq_true rfl) ?_
  intro A p e s m below meth c ls hsz hB
  obtain ⟨hx, hb, hr, hml, hown, hin, hlk, hE, hK, hP, hD, hS, hA, hN, hl⟩ := hB
  have hown : s.vm.findClass "SeriesVault" = some m.cls := hown
  have hl : lv_has ls 2 [(0, .ref h), (1, .int 6)] := hl
  obtain ⟨H, hH⟩ : ∃ z, z = s.heap := ⟨_, rfl⟩
  have hP : va_P D vwCl (VW dA h ad x) H := by rw [hH]; exact hP
  have hS : va_S A s.heap H [] := by rw [hH]; exact hS
  rw [← hH]
  refine lv_aload_n hx hb d_V_count_0 rfl (lv_at hl 0 rfl) ?_
  refine jfV (rnV (As := []) (rest := []) hx hb hml hown hE hK (hN _ _ hS) hP hD (v_checkPower l D dA H.size h ad x ho) (q0 := 0) rfl rfl w278 w276 w279 w280 w277 rfl rfl ⟨⟨by decide, by decide⟩, rfl⟩ ⟨(Nat.le_of_ble_eq_true rfl), (Nat.le_of_ble_eq_true rfl)⟩ rfl hl.1 rfl (Nat.le_of_ble_eq_true rfl) d_V_count_1 ⟨(Nat.le_of_ble_eq_true rfl), (Nat.le_of_ble_eq_true rfl)⟩) hP hD hS hA (fun u2 H locs hp9 hP hD hS => ?_)
  have hP : va_P D vwCl (VW dA h ad x) H := hP
  have hD : va_D A (VW dA h ad x) := hD
  refine lv_iload_n hx hb d_V_count_4 rfl (lv_at hl 1 rfl) ?_
  refine lv_tableIn (x := 6) (off := 96) (tgt := 101) hx hb d_V_count_5 (by decide) (by decide) (by decide) rfl ?_
  refine lv_aload_n hx hb d_V_count_101 rfl (lv_at hl 0 rfl) ?_
  refine gF (v := .ref (ad 0)) hx hb hown hE hK hP 0 rfl rfl layV 8 (by decide) w312 rfl d_V_count_102 ?_
  refine gFN (v := .int (nI x.jsize)) hx hb hown hE hK hP 2 rfl rfl layJ 6 (by decide) w318 rfl d_V_count_105 ?_
  exact rfI hx hb hr hlk hS () rfl hP hD (Nat.le_of_ble_eq_true rfl) (Nat.le_of_ble_eq_true rfl) d_V_count_108
set_option maxHeartbeats 4000000 in
set_option maxRecDepth 100000 in
theorem v_count_7 (l : Launch) (D : va_G) (dA : Nat → ClassId) (sz : Nat) (h : Nat) (ad : Nat → Nat) (x : VS) (ho : x.powered = true) : Met l ⟨"SeriesVault", "count", "(I)I"⟩ [Cond.code ⟨"SeriesVault", "count", "(I)I"⟩ prog_1_method_43_code 2 (some FieldType.int)] { frames := 2, cells := 0, slots := 0, locals := 20 } (pC D dA [.ref h, .int 7] (VW dA h ad x) sz) (va_Qi (fun (r9 : Int32) (u9 : Unit) => r9 = nI x.jkept) (fun (u9 : Unit) t9 => bW D (va_A (VW dA h ad x) sz) (VW dA h ad x) t9) (va_A (VW dA h ad x) sz)) 0 0 (va_A (VW dA h ad x) sz) := by
  refine mkC (y := ⟨"SeriesVault", "count", "(I)I"⟩) (cc := prog_1_method_43_code) (maxL := 2) (av := [.ref h, .int 7]) (ws := VW dA h ad x) (sz := sz) (Qc := fun A => va_Qi (fun (r9 : Int32) (u9 : Unit) => r9 = nI x.jkept) (fun (u9 : Unit) t9 => bW D A (VW dA h ad x) t9) A) (by decide) (Nat.le_of_ble_eq_true rfl) ?_
  intro A p e s m below meth c ls hsz hB
  obtain ⟨hx, hb, hr, hml, hown, hin, hlk, hE, hK, hP, hD, hS, hA, hN, hl⟩ := hB
  have hown : s.vm.findClass "SeriesVault" = some m.cls := hown
  have hl : lv_has ls 2 [(0, .ref h), (1, .int 7)] := hl
  obtain ⟨H, hH⟩ : ∃ z, z = s.heap := ⟨_, rfl⟩
  have hP : va_P D vwCl (VW dA h ad x) H := by rw [hH]; exact hP
  have hS : va_S A s.heap H [] := by rw [hH]; exact hS
  rw [← hH]
  refine lv_aload_n hx hb d_V_count_0 rfl (lv_at hl 0 rfl) ?_
  refine jfV (rnV (As := []) (rest := []) hx hb hml hown hE hK (hN _ _ hS) hP hD (v_checkPower l D dA H.size h ad x ho) (q0 := 0) rfl rfl w278 w276 w279 w280 w277 rfl rfl ⟨⟨by decide, by decide⟩, rfl⟩ ⟨(Nat.le_of_ble_eq_true rfl), (Nat.le_of_ble_eq_true rfl)⟩ rfl hl.1 rfl (Nat.le_of_ble_eq_true rfl) d_V_count_1 ⟨(Nat.le_of_ble_eq_true rfl), (Nat.le_of_ble_eq_true rfl)⟩) hP hD hS hA (fun u2 H locs hp9 hP hD hS => ?_)
  have hP : va_P D vwCl (VW dA h ad x) H := hP
  have hD : va_D A (VW dA h ad x) := hD
  refine lv_iload_n hx hb d_V_count_4 rfl (lv_at hl 1 rfl) ?_
  refine lv_tableIn (x := 7) (off := 104) (tgt := 109) hx hb d_V_count_5 (by decide) (by decide) (by decide) rfl ?_
  refine lv_aload_n hx hb d_V_count_109 rfl (lv_at hl 0 rfl) ?_
  refine gF (v := .ref (ad 0)) hx hb hown hE hK hP 0 rfl rfl layV 8 (by decide) w312 rfl d_V_count_110 ?_
  refine gFN (v := .int (nI x.jkept)) hx hb hown hE hK hP 2 rfl rfl layJ 7 (by decide) w648 rfl d_V_count_113 ?_
  exact rfI hx hb hr hlk hS () rfl hP hD (Nat.le_of_ble_eq_true rfl) (Nat.le_of_ble_eq_true rfl) d_V_count_116
set_option maxHeartbeats 4000000 in
set_option maxRecDepth 100000 in
theorem v_count_4 (l : Launch) (D : va_G) (dA : Nat → ClassId) (sz : Nat) (h : Nat) (ad : Nat → Nat) (x : VS) (PS : Nat → PT) (ho : x.powered = true) (hps : psOk dA x.nP x.npc x.pl PS) (hpn : x.npc ≤ 32) (hfr : x.jlimit + 2 + (x.ncat + sumN x.npc (blN PS)) ≤ x.diskBlocks) : Met l ⟨"SeriesVault", "count", "(I)I"⟩ [Cond.code ⟨"SeriesVault", "count", "(I)I"⟩ prog_1_method_43_code 2 (some FieldType.int)] { frames := 3, cells := 0, slots := 0, locals := 42 } (pC D dA [.ref h, .int 4] (VW dA h ad x) sz) (va_Qi (fun (r9 : Int32) (u9 : Unit) => r9 = nI (x.fr PS)) (fun (u9 : Unit) t9 => bW D (va_A (VW dA h ad x) sz) (VW dA h ad x) t9) (va_A (VW dA h ad x) sz)) 0 0 (va_A (VW dA h ad x) sz) := by
  refine mkC (y := ⟨"SeriesVault", "count", "(I)I"⟩) (cc := prog_1_method_43_code) (maxL := 2) (av := [.ref h, .int 4]) (ws := VW dA h ad x) (sz := sz) (Qc := fun A => va_Qi (fun (r9 : Int32) (u9 : Unit) => r9 = nI (x.fr PS)) (fun (u9 : Unit) t9 => bW D A (VW dA h ad x) t9) A) (by decide) (Nat.le_of_ble_eq_true rfl) ?_
  intro A p e s m below meth c ls hsz hB
  obtain ⟨hx, hb, hr, hml, hown, hin, hlk, hE, hK, hP, hD, hS, hA, hN, hl⟩ := hB
  have hown : s.vm.findClass "SeriesVault" = some m.cls := hown
  have hl : lv_has ls 2 [(0, .ref h), (1, .int 4)] := hl
  obtain ⟨H, hH⟩ : ∃ z, z = s.heap := ⟨_, rfl⟩
  have hP : va_P D vwCl (VW dA h ad x) H := by rw [hH]; exact hP
  have hS : va_S A s.heap H [] := by rw [hH]; exact hS
  rw [← hH]
  refine lv_aload_n hx hb d_V_count_0 rfl (lv_at hl 0 rfl) ?_
  refine jfV (rnV (As := []) (rest := []) hx hb hml hown hE hK (hN _ _ hS) hP hD (v_checkPower l D dA H.size h ad x ho) (q0 := 0) rfl rfl w278 w276 w279 w280 w277 rfl rfl ⟨⟨by decide, by decide⟩, rfl⟩ ⟨(Nat.le_of_ble_eq_true rfl), (Nat.le_of_ble_eq_true rfl)⟩ rfl hl.1 rfl (Nat.le_of_ble_eq_true rfl) d_V_count_1 ⟨(Nat.le_of_ble_eq_true rfl), (Nat.le_of_ble_eq_true rfl)⟩) hP hD hS hA (fun u2 H locs hp9 hP hD hS => ?_)
  have hP : va_P D vwCl (VW dA h ad x) H := hP
  have hD : va_D A (VW dA h ad x) := hD
  refine lv_iload_n hx hb d_V_count_4 rfl (lv_at hl 1 rfl) ?_
  refine lv_tableIn (x := 4) (off := 83) (tgt := 88) hx hb d_V_count_5 (by decide) (by decide) (by decide) rfl ?_
  refine lv_aload_n hx hb d_V_count_88 rfl (lv_at hl 0 rfl) ?_
  refine jfI (rnV (As := []) (rest := []) hx hb hml hown hE hK (hN _ _ hS) hP hD (v_freeBlocks l D dA H.size h ad x PS hps (show x.npc ≤ 32 from by omega) (show x.jlimit + 2 + (x.ncat + sumN x.npc (blN PS)) ≤ x.diskBlocks from by omega)) (q0 := 0) rfl rfl w644 w643 w645 w646 w277 rfl rfl ⟨⟨by decide, by decide⟩, rfl⟩ ⟨(Nat.le_of_ble_eq_true rfl), (Nat.le_of_ble_eq_true rfl)⟩ rfl hl.1 rfl (Nat.le_of_ble_eq_true rfl) d_V_count_89 ⟨(Nat.le_of_ble_eq_true rfl), (Nat.le_of_ble_eq_true rfl)⟩) hP hD hS hA (fun r3 u4 H locs hp9 hP hD hS => ?_)
  have hP : va_P D vwCl (VW dA h ad x) H := hP
  have hD : va_D A (VW dA h ad x) := hD
  replace hp9 : nI (x.fr PS) = r3 := Eq.symm hp9
  subst hp9
  exact rfI hx hb hr hlk hS () rfl hP hD (Nat.le_of_ble_eq_true rfl) (Nat.le_of_ble_eq_true rfl) d_V_count_92
set_option maxHeartbeats 4000000 in
set_option maxRecDepth 100000 in
theorem v_count_8 (l : Launch) (D : va_G) (dA : Nat → ClassId) (sz : Nat) (h : Nat) (ad : Nat → Nat) (x : VS) (PS : Nat → PT) (ho : x.powered = true) (hps : psOk dA x.nP x.npc x.pl PS) (hpn : x.npc ≤ 32) (h1 : x.nsc ≤ 64) (h7 : ∀ q : Nat, q < x.nsc → x.nsO q < 2 ^ 31) : Met l ⟨"SeriesVault", "count", "(I)I"⟩ [Cond.code ⟨"SeriesVault", "count", "(I)I"⟩ prog_1_method_43_code 2 (some FieldType.int)] { frames := 6, cells := 0, slots := 0, locals := 115 } (pC D dA [.ref h, .int 8] (VW dA h ad x) sz) (va_Qi (fun (r9 : Int32) (u9 : Unit) => r9 = nI (sumN x.npc (x.sbN PS (1099511627776 - 1)) + x.hsize)) (fun (u9 : Unit) t9 => bW D (va_A (VW dA h ad x) sz) (VW dA h ad x) t9) (va_A (VW dA h ad x) sz)) 0 0 (va_A (VW dA h ad x) sz) := by
  refine mkC (y := ⟨"SeriesVault", "count", "(I)I"⟩) (cc := prog_1_method_43_code) (maxL := 2) (av := [.ref h, .int 8]) (ws := VW dA h ad x) (sz := sz) (Qc := fun A => va_Qi (fun (r9 : Int32) (u9 : Unit) => r9 = nI (sumN x.npc (x.sbN PS (1099511627776 - 1)) + x.hsize)) (fun (u9 : Unit) t9 => bW D A (VW dA h ad x) t9) A) (by decide) (Nat.le_of_ble_eq_true rfl) ?_
  intro A p e s m below meth c ls hsz hB
  obtain ⟨hx, hb, hr, hml, hown, hin, hlk, hE, hK, hP, hD, hS, hA, hN, hl⟩ := hB
  have hown : s.vm.findClass "SeriesVault" = some m.cls := hown
  have hl : lv_has ls 2 [(0, .ref h), (1, .int 8)] := hl
  obtain ⟨H, hH⟩ : ∃ z, z = s.heap := ⟨_, rfl⟩
  have hP : va_P D vwCl (VW dA h ad x) H := by rw [hH]; exact hP
  have hS : va_S A s.heap H [] := by rw [hH]; exact hS
  rw [← hH]
  refine lv_aload_n hx hb d_V_count_0 rfl (lv_at hl 0 rfl) ?_
  refine jfV (rnV (As := []) (rest := []) hx hb hml hown hE hK (hN _ _ hS) hP hD (v_checkPower l D dA H.size h ad x ho) (q0 := 0) rfl rfl w278 w276 w279 w280 w277 rfl rfl ⟨⟨by decide, by decide⟩, rfl⟩ ⟨(Nat.le_of_ble_eq_true rfl), (Nat.le_of_ble_eq_true rfl)⟩ rfl hl.1 rfl (Nat.le_of_ble_eq_true rfl) d_V_count_1 ⟨(Nat.le_of_ble_eq_true rfl), (Nat.le_of_ble_eq_true rfl)⟩) hP hD hS hA (fun u2 H locs hp9 hP hD hS => ?_)
  have hP : va_P D vwCl (VW dA h ad x) H := hP
  have hD : va_D A (VW dA h ad x) := hD
  refine lv_iload_n hx hb d_V_count_4 rfl (lv_at hl 1 rfl) ?_
  refine lv_tableIn (x := 8) (off := 112) (tgt := 117) hx hb d_V_count_5 (by decide) (by decide) (by decide) rfl ?_
  refine lv_aload_n hx hb d_V_count_117 rfl (lv_at hl 0 rfl) ?_
  refine gF (v := .ref (ad 3)) hx hb hown hE hK hP 0 rfl rfl layV 11 (by decide) w297 rfl d_V_count_118 ?_
  refine jfI (rnV (As := []) (rest := []) hx hb hml hown hE hK (hN _ _ hS) hP hD (v_countAllSeen l D dA H.size h ad x PS hps (show x.npc ≤ 32 from by omega) (show x.nsc ≤ 64 from by omega) h7) (q0 := 17) rfl rfl w650 w649 w651 w652 w583 rfl rfl ⟨⟨by decide, by decide⟩, rfl⟩ ⟨(Nat.le_of_ble_eq_true rfl), (Nat.le_of_ble_eq_true rfl)⟩ rfl hl.1 rfl (Nat.le_of_ble_eq_true rfl) d_V_count_121 ⟨(Nat.le_of_ble_eq_true rfl), (Nat.le_of_ble_eq_true rfl)⟩) hP hD hS hA (fun r3 u4 H locs hp9 hP hD hS => ?_)
  have hP : va_P D vwCl (VW dA h ad x) H := hP
  have hD : va_D A (VW dA h ad x) := hD
  replace hp9 : nI (sumN x.npc (x.sbN PS (1099511627776 - 1))) = r3 := Eq.symm hp9
  subst hp9
  refine lv_aload_n hx hb d_V_count_124 rfl (lv_at hl 0 rfl) ?_
  refine gF (v := .ref (ad 1)) hx hb hown hE hK hP 0 rfl rfl layV 9 (by decide) w576 rfl d_V_count_125 ?_
  refine gFN (v := .int (nI x.hsize)) hx hb hown hE hK hP 9 rfl rfl layP 3 (by decide) w641 rfl d_V_count_128 ?_
  refine lv_iadd hx hb d_V_count_131 (tpi (y := nI ((sumN x.npc (x.sbN PS (1099511627776 - 1))) + x.hsize)) (nI_add (sumN x.npc (x.sbN PS (1099511627776 - 1))) (x.hsize)) ?_)
  exact rfI hx hb hr hlk hS () rfl hP hD (Nat.le_of_ble_eq_true rfl) (Nat.le_of_ble_eq_true rfl) d_V_count_132
set_option maxHeartbeats 4000000 in
set_option maxRecDepth 100000 in
theorem v_count_x (l : Launch) (htr : l.stackTraces = false) (D : va_G) (dA : Nat → ClassId) (sz : Nat) (h : Nat) (ad : Nat → Nat) (x : VS) (n : Int32) (ho : x.powered = false) : mX l ⟨"SeriesVault", "count", "(I)I"⟩ [Cond.code ⟨"SeriesVault", "count", "(I)I"⟩ prog_1_method_43_code 2 (some FieldType.int)] { frames := 7, cells := 1, slots := 6, locals := 101 } (pC D dA [.ref h, .int n] (VW dA h ad x) sz) "java/lang/IllegalStateException" (fun st9 t9 => va_F (va_A (VW dA h ad x) sz) st9 t9 ∧ bW D (va_A (VW dA h ad x) sz) (VW dA h ad x) t9) 1 6 (va_A (VW dA h ad x) sz) := by
  refine mkX (y := ⟨"SeriesVault", "count", "(I)I"⟩) (cc := prog_1_method_43_code) (maxL := 2) (av := [.ref h, .int n]) (ws := VW dA h ad x) (sz := sz) (B := fun A => (fun st9 t9 => va_F A st9 t9 ∧ bW D A (VW dA h ad x) t9)) (by decide) (Nat.le_of_ble_eq_true rfl) ?_
  intro A p e s m below meth c ls hsz hno hB
  obtain ⟨hx, hb, hr, hml, hown, hin, hlk, hE, hK, hP, hD, hS, hA, hN, hl⟩ := hB
  have hown : s.vm.findClass "SeriesVault" = some m.cls := hown
  have hl : lv_has ls 2 [(0, .ref h), (1, .int n)] := hl
  obtain ⟨H, hH⟩ : ∃ z, z = s.heap := ⟨_, rfl⟩
  have hP : va_P D vwCl (VW dA h ad x) H := by rw [hH]; exact hP
  have hS : va_S A s.heap H [] := by rw [hH]; exact hS
  rw [← hH]
  refine lv_aload_n hx hb d_V_count_0 rfl (lv_at hl 0 rfl) ?_
  refine xfV (w1 := VW dA h ad x) (As := []) (rest := []) hx hb hml hown hE hK (hN _ _ hS) (v_checkPower_x l htr D dA H.size h ad x ho) (q0 := 0) rfl rfl w278 w276 w279 w280 w277 rfl rfl ⟨⟨by decide, by decide⟩, rfl⟩ ⟨(Nat.le_of_ble_eq_true rfl), (Nat.le_of_ble_eq_true rfl)⟩ rfl hl.1 rfl (Nat.le_of_ble_eq_true rfl) d_V_count_1 ⟨(Nat.le_of_ble_eq_true rfl), (Nat.le_of_ble_eq_true rfl)⟩ hP hD hS hA (fun xa1 ce H locs hP hD hS hce hcv hcl => ?_)
  exact xOut hno hlk hce hcv hcl (fun t ht => xEndV hP hD hS t (by rw [ht]; exact Nat.le_refl _) (fun q _ => by rw [ht])) hS.2.2 (Nat.le_of_ble_eq_true rfl) (Nat.le_of_ble_eq_true rfl)
theorem tsw {n : Int32} {k : Int32} {z : Int} (hz : k.toInt = z) (h : n < 0 ∨ k < n) : n.toInt < 0 ∨ z < n.toInt := by
  rcases h with h | h
  · left
    have := Int32.lt_iff_toInt_lt.mp h
    rwa [show (0 : Int32).toInt = 0 by decide] at this
  · right
    have := Int32.lt_iff_toInt_lt.mp h
    rwa [hz] at this
set_option maxHeartbeats 4000000 in
set_option maxRecDepth 100000 in
theorem v_count_y (l : Launch) (htr : l.stackTraces = false) (D : va_G) (dA : Nat → ClassId) (sz : Nat) (h : Nat) (ad : Nat → Nat) (x : VS) (n : Int32) (ho : x.powered = true) (h0 : n < 0 ∨ 8 < n) : mX l ⟨"SeriesVault", "count", "(I)I"⟩ [Cond.code ⟨"SeriesVault", "count", "(I)I"⟩ prog_1_method_43_code 2 (some FieldType.int)] { frames := 6, cells := 1, slots := 6, locals := 81 } (pC D dA [.ref h, .int n] (VW dA h ad x) sz) "java/lang/IllegalArgumentException" (fun st9 t9 => va_F (va_A (VW dA h ad x) sz) st9 t9 ∧ bW D (va_A (VW dA h ad x) sz) (VW dA h ad x) t9) 1 6 (va_A (VW dA h ad x) sz) := by
  refine mkX (y := ⟨"SeriesVault", "count", "(I)I"⟩) (cc := prog_1_method_43_code) (maxL := 2) (av := [.ref h, .int n]) (ws := VW dA h ad x) (sz := sz) (B := fun A => (fun st9 t9 => va_F A st9 t9 ∧ bW D A (VW dA h ad x) t9)) (by decide) (Nat.le_of_ble_eq_true rfl) ?_
  intro A p e s m below meth c ls hsz hno hB
  obtain ⟨hx, hb, hr, hml, hown, hin, hlk, hE, hK, hP, hD, hS, hA, hN, hl⟩ := hB
  have hown : s.vm.findClass "SeriesVault" = some m.cls := hown
  have hl : lv_has ls 2 [(0, .ref h), (1, .int n)] := hl
  obtain ⟨H, hH⟩ : ∃ z, z = s.heap := ⟨_, rfl⟩
  have hP : va_P D vwCl (VW dA h ad x) H := by rw [hH]; exact hP
  have hS : va_S A s.heap H [] := by rw [hH]; exact hS
  rw [← hH]
  refine lv_aload_n hx hb d_V_count_0 rfl (lv_at hl 0 rfl) ?_
  refine jfV (rnV (As := []) (rest := []) hx hb hml hown hE hK (hN _ _ hS) hP hD (v_checkPower l D dA H.size h ad x ho) (q0 := 0) rfl rfl w278 w276 w279 w280 w277 rfl rfl ⟨⟨by decide, by decide⟩, rfl⟩ ⟨(Nat.le_of_ble_eq_true rfl), (Nat.le_of_ble_eq_true rfl)⟩ rfl hl.1 rfl (Nat.le_of_ble_eq_true rfl) d_V_count_1 ⟨(Nat.le_of_ble_eq_true rfl), (Nat.le_of_ble_eq_true rfl)⟩) hP hD hS hA (fun u2 H locs hp9 hP hD hS => ?_)
  have hP : va_P D vwCl (VW dA h ad x) H := hP
  have hD : va_D A (VW dA h ad x) := hD
  refine lv_iload_n hx hb d_V_count_4 rfl (lv_at hl 1 rfl) ?_
  refine lv_tableOut (tgt := 133) hx hb d_V_count_5 (tsw (k := 8) (by decide) h0) rfl ?_
  exact xNew (E := "java/lang/IllegalArgumentException") (names := ["java/lang/RuntimeException", "java/lang/Exception"]) hx hb htr hown (by decide) (by decide) hE w273 w274 (fun U hU => at_V_IAE hU) (hN _ _ hS) (hl.1.trans hml.symm) d_V_count_133 d_V_count_136 d_V_count_137 d_V_count_140 hno (by decide) (Nat.le_of_ble_eq_true rfl) (Nat.le_of_ble_eq_true rfl) (Nat.le_of_ble_eq_true rfl) hlk (fun t h1 h2 => xEndV hP hD hS t h1 h2) hS.2.2 (Nat.le_of_ble_eq_true rfl) (Nat.le_of_ble_eq_true rfl)
theorem d_V_parcel_27 : decode prog_1_method_44_code 27 = .ok (.aload_n 0, 1) := by decide +kernel
theorem d_V_parcel_28 : decode prog_1_method_44_code 28 = .ok (.getfield 33, 3) := by decide +kernel
theorem d_V_parcel_31 : decode prog_1_method_44_code 31 = .ok (.getfield 329, 3) := by decide +kernel
theorem d_V_parcel_34 : decode prog_1_method_44_code 34 = .ok (.iload_n 1, 1) := by decide +kernel
theorem d_V_parcel_35 : decode prog_1_method_44_code 35 = .ok (.aaload, 1) := by decide +kernel
theorem d_V_parcel_36 : decode prog_1_method_44_code 36 = .ok (.astore_n 3, 1) := by decide +kernel
theorem d_V_parcel_37 : decode prog_1_method_44_code 37 = .ok (.iload_n 2, 1) := by decide +kernel
theorem d_V_parcel_38 : decode prog_1_method_44_code 38 = .ok (.tableswitch 63 0 4 #[34, 39, 48, 53, 58], 34) := by decide +kernel
theorem d_V_parcel_72 : decode prog_1_method_44_code 72 = .ok (.aload_n 3, 1) := by decide +kernel
theorem d_V_parcel_73 : decode prog_1_method_44_code 73 = .ok (.getfield 369, 3) := by decide +kernel
theorem d_V_parcel_76 : decode prog_1_method_44_code 76 = .ok (.ireturn, 1) := by decide +kernel
theorem w1347 : Cond.fieldLinkNest "SeriesVault" 329 "SeriesVault$Shelf" "parcels" "[LSeriesVault$Parcel;" "SeriesVault" ∈ aW := aw_of (tb_1 (List.mem_of_getElem? (i := 142) rfl)) rfl
theorem w1348 : Cond.fieldLinkNest "SeriesVault" 369 "SeriesVault$Parcel" "size" "I" "SeriesVault" ∈ aW := aw_of (tb_6 (List.mem_of_getElem? (i := 56) rfl)) rfl
set_option maxHeartbeats 4000000 in
set_option maxRecDepth 100000 in
theorem v_parcel_0 (l : Launch) (D : va_G) (dA : Nat → ClassId) (sz : Nat) (h : Nat) (ad : Nat → Nat) (x : VS) (PS : Nat → PT) (k : Nat) (ho : x.powered = true) (hk : k < x.npc) (hps : psOk dA x.nP x.npc x.pl PS) (hpn : x.npc ≤ 32) : Met l ⟨"SeriesVault", "parcel", "(II)I"⟩ [Cond.code ⟨"SeriesVault", "parcel", "(II)I"⟩ prog_1_method_44_code 4 (some FieldType.int)] { frames := 2, cells := 0, slots := 0, locals := 20 } (pC D dA [.ref h, .int (nI k), .int 0] (VW dA h ad x) sz) (va_Qi (fun (r9 : Int32) (u9 : Unit) => r9 = nI (PS k).n) (fun (u9 : Unit) t9 => bW D (va_A (VW dA h ad x) sz) (VW dA h ad x) t9) (va_A (VW dA h ad x) sz)) 0 0 (va_A (VW dA h ad x) sz) := by
  refine mkC (y := ⟨"SeriesVault", "parcel", "(II)I"⟩) (cc := prog_1_method_44_code) (maxL := 4) (av := [.ref h, .int (nI k), .int 0]) (ws := VW dA h ad x) (sz := sz) (Qc := fun A => va_Qi (fun (r9 : Int32) (u9 : Unit) => r9 = nI (PS k).n) (fun (u9 : Unit) t9 => bW D A (VW dA h ad x) t9) A) (by decide) (Nat.le_of_ble_eq_true rfl) ?_
  intro A p e s m below meth c ls hsz hB
  obtain ⟨hx, hb, hr, hml, hown, hin, hlk, hE, hK, hP, hD, hS, hA, hN, hl⟩ := hB
  have hown : s.vm.findClass "SeriesVault" = some m.cls := hown
  have hl : lv_has ls 4 [(0, .ref h), (1, .int (nI k)), (2, .int 0)] := hl
  obtain ⟨H, hH⟩ : ∃ z, z = s.heap := ⟨_, rfl⟩
  have hP : va_P D vwCl (VW dA h ad x) H := by rw [hH]; exact hP
  have hS : va_S A s.heap H [] := by rw [hH]; exact hS
  rw [← hH]
  refine lv_aload_n hx hb d_V_parcel_0 rfl (lv_at hl 0 rfl) ?_
  refine jfV (rnV (As := []) (rest := []) hx hb hml hown hE hK (hN _ _ hS) hP hD (v_checkPower l D dA H.size h ad x ho) (q0 := 0) rfl rfl w278 w276 w279 w280 w277 rfl rfl ⟨⟨by decide, by decide⟩, rfl⟩ ⟨(Nat.le_of_ble_eq_true rfl), (Nat.le_of_ble_eq_true rfl)⟩ rfl hl.1 rfl (Nat.le_of_ble_eq_true rfl) d_V_parcel_1 ⟨(Nat.le_of_ble_eq_true rfl), (Nat.le_of_ble_eq_true rfl)⟩) hP hD hS hA (fun u2 H locs hp9 hP hD hS => ?_)
  have hP : va_P D vwCl (VW dA h ad x) H := hP
  have hD : va_D A (VW dA h ad x) := hD
  refine lv_iload_n hx hb d_V_parcel_4 rfl (lv_at hl 1 rfl) ?_
  refine lv_if_lt hx hb d_V_parcel_5 (tgt := 19) rfl (fun h9 => absurd h9 (nI_pos (n := k) (by omega))) (fun _ => ?_)
  refine lv_iload_n hx hb d_V_parcel_8 rfl (lv_at hl 1 rfl) ?_
  refine lv_aload_n hx hb d_V_parcel_9 rfl (lv_at hl 0 rfl) ?_
  refine gF (v := .ref (ad 3)) hx hb hown hE hK hP 0 rfl rfl layV 11 (by decide) w297 rfl d_V_parcel_10 ?_
  refine gFN (v := .int (nI x.npc)) hx hb hown hE hK hP 17 rfl rfl layH 1 (by decide) w303 rfl d_V_parcel_13 ?_
  refine lv_icmp_lt hx hb d_V_parcel_16 (tgt := 27) rfl (fun _ => ?_) (fun h9 => absurd ((nI_ltI (a := k) (b := x.npc) (by omega) (by omega)).mpr hk) h9)
  obtain ⟨pp, ke, hpp, hpk⟩ := hps k (by omega)
  have hpp0 := hpp
  obtain ⟨po, pt, pv, m1, m2, m3, m4⟩ := hpp
  have pk1 := hpk.1
  refine lv_aload_n hx hb d_V_parcel_27 rfl (lv_at hl 0 rfl) ?_
  refine gF (v := .ref (ad 3)) hx hb hown hE hK hP 0 rfl rfl layV 11 (by decide) w297 rfl d_V_parcel_28 ?_
  refine gFN (v := .ref (ad 4)) hx hb hown hE hK hP 17 rfl rfl layH 0 (by decide) w1347 rfl d_V_parcel_31 ?_
  refine lv_iload_n hx hb d_V_parcel_34 rfl (lv_at hl 1 rfl) ?_
  refine nqld (f := x.nP) (n := 32) hx hb hK hP (18) 4 rfl rfl (k) (by omega) (by decide) ke d_V_parcel_35 ?_
  refine lv_astore_n hx hb d_V_parcel_36 rfl hl (by decide) rfl (fun ls hl => ?_)
  have hl : lv_has ls 4 [(3, .ref pp), (0, .ref h), (1, .int (nI k)), (2, .int 0)] := hl
  refine lv_iload_n hx hb d_V_parcel_37 rfl (lv_at hl 3 rfl) ?_
  refine lv_tableIn (x := 0) (off := 34) (tgt := 72) hx hb d_V_parcel_38 (by decide) (by decide) (by decide) rfl ?_
  refine lv_aload_n hx hb d_V_parcel_72 rfl (lv_at hl 0 rfl) ?_
  obtain ⟨qp3, ep4⟩ := plv (dA := dA) (h := h) (ad := ad) (x := x) m1
  refine gFN (v := .int (nI (PS k).n)) hx hb hown hE hK hP qp3 ep4 rfl layC 3 (by decide) w1348 rfl d_V_parcel_73 ?_
  exact rfI hx hb hr hlk hS () rfl hP hD (Nat.le_of_ble_eq_true rfl) (Nat.le_of_ble_eq_true rfl) d_V_parcel_76
theorem d_V_parcel_86 : decode prog_1_method_44_code 86 = .ok (.aload_n 3, 1) := by decide +kernel
theorem d_V_parcel_87 : decode prog_1_method_44_code 87 = .ok (.getfield 373, 3) := by decide +kernel
theorem d_V_parcel_90 : decode prog_1_method_44_code 90 = .ok (.ireturn, 1) := by decide +kernel
theorem w1349 : Cond.fieldLinkNest "SeriesVault" 373 "SeriesVault$Parcel" "chunks" "I" "SeriesVault" ∈ aW := aw_of (tb_6 (List.mem_of_getElem? (i := 58) rfl)) rfl
set_option maxHeartbeats 4000000 in
set_option maxRecDepth 100000 in
theorem v_parcel_2 (l : Launch) (D : va_G) (dA : Nat → ClassId) (sz : Nat) (h : Nat) (ad : Nat → Nat) (x : VS) (PS : Nat → PT) (k : Nat) (ho : x.powered = true) (hk : k < x.npc) (hps : psOk dA x.nP x.npc x.pl PS) (hpn : x.npc ≤ 32) : Met l ⟨"SeriesVault", "parcel", "(II)I"⟩ [Cond.code ⟨"SeriesVault", "parcel", "(II)I"⟩ prog_1_method_44_code 4 (some FieldType.int)] { frames := 2, cells := 0, slots := 0, locals := 20 } (pC D dA [.ref h, .int (nI k), .int 2] (VW dA h ad x) sz) (va_Qi (fun (r9 : Int32) (u9 : Unit) => r9 = nI (PS k).ch) (fun (u9 : Unit) t9 => bW D (va_A (VW dA h ad x) sz) (VW dA h ad x) t9) (va_A (VW dA h ad x) sz)) 0 0 (va_A (VW dA h ad x) sz) := by
  refine mkC (y := ⟨"SeriesVault", "parcel", "(II)I"⟩) (cc := prog_1_method_44_code) (maxL := 4) (av := [.ref h, .int (nI k), .int 2]) (ws := VW dA h ad x) (sz := sz) (Qc := fun A => va_Qi (fun (r9 : Int32) (u9 : Unit) => r9 = nI (PS k).ch) (fun (u9 : Unit) t9 => bW D A (VW dA h ad x) t9) A) (by decide) (Nat.le_of_ble_eq_true rfl) ?_
  intro A p e s m below meth c ls hsz hB
  obtain ⟨hx, hb, hr, hml, hown, hin, hlk, hE, hK, hP, hD, hS, hA, hN, hl⟩ := hB
  have hown : s.vm.findClass "SeriesVault" = some m.cls := hown
  have hl : lv_has ls 4 [(0, .ref h), (1, .int (nI k)), (2, .int 2)] := hl
  obtain ⟨H, hH⟩ : ∃ z, z = s.heap := ⟨_, rfl⟩
  have hP : va_P D vwCl (VW dA h ad x) H := by rw [hH]; exact hP
  have hS : va_S A s.heap H [] := by rw [hH]; exact hS
  rw [← hH]
  refine lv_aload_n hx hb d_V_parcel_0 rfl (lv_at hl 0 rfl) ?_
  refine jfV (rnV (As := []) (rest := []) hx hb hml hown hE hK (hN _ _ hS) hP hD (v_checkPower l D dA H.size h ad x ho) (q0 := 0) rfl rfl w278 w276 w279 w280 w277 rfl rfl ⟨⟨by decide, by decide⟩, rfl⟩ ⟨(Nat.le_of_ble_eq_true rfl), (Nat.le_of_ble_eq_true rfl)⟩ rfl hl.1 rfl (Nat.le_of_ble_eq_true rfl) d_V_parcel_1 ⟨(Nat.le_of_ble_eq_true rfl), (Nat.le_of_ble_eq_true rfl)⟩) hP hD hS hA (fun u2 H locs hp9 hP hD hS => ?_)
  have hP : va_P D vwCl (VW dA h ad x) H := hP
  have hD : va_D A (VW dA h ad x) := hD
  refine lv_iload_n hx hb d_V_parcel_4 rfl (lv_at hl 1 rfl) ?_
  refine lv_if_lt hx hb d_V_parcel_5 (tgt := 19) rfl (fun h9 => absurd h9 (nI_pos (n := k) (by omega))) (fun _ => ?_)
  refine lv_iload_n hx hb d_V_parcel_8 rfl (lv_at hl 1 rfl) ?_
  refine lv_aload_n hx hb d_V_parcel_9 rfl (lv_at hl 0 rfl) ?_
  refine gF (v := .ref (ad 3)) hx hb hown hE hK hP 0 rfl rfl layV 11 (by decide) w297 rfl d_V_parcel_10 ?_
  refine gFN (v := .int (nI x.npc)) hx hb hown hE hK hP 17 rfl rfl layH 1 (by decide) w303 rfl d_V_parcel_13 ?_
  refine lv_icmp_lt hx hb d_V_parcel_16 (tgt := 27) rfl (fun _ => ?_) (fun h9 => absurd ((nI_ltI (a := k) (b := x.npc) (by omega) (by omega)).mpr hk) h9)
  obtain ⟨pp, ke, hpp, hpk⟩ := hps k (by omega)
  have hpp0 := hpp
  obtain ⟨po, pt, pv, m1, m2, m3, m4⟩ := hpp
  have pk1 := hpk.1
  refine lv_aload_n hx hb d_V_parcel_27 rfl (lv_at hl 0 rfl) ?_
  refine gF (v := .ref (ad 3)) hx hb hown hE hK hP 0 rfl rfl layV 11 (by decide) w297 rfl d_V_parcel_28 ?_
  refine gFN (v := .ref (ad 4)) hx hb hown hE hK hP 17 rfl rfl layH 0 (by decide) w1347 rfl d_V_parcel_31 ?_
  refine lv_iload_n hx hb d_V_parcel_34 rfl (lv_at hl 1 rfl) ?_
  refine nqld (f := x.nP) (n := 32) hx hb hK hP (18) 4 rfl rfl (k) (by omega) (by decide) ke d_V_parcel_35 ?_
  refine lv_astore_n hx hb d_V_parcel_36 rfl hl (by decide) rfl (fun ls hl => ?_)
  have hl : lv_has ls 4 [(3, .ref pp), (0, .ref h), (1, .int (nI k)), (2, .int 2)] := hl
  refine lv_iload_n hx hb d_V_parcel_37 rfl (lv_at hl 3 rfl) ?_
  refine lv_tableIn (x := 2) (off := 48) (tgt := 86) hx hb d_V_parcel_38 (by decide) (by decide) (by decide) rfl ?_
  refine lv_aload_n hx hb d_V_parcel_86 rfl (lv_at hl 0 rfl) ?_
  obtain ⟨qp3, ep4⟩ := plv (dA := dA) (h := h) (ad := ad) (x := x) m1
  refine gFN (v := .int (nI (PS k).ch)) hx hb hown hE hK hP qp3 ep4 rfl layC 4 (by decide) w1349 rfl d_V_parcel_87 ?_
  exact rfI hx hb hr hlk hS () rfl hP hD (Nat.le_of_ble_eq_true rfl) (Nat.le_of_ble_eq_true rfl) d_V_parcel_90
theorem d_V_parcel_91 : decode prog_1_method_44_code 91 = .ok (.aload_n 3, 1) := by decide +kernel
theorem d_V_parcel_92 : decode prog_1_method_44_code 92 = .ok (.getfield 376, 3) := by decide +kernel
theorem d_V_parcel_95 : decode prog_1_method_44_code 95 = .ok (.ireturn, 1) := by decide +kernel
theorem w1350 : Cond.fieldLinkNest "SeriesVault" 376 "SeriesVault$Parcel" "bits" "I" "SeriesVault" ∈ aW := aw_of (tb_6 (List.mem_of_getElem? (i := 60) rfl)) rfl
set_option maxHeartbeats 4000000 in
set_option maxRecDepth 100000 in
theorem v_parcel_3 (l : Launch) (D : va_G) (dA : Nat → ClassId) (sz : Nat) (h : Nat) (ad : Nat → Nat) (x : VS) (PS : Nat → PT) (k : Nat) (ho : x.powered = true) (hk : k < x.npc) (hps : psOk dA x.nP x.npc x.pl PS) (hpn : x.npc ≤ 32) : Met l ⟨"SeriesVault", "parcel", "(II)I"⟩ [Cond.code ⟨"SeriesVault", "parcel", "(II)I"⟩ prog_1_method_44_code 4 (some FieldType.int)] { frames := 2, cells := 0, slots := 0, locals := 20 } (pC D dA [.ref h, .int (nI k), .int 3] (VW dA h ad x) sz) (va_Qi (fun (r9 : Int32) (u9 : Unit) => r9 = nI (PS k).bi) (fun (u9 : Unit) t9 => bW D (va_A (VW dA h ad x) sz) (VW dA h ad x) t9) (va_A (VW dA h ad x) sz)) 0 0 (va_A (VW dA h ad x) sz) := by
  refine mkC (y := ⟨"SeriesVault", "parcel", "(II)I"⟩) (cc := prog_1_method_44_code) (maxL := 4) (av := [.ref h, .int (nI k), .int 3]) (ws := VW dA h ad x) (sz := sz) (Qc := fun A => va_Qi (fun (r9 : Int32) (u9 : Unit) => r9 = nI (PS k).bi) (fun (u9 : Unit) t9 => bW D A (VW dA h ad x) t9) A) (by decide) (Nat.le_of_ble_eq_true rfl) ?_
  intro A p e s m below meth c ls hsz hB
  obtain ⟨hx, hb, hr, hml, hown, hin, hlk, hE, hK, hP, hD, hS, hA, hN, hl⟩ := hB
  have hown : s.vm.findClass "SeriesVault" = some m.cls := hown
  have hl : lv_has ls 4 [(0, .ref h), (1, .int (nI k)), (2, .int 3)] := hl
  obtain ⟨H, hH⟩ : ∃ z, z = s.heap := ⟨_, rfl⟩
  have hP : va_P D vwCl (VW dA h ad x) H := by rw [hH]; exact hP
  have hS : va_S A s.heap H [] := by rw [hH]; exact hS
  rw [← hH]
  refine lv_aload_n hx hb d_V_parcel_0 rfl (lv_at hl 0 rfl) ?_
  refine jfV (rnV (As := []) (rest := []) hx hb hml hown hE hK (hN _ _ hS) hP hD (v_checkPower l D dA H.size h ad x ho) (q0 := 0) rfl rfl w278 w276 w279 w280 w277 rfl rfl ⟨⟨by decide, by decide⟩, rfl⟩ ⟨(Nat.le_of_ble_eq_true rfl), (Nat.le_of_ble_eq_true rfl)⟩ rfl hl.1 rfl (Nat.le_of_ble_eq_true rfl) d_V_parcel_1 ⟨(Nat.le_of_ble_eq_true rfl), (Nat.le_of_ble_eq_true rfl)⟩) hP hD hS hA (fun u2 H locs hp9 hP hD hS => ?_)
  have hP : va_P D vwCl (VW dA h ad x) H := hP
  have hD : va_D A (VW dA h ad x) := hD
  refine lv_iload_n hx hb d_V_parcel_4 rfl (lv_at hl 1 rfl) ?_
  refine lv_if_lt hx hb d_V_parcel_5 (tgt := 19) rfl (fun h9 => absurd h9 (nI_pos (n := k) (by omega))) (fun _ => ?_)
  refine lv_iload_n hx hb d_V_parcel_8 rfl (lv_at hl 1 rfl) ?_
  refine lv_aload_n hx hb d_V_parcel_9 rfl (lv_at hl 0 rfl) ?_
  refine gF (v := .ref (ad 3)) hx hb hown hE hK hP 0 rfl rfl layV 11 (by decide) w297 rfl d_V_parcel_10 ?_
  refine gFN (v := .int (nI x.npc)) hx hb hown hE hK hP 17 rfl rfl layH 1 (by decide) w303 rfl d_V_parcel_13 ?_
  refine lv_icmp_lt hx hb d_V_parcel_16 (tgt := 27) rfl (fun _ => ?_) (fun h9 => absurd ((nI_ltI (a := k) (b := x.npc) (by omega) (by omega)).mpr hk) h9)
  obtain ⟨pp, ke, hpp, hpk⟩ := hps k (by omega)
  have hpp0 := hpp
  obtain ⟨po, pt, pv, m1, m2, m3, m4⟩ := hpp
  have pk1 := hpk.1
  refine lv_aload_n hx hb d_V_parcel_27 rfl (lv_at hl 0 rfl) ?_
  refine gF (v := .ref (ad 3)) hx hb hown hE hK hP 0 rfl rfl layV 11 (by decide) w297 rfl d_V_parcel_28 ?_
  refine gFN (v := .ref (ad 4)) hx hb hown hE hK hP 17 rfl rfl layH 0 (by decide) w1347 rfl d_V_parcel_31 ?_
  refine lv_iload_n hx hb d_V_parcel_34 rfl (lv_at hl 1 rfl) ?_
  refine nqld (f := x.nP) (n := 32) hx hb hK hP (18) 4 rfl rfl (k) (by omega) (by decide) ke d_V_parcel_35 ?_
  refine lv_astore_n hx hb d_V_parcel_36 rfl hl (by decide) rfl (fun ls hl => ?_)
  have hl : lv_has ls 4 [(3, .ref pp), (0, .ref h), (1, .int (nI k)), (2, .int 3)] := hl
  refine lv_iload_n hx hb d_V_parcel_37 rfl (lv_at hl 3 rfl) ?_
  refine lv_tableIn (x := 3) (off := 53) (tgt := 91) hx hb d_V_parcel_38 (by decide) (by decide) (by decide) rfl ?_
  refine lv_aload_n hx hb d_V_parcel_91 rfl (lv_at hl 0 rfl) ?_
  obtain ⟨qp3, ep4⟩ := plv (dA := dA) (h := h) (ad := ad) (x := x) m1
  refine gFN (v := .int (nI (PS k).bi)) hx hb hown hE hK hP qp3 ep4 rfl layC 5 (by decide) w1350 rfl d_V_parcel_92 ?_
  exact rfI hx hb hr hlk hS () rfl hP hD (Nat.le_of_ble_eq_true rfl) (Nat.le_of_ble_eq_true rfl) d_V_parcel_95
theorem d_V_parcel_96 : decode prog_1_method_44_code 96 = .ok (.aload_n 3, 1) := by decide +kernel
theorem d_V_parcel_97 : decode prog_1_method_44_code 97 = .ok (.getfield 326, 3) := by decide +kernel
theorem d_V_parcel_100 : decode prog_1_method_44_code 100 = .ok (.ireturn, 1) := by decide +kernel
set_option maxHeartbeats 4000000 in
set_option maxRecDepth 100000 in
theorem v_parcel_4 (l : Launch) (D : va_G) (dA : Nat → ClassId) (sz : Nat) (h : Nat) (ad : Nat → Nat) (x : VS) (PS : Nat → PT) (k : Nat) (ho : x.powered = true) (hk : k < x.npc) (hps : psOk dA x.nP x.npc x.pl PS) (hpn : x.npc ≤ 32) : Met l ⟨"SeriesVault", "parcel", "(II)I"⟩ [Cond.code ⟨"SeriesVault", "parcel", "(II)I"⟩ prog_1_method_44_code 4 (some FieldType.int)] { frames := 2, cells := 0, slots := 0, locals := 20 } (pC D dA [.ref h, .int (nI k), .int 4] (VW dA h ad x) sz) (va_Qi (fun (r9 : Int32) (u9 : Unit) => r9 = nI (PS k).bl) (fun (u9 : Unit) t9 => bW D (va_A (VW dA h ad x) sz) (VW dA h ad x) t9) (va_A (VW dA h ad x) sz)) 0 0 (va_A (VW dA h ad x) sz) := by
  refine mkC (y := ⟨"SeriesVault", "parcel", "(II)I"⟩) (cc := prog_1_method_44_code) (maxL := 4) (av := [.ref h, .int (nI k), .int 4]) (ws := VW dA h ad x) (sz := sz) (Qc := fun A => va_Qi (fun (r9 : Int32) (u9 : Unit) => r9 = nI (PS k).bl) (fun (u9 : Unit) t9 => bW D A (VW dA h ad x) t9) A) (by decide) (Nat.le_of_ble_eq_true rfl) ?_
  intro A p e s m below meth c ls hsz hB
  obtain ⟨hx, hb, hr, hml, hown, hin, hlk, hE, hK, hP, hD, hS, hA, hN, hl⟩ := hB
  have hown : s.vm.findClass "SeriesVault" = some m.cls := hown
  have hl : lv_has ls 4 [(0, .ref h), (1, .int (nI k)), (2, .int 4)] := hl
  obtain ⟨H, hH⟩ : ∃ z, z = s.heap := ⟨_, rfl⟩
  have hP : va_P D vwCl (VW dA h ad x) H := by rw [hH]; exact hP
  have hS : va_S A s.heap H [] := by rw [hH]; exact hS
  rw [← hH]
  refine lv_aload_n hx hb d_V_parcel_0 rfl (lv_at hl 0 rfl) ?_
  refine jfV (rnV (As := []) (rest := []) hx hb hml hown hE hK (hN _ _ hS) hP hD (v_checkPower l D dA H.size h ad x ho) (q0 := 0) rfl rfl w278 w276 w279 w280 w277 rfl rfl ⟨⟨by decide, by decide⟩, rfl⟩ ⟨(Nat.le_of_ble_eq_true rfl), (Nat.le_of_ble_eq_true rfl)⟩ rfl hl.1 rfl (Nat.le_of_ble_eq_true rfl) d_V_parcel_1 ⟨(Nat.le_of_ble_eq_true rfl), (Nat.le_of_ble_eq_true rfl)⟩) hP hD hS hA (fun u2 H locs hp9 hP hD hS => ?_)
  have hP : va_P D vwCl (VW dA h ad x) H := hP
  have hD : va_D A (VW dA h ad x) := hD
  refine lv_iload_n hx hb d_V_parcel_4 rfl (lv_at hl 1 rfl) ?_
  refine lv_if_lt hx hb d_V_parcel_5 (tgt := 19) rfl (fun h9 => absurd h9 (nI_pos (n := k) (by omega))) (fun _ => ?_)
  refine lv_iload_n hx hb d_V_parcel_8 rfl (lv_at hl 1 rfl) ?_
  refine lv_aload_n hx hb d_V_parcel_9 rfl (lv_at hl 0 rfl) ?_
  refine gF (v := .ref (ad 3)) hx hb hown hE hK hP 0 rfl rfl layV 11 (by decide) w297 rfl d_V_parcel_10 ?_
  refine gFN (v := .int (nI x.npc)) hx hb hown hE hK hP 17 rfl rfl layH 1 (by decide) w303 rfl d_V_parcel_13 ?_
  refine lv_icmp_lt hx hb d_V_parcel_16 (tgt := 27) rfl (fun _ => ?_) (fun h9 => absurd ((nI_ltI (a := k) (b := x.npc) (by omega) (by omega)).mpr hk) h9)
  obtain ⟨pp, ke, hpp, hpk⟩ := hps k (by omega)
  have hpp0 := hpp
  obtain ⟨po, pt, pv, m1, m2, m3, m4⟩ := hpp
  have pk1 := hpk.1
  refine lv_aload_n hx hb d_V_parcel_27 rfl (lv_at hl 0 rfl) ?_
  refine gF (v := .ref (ad 3)) hx hb hown hE hK hP 0 rfl rfl layV 11 (by decide) w297 rfl d_V_parcel_28 ?_
  refine gFN (v := .ref (ad 4)) hx hb hown hE hK hP 17 rfl rfl layH 0 (by decide) w1347 rfl d_V_parcel_31 ?_
  refine lv_iload_n hx hb d_V_parcel_34 rfl (lv_at hl 1 rfl) ?_
  refine nqld (f := x.nP) (n := 32) hx hb hK hP (18) 4 rfl rfl (k) (by omega) (by decide) ke d_V_parcel_35 ?_
  refine lv_astore_n hx hb d_V_parcel_36 rfl hl (by decide) rfl (fun ls hl => ?_)
  have hl : lv_has ls 4 [(3, .ref pp), (0, .ref h), (1, .int (nI k)), (2, .int 4)] := hl
  refine lv_iload_n hx hb d_V_parcel_37 rfl (lv_at hl 3 rfl) ?_
  refine lv_tableIn (x := 4) (off := 58) (tgt := 96) hx hb d_V_parcel_38 (by decide) (by decide) (by decide) rfl ?_
  refine lv_aload_n hx hb d_V_parcel_96 rfl (lv_at hl 0 rfl) ?_
  obtain ⟨qp3, ep4⟩ := plv (dA := dA) (h := h) (ad := ad) (x := x) m1
  refine gFN (v := .int (nI (PS k).bl)) hx hb hown hE hK hP qp3 ep4 rfl layC 6 (by decide) w1249 rfl d_V_parcel_97 ?_
  exact rfI hx hb hr hlk hS () rfl hP hD (Nat.le_of_ble_eq_true rfl) (Nat.le_of_ble_eq_true rfl) d_V_parcel_100
theorem d_V_parcel_77 : decode prog_1_method_44_code 77 = .ok (.aload_n 0, 1) := by decide +kernel
theorem d_V_parcel_78 : decode prog_1_method_44_code 78 = .ok (.getfield 33, 3) := by decide +kernel
theorem d_V_parcel_81 : decode prog_1_method_44_code 81 = .ok (.aload_n 3, 1) := by decide +kernel
theorem d_V_parcel_82 : decode prog_1_method_44_code 82 = .ok (.invokevirtual 370, 3) := by decide +kernel
theorem d_V_parcel_85 : decode prog_1_method_44_code 85 = .ok (.ireturn, 1) := by decide +kernel
theorem w1351 : Cond.methodLink "SeriesVault" 370 ⟨"SeriesVault$Shelf", "countSeenOf", "(LSeriesVault$Parcel;)I"⟩ ∈ aW := aw_of (tb_8 (List.mem_of_getElem? (i := 126) rfl)) rfl
theorem w1352 : Cond.code ⟨"SeriesVault$Shelf", "countSeenOf", "(LSeriesVault$Parcel;)I"⟩ prog_9_method_15_code 2 (some FieldType.int) ∈ aW := aw_of (tb_8 (List.mem_of_getElem? (i := 129) rfl)) rfl
theorem w1353 : Cond.instanceMethod ⟨"SeriesVault$Shelf", "countSeenOf", "(LSeriesVault$Parcel;)I"⟩ ∈ aW := aw_of (tb_8 (List.mem_of_getElem? (i := 127) rfl)) rfl
theorem w1354 : Cond.selects "SeriesVault$Shelf" ⟨"SeriesVault$Shelf", "countSeenOf", "(LSeriesVault$Parcel;)I"⟩ ⟨"SeriesVault$Shelf", "countSeenOf", "(LSeriesVault$Parcel;)I"⟩ ∈ aW := aw_of (tb_8 (List.mem_of_getElem? (i := 128) rfl)) rfl
set_option maxHeartbeats 4000000 in
set_option maxRecDepth 100000 in
theorem v_parcel_1 (l : Launch) (D : va_G) (dA : Nat → ClassId) (sz : Nat) (h : Nat) (ad : Nat → Nat) (x : VS) (PS : Nat → PT) (k : Nat) (ho : x.powered = true) (hk : k < x.npc) (hps : psOk dA x.nP x.npc x.pl PS) (hpn : x.npc ≤ 32) (h1 : x.nsc ≤ 64) (h7 : ∀ q : Nat, q < x.nsc → x.nsO q < 2 ^ 31) : Met l ⟨"SeriesVault", "parcel", "(II)I"⟩ [Cond.code ⟨"SeriesVault", "parcel", "(II)I"⟩ prog_1_method_44_code 4 (some FieldType.int)] { frames := 5, cells := 0, slots := 0, locals := 92 } (pC D dA [.ref h, .int (nI k), .int 1] (VW dA h ad x) sz) (va_Qi (fun (r9 : Int32) (u9 : Unit) => r9 = nI (cnt (PS k).n (x.siPc (PS k) 1099511627775))) (fun (u9 : Unit) t9 => bW D (va_A (VW dA h ad x) sz) (VW dA h ad x) t9) (va_A (VW dA h ad x) sz)) 0 0 (va_A (VW dA h ad x) sz) := by
  refine mkC (y := ⟨"SeriesVault", "parcel", "(II)I"⟩) (cc := prog_1_method_44_code) (maxL := 4) (av := [.ref h, .int (nI k), .int 1]) (ws := VW dA h ad x) (sz := sz) (Qc := fun A => va_Qi (fun (r9 : Int32) (u9 : Unit) => r9 = nI (cnt (PS k).n (x.siPc (PS k) 1099511627775))) (fun (u9 : Unit) t9 => bW D A (VW dA h ad x) t9) A) (by decide) (Nat.le_of_ble_eq_true rfl) ?_
  intro A p e s m below meth c ls hsz hB
  obtain ⟨hx, hb, hr, hml, hown, hin, hlk, hE, hK, hP, hD, hS, hA, hN, hl⟩ := hB
  have hown : s.vm.findClass "SeriesVault" = some m.cls := hown
  have hl : lv_has ls 4 [(0, .ref h), (1, .int (nI k)), (2, .int 1)] := hl
  obtain ⟨H, hH⟩ : ∃ z, z = s.heap := ⟨_, rfl⟩
  have hP : va_P D vwCl (VW dA h ad x) H := by rw [hH]; exact hP
  have hS : va_S A s.heap H [] := by rw [hH]; exact hS
  rw [← hH]
  refine lv_aload_n hx hb d_V_parcel_0 rfl (lv_at hl 0 rfl) ?_
  refine jfV (rnV (As := []) (rest := []) hx hb hml hown hE hK (hN _ _ hS) hP hD (v_checkPower l D dA H.size h ad x ho) (q0 := 0) rfl rfl w278 w276 w279 w280 w277 rfl rfl ⟨⟨by decide, by decide⟩, rfl⟩ ⟨(Nat.le_of_ble_eq_true rfl), (Nat.le_of_ble_eq_true rfl)⟩ rfl hl.1 rfl (Nat.le_of_ble_eq_true rfl) d_V_parcel_1 ⟨(Nat.le_of_ble_eq_true rfl), (Nat.le_of_ble_eq_true rfl)⟩) hP hD hS hA (fun u2 H locs hp9 hP hD hS => ?_)
  have hP : va_P D vwCl (VW dA h ad x) H := hP
  have hD : va_D A (VW dA h ad x) := hD
  refine lv_iload_n hx hb d_V_parcel_4 rfl (lv_at hl 1 rfl) ?_
  refine lv_if_lt hx hb d_V_parcel_5 (tgt := 19) rfl (fun h9 => absurd h9 (nI_pos (n := k) (by omega))) (fun _ => ?_)
  refine lv_iload_n hx hb d_V_parcel_8 rfl (lv_at hl 1 rfl) ?_
  refine lv_aload_n hx hb d_V_parcel_9 rfl (lv_at hl 0 rfl) ?_
  refine gF (v := .ref (ad 3)) hx hb hown hE hK hP 0 rfl rfl layV 11 (by decide) w297 rfl d_V_parcel_10 ?_
  refine gFN (v := .int (nI x.npc)) hx hb hown hE hK hP 17 rfl rfl layH 1 (by decide) w303 rfl d_V_parcel_13 ?_
  refine lv_icmp_lt hx hb d_V_parcel_16 (tgt := 27) rfl (fun _ => ?_) (fun h9 => absurd ((nI_ltI (a := k) (b := x.npc) (by omega) (by omega)).mpr hk) h9)
  obtain ⟨pp, ke, hpp, hpk⟩ := hps k (by omega)
  have hpp0 := hpp
  obtain ⟨po, pt, pv, m1, m2, m3, m4⟩ := hpp
  have pk1 := hpk.1
  refine lv_aload_n hx hb d_V_parcel_27 rfl (lv_at hl 0 rfl) ?_
  refine gF (v := .ref (ad 3)) hx hb hown hE hK hP 0 rfl rfl layV 11 (by decide) w297 rfl d_V_parcel_28 ?_
  refine gFN (v := .ref (ad 4)) hx hb hown hE hK hP 17 rfl rfl layH 0 (by decide) w1347 rfl d_V_parcel_31 ?_
  refine lv_iload_n hx hb d_V_parcel_34 rfl (lv_at hl 1 rfl) ?_
  refine nqld (f := x.nP) (n := 32) hx hb hK hP (18) 4 rfl rfl (k) (by omega) (by decide) ke d_V_parcel_35 ?_
  refine lv_astore_n hx hb d_V_parcel_36 rfl hl (by decide) rfl (fun ls hl => ?_)
  have hl : lv_has ls 4 [(3, .ref pp), (0, .ref h), (1, .int (nI k)), (2, .int 1)] := hl
  refine lv_iload_n hx hb d_V_parcel_37 rfl (lv_at hl 3 rfl) ?_
  refine lv_tableIn (x := 1) (off := 39) (tgt := 77) hx hb d_V_parcel_38 (by decide) (by decide) (by decide) rfl ?_
  refine lv_aload_n hx hb d_V_parcel_77 rfl (lv_at hl 1 rfl) ?_
  refine gF (v := .ref (ad 3)) hx hb hown hE hK hP 0 rfl rfl layV 11 (by decide) w297 rfl d_V_parcel_78 ?_
  refine lv_aload_n hx hb d_V_parcel_81 rfl (lv_at hl 0 rfl) ?_
  refine jfI (rnV (As := [.ref pp]) (rest := []) hx hb hml hown hE hK (hN _ _ hS) hP hD (v_countSeenOf l D dA H.size h ad x pp (PS k) hpp0 hpk (show x.nsc ≤ 64 from by omega) h7) (q0 := 17) rfl rfl w1352 w1351 w1353 w1354 w583 rfl rfl ⟨⟨by decide, by decide⟩, rfl⟩ ⟨(Nat.le_of_ble_eq_true rfl), (Nat.le_of_ble_eq_true rfl)⟩ rfl hl.1 rfl (Nat.le_of_ble_eq_true rfl) d_V_parcel_82 ⟨(Nat.le_of_ble_eq_true rfl), (Nat.le_of_ble_eq_true rfl)⟩) hP hD hS hA (fun r3 u4 H locs hp9 hP hD hS => ?_)
  have hP : va_P D vwCl (VW dA h ad x) H := hP
  have hD : va_D A (VW dA h ad x) := hD
  replace hp9 : nI (cnt (PS k).n (x.siPc (PS k) 1099511627775)) = r3 := Eq.symm hp9
  subst hp9
  exact rfI hx hb hr hlk hS () rfl hP hD (Nat.le_of_ble_eq_true rfl) (Nat.le_of_ble_eq_true rfl) d_V_parcel_85
set_option maxHeartbeats 4000000 in
set_option maxRecDepth 100000 in
theorem v_parcel_x (l : Launch) (htr : l.stackTraces = false) (D : va_G) (dA : Nat → ClassId) (sz : Nat) (h : Nat) (ad : Nat → Nat) (x : VS) (n : Int32) (j : Int32) (ho : x.powered = false) : mX l ⟨"SeriesVault", "parcel", "(II)I"⟩ [Cond.code ⟨"SeriesVault", "parcel", "(II)I"⟩ prog_1_method_44_code 4 (some FieldType.int)] { frames := 7, cells := 1, slots := 6, locals := 101 } (pC D dA [.ref h, .int n, .int j] (VW dA h ad x) sz) "java/lang/IllegalStateException" (fun st9 t9 => va_F (va_A (VW dA h ad x) sz) st9 t9 ∧ bW D (va_A (VW dA h ad x) sz) (VW dA h ad x) t9) 1 6 (va_A (VW dA h ad x) sz) := by
  refine mkX (y := ⟨"SeriesVault", "parcel", "(II)I"⟩) (cc := prog_1_method_44_code) (maxL := 4) (av := [.ref h, .int n, .int j]) (ws := VW dA h ad x) (sz := sz) (B := fun A => (fun st9 t9 => va_F A st9 t9 ∧ bW D A (VW dA h ad x) t9)) (by decide) (Nat.le_of_ble_eq_true rfl) ?_
  intro A p e s m below meth c ls hsz hno hB
  obtain ⟨hx, hb, hr, hml, hown, hin, hlk, hE, hK, hP, hD, hS, hA, hN, hl⟩ := hB
  have hown : s.vm.findClass "SeriesVault" = some m.cls := hown
  have hl : lv_has ls 4 [(0, .ref h), (1, .int n), (2, .int j)] := hl
  obtain ⟨H, hH⟩ : ∃ z, z = s.heap := ⟨_, rfl⟩
  have hP : va_P D vwCl (VW dA h ad x) H := by rw [hH]; exact hP
  have hS : va_S A s.heap H [] := by rw [hH]; exact hS
  rw [← hH]
  refine lv_aload_n hx hb d_V_parcel_0 rfl (lv_at hl 0 rfl) ?_
  refine xfV (w1 := VW dA h ad x) (As := []) (rest := []) hx hb hml hown hE hK (hN _ _ hS) (v_checkPower_x l htr D dA H.size h ad x ho) (q0 := 0) rfl rfl w278 w276 w279 w280 w277 rfl rfl ⟨⟨by decide, by decide⟩, rfl⟩ ⟨(Nat.le_of_ble_eq_true rfl), (Nat.le_of_ble_eq_true rfl)⟩ rfl hl.1 rfl (Nat.le_of_ble_eq_true rfl) d_V_parcel_1 ⟨(Nat.le_of_ble_eq_true rfl), (Nat.le_of_ble_eq_true rfl)⟩ hP hD hS hA (fun xa1 ce H locs hP hD hS hce hcv hcl => ?_)
  exact xOut hno hlk hce hcv hcl (fun t ht => xEndV hP hD hS t (by rw [ht]; exact Nat.le_refl _) (fun q _ => by rw [ht])) hS.2.2 (Nat.le_of_ble_eq_true rfl) (Nat.le_of_ble_eq_true rfl)
set_option maxHeartbeats 4000000 in
set_option maxRecDepth 100000 in
theorem v_parcel_y (l : Launch) (htr : l.stackTraces = false) (D : va_G) (dA : Nat → ClassId) (sz : Nat) (h : Nat) (ad : Nat → Nat) (x : VS) (n : Int32) (j : Int32) (ho : x.powered = true) (h0 : n < 0 ∨ nI x.npc ≤ n) : mX l ⟨"SeriesVault", "parcel", "(II)I"⟩ [Cond.code ⟨"SeriesVault", "parcel", "(II)I"⟩ prog_1_method_44_code 4 (some FieldType.int)] { frames := 6, cells := 1, slots := 6, locals := 81 } (pC D dA [.ref h, .int n, .int j] (VW dA h ad x) sz) "java/lang/IndexOutOfBoundsException" (fun st9 t9 => va_F (va_A (VW dA h ad x) sz) st9 t9 ∧ bW D (va_A (VW dA h ad x) sz) (VW dA h ad x) t9) 1 6 (va_A (VW dA h ad x) sz) := by
  refine mkX (y := ⟨"SeriesVault", "parcel", "(II)I"⟩) (cc := prog_1_method_44_code) (maxL := 4) (av := [.ref h, .int n, .int j]) (ws := VW dA h ad x) (sz := sz) (B := fun A => (fun st9 t9 => va_F A st9 t9 ∧ bW D A (VW dA h ad x) t9)) (by decide) (Nat.le_of_ble_eq_true rfl) ?_
  intro A p e s m below meth c ls hsz hno hB
  obtain ⟨hx, hb, hr, hml, hown, hin, hlk, hE, hK, hP, hD, hS, hA, hN, hl⟩ := hB
  have hown : s.vm.findClass "SeriesVault" = some m.cls := hown
  have hl : lv_has ls 4 [(0, .ref h), (1, .int n), (2, .int j)] := hl
  obtain ⟨H, hH⟩ : ∃ z, z = s.heap := ⟨_, rfl⟩
  have hP : va_P D vwCl (VW dA h ad x) H := by rw [hH]; exact hP
  have hS : va_S A s.heap H [] := by rw [hH]; exact hS
  rw [← hH]
  refine lv_aload_n hx hb d_V_parcel_0 rfl (lv_at hl 0 rfl) ?_
  refine jfV (rnV (As := []) (rest := []) hx hb hml hown hE hK (hN _ _ hS) hP hD (v_checkPower l D dA H.size h ad x ho) (q0 := 0) rfl rfl w278 w276 w279 w280 w277 rfl rfl ⟨⟨by decide, by decide⟩, rfl⟩ ⟨(Nat.le_of_ble_eq_true rfl), (Nat.le_of_ble_eq_true rfl)⟩ rfl hl.1 rfl (Nat.le_of_ble_eq_true rfl) d_V_parcel_1 ⟨(Nat.le_of_ble_eq_true rfl), (Nat.le_of_ble_eq_true rfl)⟩) hP hD hS hA (fun u2 H locs hp9 hP hD hS => ?_)
  have hP : va_P D vwCl (VW dA h ad x) H := hP
  have hD : va_D A (VW dA h ad x) := hD
  refine lv_iload_n hx hb d_V_parcel_4 rfl (lv_at hl 1 rfl) ?_
  refine lv_if_lt hx hb d_V_parcel_5 (tgt := 19) rfl (fun g3 => ?_) (fun g3 => ?_)
  · have g3 := g3
    exact xNew (E := "java/lang/IndexOutOfBoundsException") (names := ["java/lang/RuntimeException", "java/lang/Exception"]) hx hb htr hown (by decide) (by decide) hE w257 w258 (fun U hU => at_V_IOOBE hU) (hN _ _ hS) (hl.1.trans hml.symm) d_V_parcel_19 d_V_parcel_22 d_V_parcel_23 d_V_parcel_26 hno (by decide) (Nat.le_of_ble_eq_true rfl) (Nat.le_of_ble_eq_true rfl) (Nat.le_of_ble_eq_true rfl) hlk (fun t h1 h2 => xEndV hP hD hS t h1 h2) hS.2.2 (Nat.le_of_ble_eq_true rfl) (Nat.le_of_ble_eq_true rfl)
  · have g3 := g3
    refine lv_iload_n hx hb d_V_parcel_8 rfl (lv_at hl 1 rfl) ?_
    refine lv_aload_n hx hb d_V_parcel_9 rfl (lv_at hl 0 rfl) ?_
    refine gF (v := .ref (ad 3)) hx hb hown hE hK hP 0 rfl rfl layV 11 (by decide) w297 rfl d_V_parcel_10 ?_
    refine gFN (v := .int (nI x.npc)) hx hb hown hE hK hP 17 rfl rfl layH 1 (by decide) w303 rfl d_V_parcel_13 ?_
    refine lv_icmp_lt hx hb d_V_parcel_16 (tgt := 27) rfl (fun h9 => absurd h9 (Int32.not_lt.mpr (h0.resolve_left g3))) (fun _ => ?_)
    exact xNew (E := "java/lang/IndexOutOfBoundsException") (names := ["java/lang/RuntimeException", "java/lang/Exception"]) hx hb htr hown (by decide) (by decide) hE w257 w258 (fun U hU => at_V_IOOBE hU) (hN _ _ hS) (hl.1.trans hml.symm) d_V_parcel_19 d_V_parcel_22 d_V_parcel_23 d_V_parcel_26 hno (by decide) (Nat.le_of_ble_eq_true rfl) (Nat.le_of_ble_eq_true rfl) (Nat.le_of_ble_eq_true rfl) hlk (fun t h1 h2 => xEndV hP hD hS t h1 h2) hS.2.2 (Nat.le_of_ble_eq_true rfl) (Nat.le_of_ble_eq_true rfl)
set_option maxHeartbeats 4000000 in
set_option maxRecDepth 100000 in
theorem v_retain_x (l : Launch) (htr : l.stackTraces = false) (D : va_G) (dA : Nat → ClassId) (sz : Nat) (h : Nat) (ad : Nat → Nat) (x : VS) (a : Int64) (ho : x.powered = false) : mX l ⟨"SeriesVault", "retain", "(J)I"⟩ [Cond.code ⟨"SeriesVault", "retain", "(J)I"⟩ prog_1_method_41_code 4 (some FieldType.int)] { frames := 7, cells := 1, slots := 6, locals := 101 } (pC D dA [.ref h, .long a] (VW dA h ad x) sz) "java/lang/IllegalStateException" (fun st9 t9 => va_F (va_A (VW dA h ad x) sz) st9 t9 ∧ bW D (va_A (VW dA h ad x) sz) (VW dA h ad x) t9) 1 6 (va_A (VW dA h ad x) sz) := by
  refine mkX (y := ⟨"SeriesVault", "retain", "(J)I"⟩) (cc := prog_1_method_41_code) (maxL := 4) (av := [.ref h, .long a]) (ws := VW dA h ad x) (sz := sz) (B := fun A => (fun st9 t9 => va_F A st9 t9 ∧ bW D A (VW dA h ad x) t9)) (by decide) (Nat.le_of_ble_eq_true rfl) ?_
  intro A p e s m below meth c ls hsz hno hB
  obtain ⟨hx, hb, hr, hml, hown, hin, hlk, hE, hK, hP, hD, hS, hA, hN, hl⟩ := hB
  have hown : s.vm.findClass "SeriesVault" = some m.cls := hown
  have hl : lv_has ls 4 [(0, .ref h), (1, .long a)] := hl
  obtain ⟨H, hH⟩ : ∃ z, z = s.heap := ⟨_, rfl⟩
  have hP : va_P D vwCl (VW dA h ad x) H := by rw [hH]; exact hP
  have hS : va_S A s.heap H [] := by rw [hH]; exact hS
  rw [← hH]
  refine lv_aload_n hx hb d_V_retain_0 rfl (lv_at hl 0 rfl) ?_
  refine xfV (w1 := VW dA h ad x) (As := []) (rest := []) hx hb hml hown hE hK (hN _ _ hS) (v_checkPower_x l htr D dA H.size h ad x ho) (q0 := 0) rfl rfl w278 w276 w279 w280 w277 rfl rfl ⟨⟨by decide, by decide⟩, rfl⟩ ⟨(Nat.le_of_ble_eq_true rfl), (Nat.le_of_ble_eq_true rfl)⟩ rfl hl.1 rfl (Nat.le_of_ble_eq_true rfl) d_V_retain_1 ⟨(Nat.le_of_ble_eq_true rfl), (Nat.le_of_ble_eq_true rfl)⟩ hP hD hS hA (fun xa1 ce H locs hP hD hS hce hcv hcl => ?_)
  exact xOut hno hlk hce hcv hcl (fun t ht => xEndV hP hD hS t (by rw [ht]; exact Nat.le_refl _) (fun q _ => by rw [ht])) hS.2.2 (Nat.le_of_ble_eq_true rfl) (Nat.le_of_ble_eq_true rfl)
set_option maxHeartbeats 4000000 in
set_option maxRecDepth 100000 in
theorem v_retain_y (l : Launch) (htr : l.stackTraces = false) (D : va_G) (dA : Nat → ClassId) (sz : Nat) (h : Nat) (ad : Nat → Nat) (x : VS) (a : Int64) (ho : x.powered = true) (t0 : isTm a = false ∨ a < x.nhor) : mX l ⟨"SeriesVault", "retain", "(J)I"⟩ [Cond.code ⟨"SeriesVault", "retain", "(J)I"⟩ prog_1_method_41_code 4 (some FieldType.int)] { frames := 6, cells := 1, slots := 6, locals := 81 } (pC D dA [.ref h, .long a] (VW dA h ad x) sz) "java/lang/IllegalArgumentException" (fun st9 t9 => va_F (va_A (VW dA h ad x) sz) st9 t9 ∧ bW D (va_A (VW dA h ad x) sz) (VW dA h ad x) t9) 1 6 (va_A (VW dA h ad x) sz) := by
  refine mkX (y := ⟨"SeriesVault", "retain", "(J)I"⟩) (cc := prog_1_method_41_code) (maxL := 4) (av := [.ref h, .long a]) (ws := VW dA h ad x) (sz := sz) (B := fun A => (fun st9 t9 => va_F A st9 t9 ∧ bW D A (VW dA h ad x) t9)) (by decide) (Nat.le_of_ble_eq_true rfl) ?_
  intro A p e s m below meth c ls hsz hno hB
  obtain ⟨hx, hb, hr, hml, hown, hin, hlk, hE, hK, hP, hD, hS, hA, hN, hl⟩ := hB
  have hown : s.vm.findClass "SeriesVault" = some m.cls := hown
  have hl : lv_has ls 4 [(0, .ref h), (1, .long a)] := hl
  obtain ⟨H, hH⟩ : ∃ z, z = s.heap := ⟨_, rfl⟩
  have hP : va_P D vwCl (VW dA h ad x) H := by rw [hH]; exact hP
  have hS : va_S A s.heap H [] := by rw [hH]; exact hS
  rw [← hH]
  refine lv_aload_n hx hb d_V_retain_0 rfl (lv_at hl 0 rfl) ?_
  refine jfV (rnV (As := []) (rest := []) hx hb hml hown hE hK (hN _ _ hS) hP hD (v_checkPower l D dA H.size h ad x ho) (q0 := 0) rfl rfl w278 w276 w279 w280 w277 rfl rfl ⟨⟨by decide, by decide⟩, rfl⟩ ⟨(Nat.le_of_ble_eq_true rfl), (Nat.le_of_ble_eq_true rfl)⟩ rfl hl.1 rfl (Nat.le_of_ble_eq_true rfl) d_V_retain_1 ⟨(Nat.le_of_ble_eq_true rfl), (Nat.le_of_ble_eq_true rfl)⟩) hP hD hS hA (fun u2 H locs hp9 hP hD hS => ?_)
  have hP : va_P D vwCl (VW dA h ad x) H := hP
  have hD : va_D A (VW dA h ad x) := hD
  refine lv_lload_n hx hb d_V_retain_4 rfl (lv_at hl 1 rfl) ?_
  have hPc := hP.sub (ws' := []) [] rfl
  have hDc := hD.sub (ws' := []) [] (by decide) rfl
  refine jpI (rnS (As := [.long a]) (rest := []) hx hb hml hown hE hK (hN _ _ hS) hPc hDc (v_isTime l D dA H.size a) w693 w692 w694 w277 rfl rfl ⟨⟨by decide, by decide⟩, rfl⟩ ⟨(Nat.le_of_ble_eq_true rfl), (Nat.le_of_ble_eq_true rfl)⟩ rfl hl.1 rfl (Nat.le_of_ble_eq_true rfl) d_V_retain_5 ⟨(Nat.le_of_ble_eq_true rfl), (Nat.le_of_ble_eq_true rfl)⟩) hP hD hS hA (fun r3 u9 H locs hp9 hP hD hS => ?_)
  have hP : va_P D vwCl (VW dA h ad x) H := hP
  have hD : va_D A (VW dA h ad x) := hD
  replace hp9 : bI (isTm a) = r3 := Eq.symm hp9
  subst hp9
  refine lv_if_eq hx hb d_V_retain_8 (tgt := 23) rfl (fun g5 => ?_) (fun g5 => ?_)
  · have g5 := bI_0 g5
    exact xNew (E := "java/lang/IllegalArgumentException") (names := ["java/lang/RuntimeException", "java/lang/Exception"]) hx hb htr hown (by decide) (by decide) hE w273 w274 (fun U hU => at_V_IAE hU) (hN _ _ hS) (hl.1.trans hml.symm) d_V_retain_23 d_V_retain_26 d_V_retain_27 d_V_retain_30 hno (by decide) (Nat.le_of_ble_eq_true rfl) (Nat.le_of_ble_eq_true rfl) (Nat.le_of_ble_eq_true rfl) hlk (fun t h1 h2 => xEndV hP hD hS t h1 h2) hS.2.2 (Nat.le_of_ble_eq_true rfl) (Nat.le_of_ble_eq_true rfl)
  · have g5 := bI_n0 g5
    refine lv_lload_n hx hb d_V_retain_11 rfl (lv_at hl 1 rfl) ?_
    refine lv_aload_n hx hb d_V_retain_12 rfl (lv_at hl 0 rfl) ?_
    refine gF (v := .ref (ad 3)) hx hb hown hE hK hP 0 rfl rfl layV 11 (by decide) w297 rfl d_V_retain_13 ?_
    refine gFN (v := .long x.nhor) hx hb hown hE hK hP 17 rfl rfl layH 7 (by decide) w710 rfl d_V_retain_16 ?_
    refine W.lcmp hx hb d_V_retain_19 ?_
    refine lv_if_ge hx hb d_V_retain_20 (tgt := 31) rfl (fun h9 => absurd h9 (mt (lg_cmp_ge _ _).mp (Int64.not_le.mpr (t0.resolve_left (by rw [g5]; decide))))) (fun _ => ?_)
    exact xNew (E := "java/lang/IllegalArgumentException") (names := ["java/lang/RuntimeException", "java/lang/Exception"]) hx hb htr hown (by decide) (by decide) hE w273 w274 (fun U hU => at_V_IAE hU) (hN _ _ hS) (hl.1.trans hml.symm) d_V_retain_23 d_V_retain_26 d_V_retain_27 d_V_retain_30 hno (by decide) (Nat.le_of_ble_eq_true rfl) (Nat.le_of_ble_eq_true rfl) (Nat.le_of_ble_eq_true rfl) hlk (fun t h1 h2 => xEndV hP hD hS t h1 h2) hS.2.2 (Nat.le_of_ble_eq_true rfl) (Nat.le_of_ble_eq_true rfl)
set_option maxHeartbeats 4000000 in
set_option maxRecDepth 100000 in
theorem v_retain_0 (l : Launch) (D : va_G) (dA : Nat → ClassId) (sz : Nat) (h : Nat) (ad : Nat → Nat) (x : VS) (a : Int64) (ho : x.powered = true) (t1 : isTm a = true) (te : a = x.nhor) : Met l ⟨"SeriesVault", "retain", "(J)I"⟩ [Cond.code ⟨"SeriesVault", "retain", "(J)I"⟩ prog_1_method_41_code 4 (some FieldType.int)] { frames := 2, cells := 0, slots := 0, locals := 21 } (pC D dA [.ref h, .long a] (VW dA h ad x) sz) (va_Qi (fun (r9 : Int32) (u9 : Unit) => r9 = 0) (fun (u9 : Unit) t9 => bW D (va_A (VW dA h ad x) sz) (VW dA h ad x) t9) (va_A (VW dA h ad x) sz)) 0 0 (va_A (VW dA h ad x) sz) := by
  refine mkC (y := ⟨"SeriesVault", "retain", "(J)I"⟩) (cc := prog_1_method_41_code) (maxL := 4) (av := [.ref h, .long a]) (ws := VW dA h ad x) (sz := sz) (Qc := fun A => va_Qi (fun (r9 : Int32) (u9 : Unit) => r9 = 0) (fun (u9 : Unit) t9 => bW D A (VW dA h ad x) t9) A) (by decide) (Nat.le_of_ble_eq_true rfl) ?_
  intro A p e s m below meth c ls hsz hB
  obtain ⟨hx, hb, hr, hml, hown, hin, hlk, hE, hK, hP, hD, hS, hA, hN, hl⟩ := hB
  have hown : s.vm.findClass "SeriesVault" = some m.cls := hown
  have hl : lv_has ls 4 [(0, .ref h), (1, .long a)] := hl
  obtain ⟨H, hH⟩ : ∃ z, z = s.heap := ⟨_, rfl⟩
  have hP : va_P D vwCl (VW dA h ad x) H := by rw [hH]; exact hP
  have hS : va_S A s.heap H [] := by rw [hH]; exact hS
  rw [← hH]
  refine lv_aload_n hx hb d_V_retain_0 rfl (lv_at hl 0 rfl) ?_
  refine jfV (rnV (As := []) (rest := []) hx hb hml hown hE hK (hN _ _ hS) hP hD (v_checkPower l D dA H.size h ad x ho) (q0 := 0) rfl rfl w278 w276 w279 w280 w277 rfl rfl ⟨⟨by decide, by decide⟩, rfl⟩ ⟨(Nat.le_of_ble_eq_true rfl), (Nat.le_of_ble_eq_true rfl)⟩ rfl hl.1 rfl (Nat.le_of_ble_eq_true rfl) d_V_retain_1 ⟨(Nat.le_of_ble_eq_true rfl), (Nat.le_of_ble_eq_true rfl)⟩) hP hD hS hA (fun u2 H locs hp9 hP hD hS => ?_)
  have hP : va_P D vwCl (VW dA h ad x) H := hP
  have hD : va_D A (VW dA h ad x) := hD
  refine lv_lload_n hx hb d_V_retain_4 rfl (lv_at hl 1 rfl) ?_
  have hPc := hP.sub (ws' := []) [] rfl
  have hDc := hD.sub (ws' := []) [] (by decide) rfl
  refine jpI (rnS (As := [.long a]) (rest := []) hx hb hml hown hE hK (hN _ _ hS) hPc hDc (v_isTime l D dA H.size a) w693 w692 w694 w277 rfl rfl ⟨⟨by decide, by decide⟩, rfl⟩ ⟨(Nat.le_of_ble_eq_true rfl), (Nat.le_of_ble_eq_true rfl)⟩ rfl hl.1 rfl (Nat.le_of_ble_eq_true rfl) d_V_retain_5 ⟨(Nat.le_of_ble_eq_true rfl), (Nat.le_of_ble_eq_true rfl)⟩) hP hD hS hA (fun r3 u9 H locs hp9 hP hD hS => ?_)
  have hP : va_P D vwCl (VW dA h ad x) H := hP
  have hD : va_D A (VW dA h ad x) := hD
  replace hp9 : bI (isTm a) = r3 := Eq.symm hp9
  subst hp9
  refine lv_if_eq hx hb d_V_retain_8 (tgt := 23) rfl (fun h9 => absurd h9 (by rw [t1]; decide)) (fun _ => ?_)
  refine lv_lload_n hx hb d_V_retain_11 rfl (lv_at hl 1 rfl) ?_
  refine lv_aload_n hx hb d_V_retain_12 rfl (lv_at hl 0 rfl) ?_
  refine gF (v := .ref (ad 3)) hx hb hown hE hK hP 0 rfl rfl layV 11 (by decide) w297 rfl d_V_retain_13 ?_
  refine gFN (v := .long x.nhor) hx hb hown hE hK hP 17 rfl rfl layH 7 (by decide) w710 rfl d_V_retain_16 ?_
  refine W.lcmp hx hb d_V_retain_19 ?_
  refine lv_if_ge hx hb d_V_retain_20 (tgt := 31) rfl (fun _ => ?_) (fun h9 => absurd ((lg_cmp_ge _ _).mpr (by rw [te]; exact Int64.le_refl _)) h9)
  refine lv_lload_n hx hb d_V_retain_31 rfl (lv_at hl 1 rfl) ?_
  refine lv_aload_n hx hb d_V_retain_32 rfl (lv_at hl 0 rfl) ?_
  refine gF (v := .ref (ad 3)) hx hb hown hE hK hP 0 rfl rfl layV 11 (by decide) w297 rfl d_V_retain_33 ?_
  refine gFN (v := .long x.nhor) hx hb hown hE hK hP 17 rfl rfl layH 7 (by decide) w710 rfl d_V_retain_36 ?_
  refine W.lcmp hx hb d_V_retain_39 ?_
  refine lv_if_ne hx hb d_V_retain_40 (tgt := 45) rfl (fun h9 => absurd ((lg_cmp_eq _ _).mpr te) h9) (fun _ => ?_)
  refine lv_iconst (v := 0) hx hb d_V_retain_43 (by decide) ?_
  exact rfI hx hb hr hlk hS () rfl hP hD (Nat.le_of_ble_eq_true rfl) (Nat.le_of_ble_eq_true rfl) d_V_retain_44
