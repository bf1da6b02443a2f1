section
theorem sum_le {f : Nat → Nat} {b : Nat} : ∀ {n : Nat}, (∀ k, k < n → f k ≤ b) → sumN n f ≤ b * n
  | 0, _ => Nat.le_refl _
  | n + 1, h => by
    have h1 := sum_le (n := n) (fun k hk => h k (by omega))
    have h2 := h n (by omega)
    show sumN n f + f n ≤ _
    rw [Nat.mul_succ]
    omega
theorem so_le {dA : Nat → ClassId} {x : VS} {PS : Nat → PT} {w : Nat} {a b : Int64} (hps : psOk dA x.nP x.npc x.pl PS) (hpn : x.npc ≤ 32) : sumN x.npc (x.soN PS w a b) ≤ 384000 := by
  have h := sum_le (f := x.soN PS w a b) (b := 12000) (n := x.npc) (fun k hk => by
    obtain ⟨pp, -, -, hk1⟩ := hps k hk
    exact Nat.le_trans (cnt_le _ _) hk1.1)
  omega
theorem sb_le {dA : Nat → ClassId} {x : VS} {PS : Nat → PT} {a : Int64} (hps : psOk dA x.nP x.npc x.pl PS) (hpn : x.npc ≤ 32) : sumN x.npc (x.sbN PS a) ≤ 384000 := by
  have h := sum_le (f := x.sbN PS a) (b := 12000) (n := x.npc) (fun k hk => by
    obtain ⟨pp, -, -, hk1⟩ := hps k hk
    exact Nat.le_trans (cnt_le _ _) hk1.1)
  omega
def VS.dwS (x : VS) (w : Nat) (a b : Int64) : VS := VS.s_hsize (VS.s_hV (VS.s_hT (VS.s_hO x (tdT (x.hWn w a b) x.hO x.hsize)) (tdT (x.hWn w a b) x.hT x.hsize)) (tdT (x.hWn w a b) x.hV x.hsize)) (cnt x.hsize (x.hWn w a b))
def VS.asS (x : VS) (w : Nat) (a b : Int64) : VS := VS.s_nsc (VS.s_nsT (VS.s_nsF (VS.s_nsO x (va_up x.nsO x.nsc w)) (va_up x.nsF x.nsc (maxL a x.nhor))) (va_up x.nsT x.nsc (minL b (x.nlast w)))) (x.nsc + 1)
theorem d_V_letGo_0 : decode prog_1_method_35_code 0 = .ok (.aload_n 0, 1) := by decide +kernel
theorem d_V_letGo_1 : decode prog_1_method_35_code 1 = .ok (.getfield 33, 3) := by decide +kernel
theorem d_V_letGo_4 : decode prog_1_method_35_code 4 = .ok (.iload_n 1, 1) := by decide +kernel
theorem d_V_letGo_5 : decode prog_1_method_35_code 5 = .ok (.lload_n 2, 1) := by decide +kernel
theorem d_V_letGo_6 : decode prog_1_method_35_code 6 = .ok (.lload 4, 2) := by decide +kernel
theorem d_V_letGo_8 : decode prog_1_method_35_code 8 = .ok (.invokevirtual 278, 3) := by decide +kernel
theorem d_V_letGo_11 : decode prog_1_method_35_code 11 = .ok (.ifCond .le 14, 3) := by decide +kernel
theorem d_V_letGo_25 : decode prog_1_method_35_code 25 = .ok (.aload_n 0, 1) := by decide +kernel
theorem d_V_letGo_26 : decode prog_1_method_35_code 26 = .ok (.getfield 23, 3) := by decide +kernel
theorem d_V_letGo_29 : decode prog_1_method_35_code 29 = .ok (.iload_n 1, 1) := by decide +kernel
theorem d_V_letGo_30 : decode prog_1_method_35_code 30 = .ok (.lload_n 2, 1) := by decide +kernel
theorem d_V_letGo_31 : decode prog_1_method_35_code 31 = .ok (.lload 4, 2) := by decide +kernel
theorem d_V_letGo_33 : decode prog_1_method_35_code 33 = .ok (.invokevirtual 291, 3) := by decide +kernel
theorem d_V_letGo_36 : decode prog_1_method_35_code 36 = .ok (.return_, 1) := by decide +kernel
theorem w1335 : Cond.methodLink "SeriesVault" 278 ⟨"SeriesVault$Shelf", "countSeen", "(IJJ)I"⟩ ∈ aW := aw_of (tb_5 (List.mem_of_getElem? (i := 181) rfl)) rfl
theorem w1336 : Cond.code ⟨"SeriesVault$Shelf", "countSeen", "(IJJ)I"⟩ prog_9_method_19_code 8 (some FieldType.int) ∈ aW := aw_of (tb_5 (List.mem_of_getElem? (i := 184) rfl)) rfl
theorem w1337 : Cond.instanceMethod ⟨"SeriesVault$Shelf", "countSeen", "(IJJ)I"⟩ ∈ aW := aw_of (tb_5 (List.mem_of_getElem? (i := 182) rfl)) rfl
theorem w1338 : Cond.selects "SeriesVault$Shelf" ⟨"SeriesVault$Shelf", "countSeen", "(IJJ)I"⟩ ⟨"SeriesVault$Shelf", "countSeen", "(IJJ)I"⟩ ∈ aW := aw_of (tb_5 (List.mem_of_getElem? (i := 183) rfl)) rfl
theorem w1339 : Cond.methodLink "SeriesVault" 291 ⟨"SeriesVault$Points", "dropWithin", "(IJJ)V"⟩ ∈ aW := aw_of (tb_5 (List.mem_of_getElem? (i := 219) rfl)) rfl
theorem w1340 : Cond.code ⟨"SeriesVault$Points", "dropWithin", "(IJJ)V"⟩ prog_5_method_7_code 8 none ∈ aW := aw_of (tb_5 (List.mem_of_getElem? (i := 222) rfl)) rfl
theorem w1341 : Cond.instanceMethod ⟨"SeriesVault$Points", "dropWithin", "(IJJ)V"⟩ ∈ aW := aw_of (tb_5 (List.mem_of_getElem? (i := 220) rfl)) rfl
theorem w1342 : Cond.selects "SeriesVault$Points" ⟨"SeriesVault$Points", "dropWithin", "(IJJ)V"⟩ ⟨"SeriesVault$Points", "dropWithin", "(IJJ)V"⟩ ∈ aW := aw_of (tb_5 (List.mem_of_getElem? (i := 221) rfl)) rfl
set_option maxHeartbeats 4000000 in
set_option maxRecDepth 100000 in
theorem v_letGo_0 (l : Launch) (D : va_G) (dA : Nat → ClassId) (sz : Nat) (h : Nat) (ad : Nat → Nat) (x : VS) (PS : Nat → PT) (w : Nat) (a : Int64) (b : Int64) (hps : psOk dA x.nP x.npc x.pl PS) (hpn : x.npc ≤ 32) (h1 : x.nsc ≤ 64) (h7 : ∀ q : Nat, q < x.nsc → x.nsO q < 2 ^ 31) (h0 : x.hsize ≤ x.hN) (h9 : x.hN ≤ 65536) (hw : w < 256) (hh7 : ∀ q : Nat, q < x.hsize → x.hO q < 2 ^ 31) (hz : sumN x.npc (x.soN PS w a b) = 0) : Met l ⟨"SeriesVault", "letGo", "(IJJ)V"⟩ [Cond.code ⟨"SeriesVault", "letGo", "(IJJ)V"⟩ prog_1_method_35_code 6 none] { frames := 5, cells := 0, slots := 0, locals := 103 } (pC D dA [.ref h, .int (nI w), .long a, .long b] (VW dA h ad x) sz) (va_Qv (fun (u9 : Unit) => True) (fun (u9 : Unit) t9 => bW D (va_A (VW dA h ad x) sz) (VW dA h ad (VS.s_hsize (VS.s_hV (VS.s_hT (VS.s_hO x (tdT (x.hWn w a b) x.hO x.hsize)) (tdT (x.hWn w a b) x.hT x.hsize)) (tdT (x.hWn w a b) x.hV x.hsize)) (cnt x.hsize (x.hWn w a b)))) t9) (va_A (VW dA h ad x) sz)) 0 0 (va_A (VW dA h ad x) sz) := by
  refine mkC (y := ⟨"SeriesVault", "letGo", "(IJJ)V"⟩) (cc := prog_1_method_35_code) (maxL := 6) (av := [.ref h, .int (nI w), .long a, .long b]) (ws := VW dA h ad x) (sz := sz) (Qc := fun A => va_Qv (fun (u9 : Unit) => True) (fun (u9 : Unit) t9 => bW D A (VW dA h ad (VS.s_hsize (VS.s_hV (VS.s_hT (VS.s_hO x (tdT (x.hWn w a b) x.hO x.hsize)) (tdT (x.hWn w a b) x.hT x.hsize)) (tdT (x.hWn w a b) x.hV x.hsize)) (cnt x.hsize (x.hWn w a b)))) t9) A) (by decide) (Nat.le_of_ble_eq_true rfl) ?_
  intro A p e s m below meth c ls hsz hB
  obtain ⟨hx, hb, hr, hml, hown, hin, hlk, hE, hK, hP, hD, hS, hA, hN, hl⟩ := hB
  have hown : s.vm.findClass "SeriesVault" = some m.cls := hown
  have hl : lv_has ls 6 [(0, .ref h), (1, .int (nI w)), (2, .long a), (4, .long b)] := hl
  obtain ⟨H, hH⟩ : ∃ z, z = s.heap := ⟨_, rfl⟩
  have hP : va_P D vwCl (VW dA h ad x) H := by rw [hH]; exact hP
  have hS : va_S A s.heap H [] := by rw [hH]; exact hS
  rw [← hH]
  refine lv_aload_n hx hb d_V_letGo_0 rfl (lv_at hl 0 rfl) ?_
  refine gF (v := .ref (ad 3)) hx hb hown hE hK hP 0 rfl rfl layV 11 (by decide) w297 rfl d_V_letGo_1 ?_
  refine lv_iload_n hx hb d_V_letGo_4 rfl (lv_at hl 1 rfl) ?_
  refine lv_lload_n hx hb d_V_letGo_5 rfl (lv_at hl 2 rfl) ?_
  refine lv_lload hx hb d_V_letGo_6 (lv_at hl 3 rfl) ?_
  refine jfI (rnV (As := [.int (nI w), .long a, .long b]) (rest := []) hx hb hml hown hE hK (hN _ _ hS) hP hD (v_countSeen l D dA H.size h ad x PS w a b hps (show x.npc ≤ 32 from by omega) (show x.nsc ≤ 64 from by omega) h7 (show w < 256 from by omega)) (q0 := 17) rfl rfl w1336 w1335 w1337 w1338 w583 rfl rfl ⟨⟨by decide, by decide⟩, rfl⟩ ⟨(Nat.le_of_ble_eq_true rfl), (Nat.le_of_ble_eq_true rfl)⟩ rfl hl.1 rfl (Nat.le_of_ble_eq_true rfl) d_V_letGo_8 ⟨(Nat.le_of_ble_eq_true rfl), (Nat.le_of_ble_eq_true rfl)⟩) hP hD hS hA (fun r1 u2 H locs hp9 hP hD hS => ?_)
  have hP : va_P D vwCl (VW dA h ad x) H := hP
  have hD : va_D A (VW dA h ad x) := hD
  replace hp9 : nI (sumN x.npc (x.soN PS w a b)) = r1 := Eq.symm hp9
  subst hp9
  have so := so_le (w := w) (a := a) (b := b) hps hpn
  refine lv_if_le hx hb d_V_letGo_11 (tgt := 25) rfl (fun g3 => ?_) (fun g3 => ?_)
  rotate_left
  · have g3 := mt (nI_leI (a := sumN x.npc (x.soN PS w a b)) (b := 0) (by omega) (by decide)).mpr g3; exfalso; omega
  have g3 := (nI_leI (a := sumN x.npc (x.soN PS w a b)) (b := 0) (by omega) (by decide)).mp g3
  refine lv_aload_n hx hb d_V_letGo_25 rfl (lv_at hl 0 rfl) ?_
  refine gF (v := .ref (ad 1)) hx hb hown hE hK hP 0 rfl rfl layV 9 (by decide) w576 rfl d_V_letGo_26 ?_
  refine lv_iload_n hx hb d_V_letGo_29 rfl (lv_at hl 1 rfl) ?_
  refine lv_lload_n hx hb d_V_letGo_30 rfl (lv_at hl 2 rfl) ?_
  refine lv_lload hx hb d_V_letGo_31 (lv_at hl 3 rfl) ?_
  refine jfV (rnV (As := [.int (nI w), .long a, .long b]) (rest := []) hx hb hml hown hE hK (hN _ _ hS) hP hD (v_dropWithin l D dA H.size h ad x w a b (show x.hsize ≤ x.hN from by omega) (show x.hN ≤ 65536 from by omega) (show w < 2 ^ 31 from by omega) hh7) (q0 := 9) rfl rfl w1340 w1339 w1341 w1342 w578 rfl rfl ⟨⟨by decide, by decide⟩, rfl⟩ ⟨(Nat.le_of_ble_eq_true rfl), (Nat.le_of_ble_eq_true rfl)⟩ rfl hl.1 rfl (Nat.le_of_ble_eq_true rfl) d_V_letGo_33 ⟨(Nat.le_of_ble_eq_true rfl), (Nat.le_of_ble_eq_true rfl)⟩) hP hD hS hA (fun u5 H locs hp9 hP hD hS => ?_)
  have hP : va_P D vwCl (VW dA h ad (VS.s_hsize (VS.s_hV (VS.s_hT (VS.s_hO x (tdT (x.hWn w a b) x.hO x.hsize)) (tdT (x.hWn w a b) x.hT x.hsize)) (tdT (x.hWn w a b) x.hV x.hsize)) (cnt x.hsize (x.hWn w a b)))) H := hP
  have hD : va_D A (VW dA h ad (VS.s_hsize (VS.s_hV (VS.s_hT (VS.s_hO x (tdT (x.hWn w a b) x.hO x.hsize)) (tdT (x.hWn w a b) x.hT x.hsize)) (tdT (x.hWn w a b) x.hV x.hsize)) (cnt x.hsize (x.hWn w a b)))) := hD
  exact rfV hx hb hr hlk hS () trivial hP hD (Nat.le_of_ble_eq_true rfl) (Nat.le_of_ble_eq_true rfl) d_V_letGo_36
theorem d_V_letGo_14 : decode prog_1_method_35_code 14 = .ok (.aload_n 0, 1) := by decide +kernel
theorem d_V_letGo_15 : decode prog_1_method_35_code 15 = .ok (.getfield 33, 3) := by decide +kernel
theorem d_V_letGo_18 : decode prog_1_method_35_code 18 = .ok (.iload_n 1, 1) := by decide +kernel
theorem d_V_letGo_19 : decode prog_1_method_35_code 19 = .ok (.lload_n 2, 1) := by decide +kernel
theorem d_V_letGo_20 : decode prog_1_method_35_code 20 = .ok (.lload 4, 2) := by decide +kernel
theorem d_V_letGo_22 : decode prog_1_method_35_code 22 = .ok (.invokevirtual 288, 3) := by decide +kernel
theorem w1343 : Cond.methodLink "SeriesVault" 288 ⟨"SeriesVault$Shelf", "addScar", "(IJJ)V"⟩ ∈ aW := aw_of (tb_5 (List.mem_of_getElem? (i := 209) rfl)) rfl
theorem w1344 : Cond.code ⟨"SeriesVault$Shelf", "addScar", "(IJJ)V"⟩ prog_9_method_10_code 6 none ∈ aW := aw_of (tb_5 (List.mem_of_getElem? (i := 212) rfl)) rfl
theorem w1345 : Cond.instanceMethod ⟨"SeriesVault$Shelf", "addScar", "(IJJ)V"⟩ ∈ aW := aw_of (tb_5 (List.mem_of_getElem? (i := 210) rfl)) rfl
theorem w1346 : Cond.selects "SeriesVault$Shelf" ⟨"SeriesVault$Shelf", "addScar", "(IJJ)V"⟩ ⟨"SeriesVault$Shelf", "addScar", "(IJJ)V"⟩ ∈ aW := aw_of (tb_5 (List.mem_of_getElem? (i := 211) rfl)) rfl
set_option maxHeartbeats 4000000 in
set_option maxRecDepth 100000 in
theorem v_letGo_1 (l : Launch) (D : va_G) (dA : Nat → ClassId) (sz : Nat) (h : Nat) (ad : Nat → Nat) (x : VS) (PS : Nat → PT) (w : Nat) (a : Int64) (b : Int64) (hps : psOk dA x.nP x.npc x.pl PS) (hpn : x.npc ≤ 32) (h1 : x.nsc ≤ 64) (h7 : ∀ q : Nat, q < x.nsc → x.nsO q < 2 ^ 31) (h0 : x.hsize ≤ x.hN) (h9 : x.hN ≤ 65536) (hw : w < 256) (hh7 : ∀ q : Nat, q < x.hsize → x.hO q < 2 ^ 31) (hz : 0 < sumN x.npc (x.soN PS w a b)) (hsc : x.nsc < 64) : Met l ⟨"SeriesVault", "letGo", "(IJJ)V"⟩ [Cond.code ⟨"SeriesVault", "letGo", "(IJJ)V"⟩ prog_1_method_35_code 6 none] { frames := 5, cells := 0, slots := 0, locals := 103 } (pC D dA [.ref h, .int (nI w), .long a, .long b] (VW dA h ad x) sz) (va_Qv (fun (u9 : Unit) => True) (fun (u9 : Unit) t9 => bW D (va_A (VW dA h ad x) sz) (VW dA h ad (VS.s_nsc (VS.s_nsT (VS.s_nsF (VS.s_nsO (VS.s_hsize (VS.s_hV (VS.s_hT (VS.s_hO x (tdT (x.hWn w a b) x.hO x.hsize)) (tdT (x.hWn w a b) x.hT x.hsize)) (tdT (x.hWn w a b) x.hV x.hsize)) (cnt x.hsize (x.hWn w a b))) (va_up x.nsO x.nsc w)) (va_up x.nsF x.nsc (maxL a x.nhor))) (va_up x.nsT x.nsc (minL b (x.nlast w)))) (x.nsc + 1))) t9) (va_A (VW dA h ad x) sz)) 0 0 (va_A (VW dA h ad x) sz) := by
  refine mkC (y := ⟨"SeriesVault", "letGo", "(IJJ)V"⟩) (cc := prog_1_method_35_code) (maxL := 6) (av := [.ref h, .int (nI w), .long a, .long b]) (ws := VW dA h ad x) (sz := sz) (Qc := fun A => va_Qv (fun (u9 : Unit) => True) (fun (u9 : Unit) t9 => bW D A (VW dA h ad (VS.s_nsc (VS.s_nsT (VS.s_nsF (VS.s_nsO (VS.s_hsize (VS.s_hV (VS.s_hT (VS.s_hO x (tdT (x.hWn w a b) x.hO x.hsize)) (tdT (x.hWn w a b) x.hT x.hsize)) (tdT (x.hWn w a b) x.hV x.hsize)) (cnt x.hsize (x.hWn w a b))) (va_up x.nsO x.nsc w)) (va_up x.nsF x.nsc (maxL a x.nhor))) (va_up x.nsT x.nsc (minL b (x.nlast w)))) (x.nsc + 1))) t9) A) (by decide) (Nat.le_of_ble_eq_true rfl) ?_
  intro A p e s m below meth c ls hsz hB
  obtain ⟨hx, hb, hr, hml, hown, hin, hlk, hE, hK, hP, hD, hS, hA, hN, hl⟩ := hB
  have hown : s.vm.findClass "SeriesVault" = some m.cls := hown
  have hl : lv_has ls 6 [(0, .ref h), (1, .int (nI w)), (2, .long a), (4, .long b)] := hl
  obtain ⟨H, hH⟩ : ∃ z, z = s.heap := ⟨_, rfl⟩
  have hP : va_P D vwCl (VW dA h ad x) H := by rw [hH]; exact hP
  have hS : va_S A s.heap H [] := by rw [hH]; exact hS
  rw [← hH]
  refine lv_aload_n hx hb d_V_letGo_0 rfl (lv_at hl 0 rfl) ?_
  refine gF (v := .ref (ad 3)) hx hb hown hE hK hP 0 rfl rfl layV 11 (by decide) w297 rfl d_V_letGo_1 ?_
  refine lv_iload_n hx hb d_V_letGo_4 rfl (lv_at hl 1 rfl) ?_
  refine lv_lload_n hx hb d_V_letGo_5 rfl (lv_at hl 2 rfl) ?_
  refine lv_lload hx hb d_V_letGo_6 (lv_at hl 3 rfl) ?_
  refine jfI (rnV (As := [.int (nI w), .long a, .long b]) (rest := []) hx hb hml hown hE hK (hN _ _ hS) hP hD (v_countSeen l D dA H.size h ad x PS w a b hps (show x.npc ≤ 32 from by omega) (show x.nsc ≤ 64 from by omega) h7 (show w < 256 from by omega)) (q0 := 17) rfl rfl w1336 w1335 w1337 w1338 w583 rfl rfl ⟨⟨by decide, by decide⟩, rfl⟩ ⟨(Nat.le_of_ble_eq_true rfl), (Nat.le_of_ble_eq_true rfl)⟩ rfl hl.1 rfl (Nat.le_of_ble_eq_true rfl) d_V_letGo_8 ⟨(Nat.le_of_ble_eq_true rfl), (Nat.le_of_ble_eq_true rfl)⟩) hP hD hS hA (fun r1 u2 H locs hp9 hP hD hS => ?_)
  have hP : va_P D vwCl (VW dA h ad x) H := hP
  have hD : va_D A (VW dA h ad x) := hD
  replace hp9 : nI (sumN x.npc (x.soN PS w a b)) = r1 := Eq.symm hp9
  subst hp9
  have so := so_le (w := w) (a := a) (b := b) hps hpn
  refine lv_if_le hx hb d_V_letGo_11 (tgt := 25) rfl (fun h9 => absurd h9 (mt (nI_leI (a := sumN x.npc (x.soN PS w a b)) (b := 0) (by omega) (by omega)).mp (Nat.not_le.mpr hz))) (fun _ => ?_)
  refine lv_aload_n hx hb d_V_letGo_14 rfl (lv_at hl 0 rfl) ?_
  refine gF (v := .ref (ad 3)) hx hb hown hE hK hP 0 rfl rfl layV 11 (by decide) w297 rfl d_V_letGo_15 ?_
  refine lv_iload_n hx hb d_V_letGo_18 rfl (lv_at hl 1 rfl) ?_
  refine lv_lload_n hx hb d_V_letGo_19 rfl (lv_at hl 2 rfl) ?_
  refine lv_lload hx hb d_V_letGo_20 (lv_at hl 3 rfl) ?_
  refine jfV (rnV (As := [.int (nI w), .long a, .long b]) (rest := []) hx hb hml hown hE hK (hN _ _ hS) hP hD (v_addScar l D dA H.size h ad x w a b (show x.nsc < 64 from by omega) (show w < 256 from by omega)) (q0 := 17) rfl rfl w1344 w1343 w1345 w1346 w583 rfl rfl ⟨⟨by decide, by decide⟩, rfl⟩ ⟨(Nat.le_of_ble_eq_true rfl), (Nat.le_of_ble_eq_true rfl)⟩ rfl hl.1 rfl (Nat.le_of_ble_eq_true rfl) d_V_letGo_22 ⟨(Nat.le_of_ble_eq_true rfl), (Nat.le_of_ble_eq_true rfl)⟩) hP hD hS hA (fun u4 H locs hp9 hP hD hS => ?_)
  have hP : va_P D vwCl (VW dA h ad (VS.s_nsc (VS.s_nsT (VS.s_nsF (VS.s_nsO x (va_up x.nsO x.nsc w)) (va_up x.nsF x.nsc (maxL a x.nhor))) (va_up x.nsT x.nsc (minL b (x.nlast w)))) (x.nsc + 1))) H := hP
  have hD : va_D A (VW dA h ad (VS.s_nsc (VS.s_nsT (VS.s_nsF (VS.s_nsO x (va_up x.nsO x.nsc w)) (va_up x.nsF x.nsc (maxL a x.nhor))) (va_up x.nsT x.nsc (minL b (x.nlast w)))) (x.nsc + 1))) := hD
  refine lv_aload_n hx hb d_V_letGo_25 rfl (lv_at hl 0 rfl) ?_
  refine gF (v := .ref (ad 1)) hx hb hown hE hK hP 0 rfl rfl layV 9 (by decide) w576 rfl d_V_letGo_26 ?_
  refine lv_iload_n hx hb d_V_letGo_29 rfl (lv_at hl 1 rfl) ?_
  refine lv_lload_n hx hb d_V_letGo_30 rfl (lv_at hl 2 rfl) ?_
  refine lv_lload hx hb d_V_letGo_31 (lv_at hl 3 rfl) ?_
  refine jfV (rnV (As := [.int (nI w), .long a, .long b]) (rest := []) hx hb hml hown hE hK (hN _ _ hS) hP hD (v_dropWithin l D dA H.size h ad (VS.s_nsc (VS.s_nsT (VS.s_nsF (VS.s_nsO x (va_up x.nsO x.nsc w)) (va_up x.nsF x.nsc (maxL a x.nhor))) (va_up x.nsT x.nsc (minL b (x.nlast w)))) (x.nsc + 1)) w a b (show x.hsize ≤ x.hN from by omega) (show x.hN ≤ 65536 from by omega) (show w < 2 ^ 31 from by omega) hh7) (q0 := 9) rfl rfl w1340 w1339 w1341 w1342 w578 rfl rfl ⟨⟨by decide, by decide⟩, rfl⟩ ⟨(Nat.le_of_ble_eq_true rfl), (Nat.le_of_ble_eq_true rfl)⟩ rfl hl.1 rfl (Nat.le_of_ble_eq_true rfl) d_V_letGo_33 ⟨(Nat.le_of_ble_eq_true rfl), (Nat.le_of_ble_eq_true rfl)⟩) hP hD hS hA (fun u6 H locs hp9 hP hD hS => ?_)
  have hP : va_P D vwCl (VW dA h ad (VS.s_nsc (VS.s_nsT (VS.s_nsF (VS.s_nsO (VS.s_hsize (VS.s_hV (VS.s_hT (VS.s_hO x (tdT (x.hWn w a b) x.hO x.hsize)) (tdT (x.hWn w a b) x.hT x.hsize)) (tdT (x.hWn w a b) x.hV x.hsize)) (cnt x.hsize (x.hWn w a b))) (va_up x.nsO x.nsc w)) (va_up x.nsF x.nsc (maxL a x.nhor))) (va_up x.nsT x.nsc (minL b (x.nlast w)))) (x.nsc + 1))) H := hP
  have hD : va_D A (VW dA h ad (VS.s_nsc (VS.s_nsT (VS.s_nsF (VS.s_nsO (VS.s_hsize (VS.s_hV (VS.s_hT (VS.s_hO x (tdT (x.hWn w a b) x.hO x.hsize)) (tdT (x.hWn w a b) x.hT x.hsize)) (tdT (x.hWn w a b) x.hV x.hsize)) (cnt x.hsize (x.hWn w a b))) (va_up x.nsO x.nsc w)) (va_up x.nsF x.nsc (maxL a x.nhor))) (va_up x.nsT x.nsc (minL b (x.nlast w)))) (x.nsc + 1))) := hD
  exact rfV hx hb hr hlk hS () trivial hP hD (Nat.le_of_ble_eq_true rfl) (Nat.le_of_ble_eq_true rfl) d_V_letGo_36
set_option maxHeartbeats 4000000 in
set_option maxRecDepth 100000 in
theorem v_count_0 (l : Launch) (D : va_G) (dA : Nat → ClassId) (sz : Nat) (h : Nat) (ad : Nat → Nat) (x : VS) (ho : x.powered = true) : Met l ⟨"SeriesVault", "count", "(I)I"⟩ [Cond.code ⟨"SeriesVault", "count", "(I)I"⟩ prog_1_method_43_code 2 (some FieldType.int)] { frames := 2, cells := 0, slots := 0, locals := 20 } (pC D dA [.ref h, .int 0] (VW dA h ad x) sz) (va_Qi (fun (r9 : Int32) (u9 : Unit) => r9 = nI x.nser) (fun (u9 : Unit) t9 => bW D (va_A (VW dA h ad x) sz) (VW dA h ad x) t9) (va_A (VW dA h ad x) sz)) 0 0 (va_A (VW dA h ad x) sz) := by
  refine mkC (y := ⟨"SeriesVault", "count", "(I)I"⟩) (cc := prog_1_method_43_code) (maxL := 2) (av := [.ref h, .int 0]) (ws := VW dA h ad x) (sz := sz) (Qc := fun A => va_Qi (fun (r9 : Int32) (u9 : Unit) => r9 = nI x.nser) (fun (u9 : Unit) t9 => bW D A (VW dA h ad x) t9) A) (by decide) (Nat.le_of_ble_eq_true rfl) ?_
  intro A p e s m below meth c ls hsz hB
  obtain ⟨hx, hb, hr, hml, hown, hin, hlk, hE, hK, hP, hD, hS, hA, hN, hl⟩ := hB
  have hown : s.vm.findClass "SeriesVault" = some m.cls := hown
  have hl : lv_has ls 2 [(0, .ref h), (1, .int 0)] := hl
  obtain ⟨H, hH⟩ : ∃ z, z = s.heap := ⟨_, rfl⟩
  have hP : va_P D vwCl (VW dA h ad x) H := by rw [hH]; exact hP
  have hS : va_S A s.heap H [] := by rw [hH]; exact hS
  rw [← hH]
  refine lv_aload_n hx hb d_V_count_0 rfl (lv_at hl 0 rfl) ?_
  refine jfV (rnV (As := []) (rest := []) hx hb hml hown hE hK (hN _ _ hS) hP hD (v_checkPower l D dA H.size h ad x ho) (q0 := 0) rfl rfl w278 w276 w279 w280 w277 rfl rfl ⟨⟨by decide, by decide⟩, rfl⟩ ⟨(Nat.le_of_ble_eq_true rfl), (Nat.le_of_ble_eq_true rfl)⟩ rfl hl.1 rfl (Nat.le_of_ble_eq_true rfl) d_V_count_1 ⟨(Nat.le_of_ble_eq_true rfl), (Nat.le_of_ble_eq_true rfl)⟩) hP hD hS hA (fun u2 H locs hp9 hP hD hS => ?_)
  have hP : va_P D vwCl (VW dA h ad x) H := hP
  have hD : va_D A (VW dA h ad x) := hD
  refine lv_iload_n hx hb d_V_count_4 rfl (lv_at hl 1 rfl) ?_
  refine lv_tableIn (x := 0) (off := 51) (tgt := 56) hx hb d_V_count_5 (by decide) (by decide) (by decide) rfl ?_
  refine lv_aload_n hx hb d_V_count_56 rfl (lv_at hl 0 rfl) ?_
  refine gF (v := .ref (ad 3)) hx hb hown hE hK hP 0 rfl rfl layV 11 (by decide) w297 rfl d_V_count_57 ?_
  refine gFN (v := .int (nI x.nser)) hx hb hown hE hK hP 17 rfl rfl layH 8 (by decide) w298 rfl d_V_count_60 ?_
  exact rfI hx hb hr hlk hS () rfl hP hD (Nat.le_of_ble_eq_true rfl) (Nat.le_of_ble_eq_true rfl) d_V_count_63
set_option maxHeartbeats 4000000 in
set_option maxRecDepth 100000 in
theorem v_count_1 (l : Launch) (D : va_G) (dA : Nat → ClassId) (sz : Nat) (h : Nat) (ad : Nat → Nat) (x : VS) (ho : x.powered = true) : Met l ⟨"SeriesVault", "count", "(I)I"⟩ [Cond.code ⟨"SeriesVault", "count", "(I)I"⟩ prog_1_method_43_code 2 (some FieldType.int)] { frames := 2, cells := 0, slots := 0, locals := 20 } (pC D dA [.ref h, .int 1] (VW dA h ad x) sz) (va_Qi (fun (r9 : Int32) (u9 : Unit) => r9 = nI x.hsize) (fun (u9 : Unit) t9 => bW D (va_A (VW dA h ad x) sz) (VW dA h ad x) t9) (va_A (VW dA h ad x) sz)) 0 0 (va_A (VW dA h ad x) sz) := by
  refine mkC (y := ⟨"SeriesVault", "count", "(I)I"⟩) (cc := prog_1_method_43_code) (maxL := 2) (av := [.ref h, .int 1]) (ws := VW dA h ad x) (sz := sz) (Qc := fun A => va_Qi (fun (r9 : Int32) (u9 : Unit) => r9 = nI x.hsize) (fun (u9 : Unit) t9 => bW D A (VW dA h ad x) t9) A) (by decide) (Nat.le_of_ble_eq_true rfl) ?_
  intro A p e s m below meth c ls hsz hB
  obtain ⟨hx, hb, hr, hml, hown, hin, hlk, hE, hK, hP, hD, hS, hA, hN, hl⟩ := hB
  have hown : s.vm.findClass "SeriesVault" = some m.cls := hown
  have hl : lv_has ls 2 [(0, .ref h), (1, .int 1)] := hl
  obtain ⟨H, hH⟩ : ∃ z, z = s.heap := ⟨_, rfl⟩
  have hP : va_P D vwCl (VW dA h ad x) H := by rw [hH]; exact hP
  have hS : va_S A s.heap H [] := by rw [hH]; exact hS
  rw [← hH]
  refine lv_aload_n hx hb d_V_count_0 rfl (lv_at hl 0 rfl) ?_
  refine jfV (rnV (As := []) (rest := []) hx hb hml hown hE hK (hN _ _ hS) hP hD (v_checkPower l D dA H.size h ad x ho) (q0 := 0) rfl rfl w278 w276 w279 w280 w277 rfl rfl ⟨⟨by decide, by decide⟩, rfl⟩ ⟨(Nat.le_of_ble_eq_true rfl), (Nat.le_of_ble_eq_true rfl)⟩ rfl hl.1 rfl (Nat.le_of_ble_eq_true rfl) d_V_count_1 ⟨(Nat.le_of_ble_eq_true rfl), (Nat.le_of_ble_eq_true rfl)⟩) hP hD hS hA (fun u2 H locs hp9 hP hD hS => ?_)
  have hP : va_P D vwCl (VW dA h ad x) H := hP
  have hD : va_D A (VW dA h ad x) := hD
  refine lv_iload_n hx hb d_V_count_4 rfl (lv_at hl 1 rfl) ?_
  refine lv_tableIn (x := 1) (off := 59) (tgt := 64) hx hb d_V_count_5 (by decide) (by decide) (by decide) rfl ?_
  refine lv_aload_n hx hb d_V_count_64 rfl (lv_at hl 0 rfl) ?_
  refine gF (v := .ref (ad 1)) hx hb hown hE hK hP 0 rfl rfl layV 9 (by decide) w576 rfl d_V_count_65 ?_
  refine gFN (v := .int (nI x.hsize)) hx hb hown hE hK hP 9 rfl rfl layP 3 (by decide) w641 rfl d_V_count_68 ?_
  exact rfI hx hb hr hlk hS () rfl hP hD (Nat.le_of_ble_eq_true rfl) (Nat.le_of_ble_eq_true rfl) d_V_count_71
set_option maxHeartbeats 4000000 in
set_option maxRecDepth 100000 in
theorem v_count_2 (l : Launch) (D : va_G) (dA : Nat → ClassId) (sz : Nat) (h : Nat) (ad : Nat → Nat) (x : VS) (ho : x.powered = true) : Met l ⟨"SeriesVault", "count", "(I)I"⟩ [Cond.code ⟨"SeriesVault", "count", "(I)I"⟩ prog_1_method_43_code 2 (some FieldType.int)] { frames := 2, cells := 0, slots := 0, locals := 20 } (pC D dA [.ref h, .int 2] (VW dA h ad x) sz) (va_Qi (fun (r9 : Int32) (u9 : Unit) => r9 = nI x.npc) (fun (u9 : Unit) t9 => bW D (va_A (VW dA h ad x) sz) (VW dA h ad x) t9) (va_A (VW dA h ad x) sz)) 0 0 (va_A (VW dA h ad x) sz) := by
  refine mkC (y := ⟨"SeriesVault", "count", "(I)I"⟩) (cc := prog_1_method_43_code) (maxL := 2) (av := [.ref h, .int 2]) (ws := VW dA h ad x) (sz := sz) (Qc := fun A => va_Qi (fun (r9 : Int32) (u9 : Unit) => r9 = nI x.npc) (fun (u9 : Unit) t9 => bW D A (VW dA h ad x) t9) A) (by decide) (Nat.le_of_ble_eq_true rfl) ?_
  intro A p e s m below meth c ls hsz hB
  obtain ⟨hx, hb, hr, hml, hown, hin, hlk, hE, hK, hP, hD, hS, hA, hN, hl⟩ := hB
  have hown : s.vm.findClass "SeriesVault" = some m.cls := hown
  have hl : lv_has ls 2 [(0, .ref h), (1, .int 2)] := hl
  obtain ⟨H, hH⟩ : ∃ z, z = s.heap := ⟨_, rfl⟩
  have hP : va_P D vwCl (VW dA h ad x) H := by rw [hH]; exact hP
  have hS : va_S A s.heap H [] := by rw [hH]; exact hS
  rw [← hH]
  refine lv_aload_n hx hb d_V_count_0 rfl (lv_at hl 0 rfl) ?_
  refine jfV (rnV (As := []) (rest := []) hx hb hml hown hE hK (hN _ _ hS) hP hD (v_checkPower l D dA H.size h ad x ho) (q0 := 0) rfl rfl w278 w276 w279 w280 w277 rfl rfl ⟨⟨by decide, by decide⟩, rfl⟩ ⟨(Nat.le_of_ble_eq_true rfl), (Nat.le_of_ble_eq_true rfl)⟩ rfl hl.1 rfl (Nat.le_of_ble_eq_true rfl) d_V_count_1 ⟨(Nat.le_of_ble_eq_true rfl), (Nat.le_of_ble_eq_true rfl)⟩) hP hD hS hA (fun u2 H locs hp9 hP hD hS => ?_)
  have hP : va_P D vwCl (VW dA h ad x) H := hP
  have hD : va_D A (VW dA h ad x) := hD
  refine lv_iload_n hx hb d_V_count_4 rfl (lv_at hl 1 rfl) ?_
  refine lv_tableIn (x := 2) (off := 67) (tgt := 72) hx hb d_V_count_5 (by decide) (by decide) (by decide) rfl ?_
  refine lv_aload_n hx hb d_V_count_72 rfl (lv_at hl 0 rfl) ?_
  refine gF (v := .ref (ad 3)) hx hb hown hE hK hP 0 rfl rfl layV 11 (by decide) w297 rfl d_V_count_73 ?_
  refine gFN (v := .int (nI x.npc)) hx hb hown hE hK hP 17 rfl rfl layH 1 (by decide) w303 rfl d_V_count_76 ?_
  exact rfI hx hb hr hlk hS () rfl hP hD (Nat.le_of_ble_eq_true rfl) (Nat.le_of_ble_eq_true rfl) d_V_count_79
set_option maxHeartbeats 4000000 in
set_option maxRecDepth 100000 in
theorem v_count_3 (l : Launch) (D : va_G) (dA : Nat → ClassId) (sz : Nat) (h : Nat) (ad : Nat → Nat) (x : VS) (ho : x.powered = true) : Met l ⟨"SeriesVault", "count", "(I)I"⟩ [Cond.code ⟨"SeriesVault", "count", "(I)I"⟩ prog_1_method_43_code 2 (some FieldType.int)] { frames := 2, cells := 0, slots := 0, locals := 20 } (pC D dA [.ref h, .int 3] (VW dA h ad x) sz) (va_Qi (fun (r9 : Int32) (u9 : Unit) => r9 = nI x.nsc) (fun (u9 : Unit) t9 => bW D (va_A (VW dA h ad x) sz) (VW dA h ad x) t9) (va_A (VW dA h ad x) sz)) 0 0 (va_A (VW dA h ad x) sz) := by
  refine mkC (y := ⟨"SeriesVault", "count", "(I)I"⟩) (cc := prog_1_method_43_code) (maxL := 2) (av := [.ref h, .int 3]) (ws := VW dA h ad x) (sz := sz) (Qc := fun A => va_Qi (fun (r9 : Int32) (u9 : Unit) => r9 = nI x.nsc) (fun (u9 : Unit) t9 => bW D A (VW dA h ad x) t9) A) (by decide) (Nat.le_of_ble_eq_true rfl) ?_
  intro A p e s m below meth c ls hsz hB
  obtain ⟨hx, hb, hr, hml, hown, hin, hlk, hE, hK, hP, hD, hS, hA, hN, hl⟩ := hB
  have hown : s.vm.findClass "SeriesVault" = some m.cls := hown
  have hl : lv_has ls 2 [(0, .ref h), (1, .int 3)] := hl
  obtain ⟨H, hH⟩ : ∃ z, z = s.heap := ⟨_, rfl⟩
  have hP : va_P D vwCl (VW dA h ad x) H := by rw [hH]; exact hP
  have hS : va_S A s.heap H [] := by rw [hH]; exact hS
  rw [← hH]
  refine lv_aload_n hx hb d_V_count_0 rfl (lv_at hl 0 rfl) ?_
  refine jfV (rnV (As := []) (rest := []) hx hb hml hown hE hK (hN _ _ hS) hP hD (v_checkPower l D dA H.size h ad x ho) (q0 := 0) rfl rfl w278 w276 w279 w280 w277 rfl rfl ⟨⟨by decide, by decide⟩, rfl⟩ ⟨(Nat.le_of_ble_eq_true rfl), (Nat.le_of_ble_eq_true rfl)⟩ rfl hl.1 rfl (Nat.le_of_ble_eq_true rfl) d_V_count_1 ⟨(Nat.le_of_ble_eq_true rfl), (Nat.le_of_ble_eq_true rfl)⟩) hP hD hS hA (fun u2 H locs hp9 hP hD hS => ?_)
  have hP : va_P D vwCl (VW dA h ad x) H := hP
  have hD : va_D A (VW dA h ad x) := hD
  refine lv_iload_n hx hb d_V_count_4 rfl (lv_at hl 1 rfl) ?_
  refine lv_tableIn (x := 3) (off := 75) (tgt := 80) hx hb d_V_count_5 (by decide) (by decide) (by decide) rfl ?_
  refine lv_aload_n hx hb d_V_count_80 rfl (lv_at hl 0 rfl) ?_
  refine gF (v := .ref (ad 3)) hx hb hown hE hK hP 0 rfl rfl layV 11 (by decide) w297 rfl d_V_count_81 ?_
  refine gFN (v := .int (nI x.nsc)) hx hb hown hE hK hP 17 rfl rfl layH 6 (by decide) w642 rfl d_V_count_84 ?_
  exact rfI hx hb hr hlk hS () rfl hP hD (Nat.le_of_ble_eq_true rfl) (Nat.le_of_ble_eq_true rfl) d_V_count_87
set_option maxHeartbeats 4000000 in
set_option maxRecDepth 100000 in
theorem v_count_5 (l : Launch) (D : va_G) (dA : Nat → ClassId) (sz : Nat) (h : Nat) (ad : Nat → Nat) (x : VS) (ho : x.powered = true) : Met l ⟨"SeriesVault", "count", "(I)I"⟩ [Cond.code ⟨"SeriesVault", "count", "(I)I"⟩ prog_1_method_43_code 2 (some FieldType.int)] { frames := 2, cells := 0, slots := 0, locals := 20 } (pC D dA [.ref h, .int 5] (VW dA h ad x) sz) (va_Qi (fun (r9 : Int32) (u9 : Unit) => r9 = nI x.junits) (fun (u9 : Unit) t9 => bW D (va_A (VW dA h ad x) sz) (VW dA h ad x) t9) (va_A (VW dA h ad x) sz)) 0 0 (va_A (VW dA h ad x) sz) := by
  refine mkC (y := ⟨"SeriesVault", "count", "(I)I"⟩) (cc := prog_1_method_43_code) (maxL := 2) (av := [.ref h, .int 5]) (ws := VW dA h ad x) (sz := sz) (Qc := fun A => va_Qi (fun (r9 : Int32) (u9 : Unit) => r9 = nI x.junits) (fun (u9 : Unit) t9 => bW D A (VW dA h ad x) t9) A) (by decide) (Nat.le_of_ble_eq_true rfl) ?_
  intro A p e s m below meth c ls hsz hB
  obtain ⟨hx, hb, hr, hml, hown, hin, hlk, hE, hK, hP, hD, hS, hA, hN, hl⟩ := hB
  have hown : s.vm.findClass "SeriesVault" = some m.cls := hown
  have hl : lv_has ls 2 [(0, .ref h), (1, .int 5)] := hl
  obtain ⟨H, hH⟩ : ∃ z, z = s.heap := ⟨_, rfl⟩
  have hP : va_P D vwCl (VW dA h ad x) H := by rw [hH]; exact hP
  have hS : va_S A s.heap H [] := by rw [hH]; exact hS
  rw [← hH]
  refine lv_aload_n hx hb d_V_count_0 rfl (lv_at hl 0 rfl) ?_
  refine jfV (rnV (As := []) (rest := []) hx hb hml hown hE hK (hN _ _ hS) hP hD (v_checkPower l D dA H.size h ad x ho) (q0 := 0) rfl rfl w278 w276 w279 w280 w277 rfl rfl ⟨⟨by decide, by decide⟩, rfl⟩ ⟨(Nat.le_of_ble_eq_true rfl), (Nat.le_of_ble_eq_true rfl)⟩ rfl hl.1 rfl (Nat.le_of_ble_eq_true rfl) d_V_count_1 ⟨(Nat.le_of_ble_eq_true rfl), (Nat.le_of_ble_eq_true rfl)⟩) hP hD hS hA (fun u2 H locs hp9 hP hD hS => ?_)
  have hP : va_P D vwCl (VW dA h ad x) H := hP
  have hD : va_D A (VW dA h ad x) := hD
  refine lv_iload_n hx hb d_V_count_4 rfl (lv_at hl 1 rfl) ?_
  refine lv_tableIn (x := 5) (off := 88) (tgt := 93) hx hb d_V_count_5 (by decide) (by decide) (by decide) rfl ?_
  refine lv_aload_n hx hb d_V_count_93 rfl (lv_at hl 0 rfl) ?_
  refine gF (v := .ref (ad 0)) hx hb hown hE hK hP 0 rfl rfl layV 8 (by decide) w312 rfl d_V_count_94 ?_
  refine gFN (v := .int (nI x.junits)) hx hb hown hE hK hP 2 rfl rfl layJ 8 (by decide) w647 rfl d_V_count_97 ?_
  exact rfI hx hb hr hlk hS () rfl hP hD (Nat.le_of_ble_eq_true rfl) (Nat.le_of_ble_eq_true rfl) d_V_count_100
set_option maxHeartbeats 4000000 in
set_option maxRecDepth 100000 in
theorem v_count_6 (l : Launch) (D : va_G) (dA : Nat → ClassId) (sz : Nat) (h : Nat) (ad : Nat → Nat) (x : VS) (ho : x.powered = true) : Met l ⟨"SeriesVault", "count", "(I)I"⟩ [Cond.code ⟨"SeriesVault", "count", "(I)I"⟩ prog_1_method_43_code 2 (some FieldType.int)] { frames := 2, cells := 0, slots := 0, locals := 20 } (pC D dA [.ref h, .int 6] (VW dA h ad x) sz) (va_Qi (fun (r9 : Int32) (u9 : Unit) => r9 = nI x.jsize) (fun (u9 : Unit) t9 => bW D (va_A (VW dA h ad x) sz) (VW dA h ad x) t9) (va_A (VW dA h ad x) sz)) 0 0 (va_A (VW dA h ad x) sz) := by
  refine mkC (y := ⟨"SeriesVault", "count", "(I)I"⟩) (cc := prog_1_method_43_code) (maxL := 2) (av := [.ref h, .int 6]) (ws := VW dA h ad x) (sz := sz) (Qc := fun A => va_Qi (fun (r9 : Int32) (u9 : Unit) => r9 = nI x.jsize) (fun (u9 : Unit) t9 => bW D A (VW dA h ad x) t9) A) (by decide) (Nat.le_of_ble_eq_true rfl) ?_
  intro A p e s m below meth c ls hsz hB
  obtain ⟨hx, hb, hr, hml, hown, hin, hlk, hE, hK, hP, hD, hS, hA, hN, hl⟩ := hB
  have hown : s.vm.findClass "SeriesVault" = some m.cls := hown
  have hl : lv_has ls 2 [(0, .ref h), (1, .int 6)] := hl
  obtain ⟨H, hH⟩ : ∃ z, z = s.heap := ⟨_, rfl⟩
  have hP : va_P D vwCl (VW dA h ad x) H := by rw [hH]; exact hP
  have hS : va_S A s.heap H [] := by rw [hH]; exact hS
  rw [← hH]
  refine lv_aload_n hx hb d_V_count_0 rfl (lv_at hl 0 rfl) ?_
  refine jfV (rnV (As := []) (rest := []) hx hb hml hown hE hK (hN _ _ hS) hP hD (v_checkPower l D dA H.size h ad x ho) (q0 := 0) rfl rfl w278 w276 w279 w280 w277 rfl rfl ⟨⟨by decide, by decide⟩, rfl⟩ ⟨(Nat.le_of_ble_eq_true rfl), (Nat.le_of_ble_eq_true rfl)⟩ rfl hl.1 rfl (Nat.le_of_ble_eq_true rfl) d_V_count_1 ⟨(Nat.le_of_ble_eq_true rfl), (Nat.le_of_ble_eq_true rfl)⟩) hP hD hS hA (fun u2 H locs hp9 hP hD hS => ?_)
  have hP : va_P D vwCl (VW dA h ad x) H := hP
  have hD : va_D A (VW dA h ad x) := hD
  refine lv_iload_n hx hb d_V_count_4 rfl (lv_at hl 1 rfl) ?_
  refine lv_tableIn (x := 6) (off := 96) (tgt := 101) hx hb d_V_count_5 (by decide) (by decide) (by decide) rfl ?_
  refine lv_aload_n hx hb d_V_count_101 rfl (lv_at hl 0 rfl) ?_
  refine gF (v := .ref (ad 0)) hx hb hown hE hK hP 0 rfl rfl layV 8 (by decide) w312 rfl d_V_count_102 ?_
  refine gFN (v := .int (nI x.jsize)) hx hb hown hE hK hP 2 rfl rfl layJ 6 (by decide) w318 rfl d_V_count_105 ?_
  exact rfI hx hb hr hlk hS () rfl hP hD (Nat.le_of_ble_eq_true rfl) (Nat.le_of_ble_eq_true rfl) d_V_count_108
set_option maxHeartbeats 4000000 in
set_option maxRecDepth 100000 in
theorem v_count_7 (l : Launch) (D : va_G) (dA : Nat → ClassId) (sz : Nat) (h : Nat) (ad : Nat → Nat) (x : VS) (ho : x.powered = true) : Met l ⟨"SeriesVault", "count", "(I)I"⟩ [Cond.code ⟨"SeriesVault", "count", "(I)I"⟩ prog_1_method_43_code 2 (some FieldType.int)] { frames := 2, cells := 0, slots := 0, locals := 20 } (pC D dA [.ref h, .int 7] (VW dA h ad x) sz) (va_Qi (fun (r9 : Int32) (u9 : Unit) => r9 = nI x.jkept) (fun (u9 : Unit) t9 => bW D (va_A (VW dA h ad x) sz) (VW dA h ad x) t9) (va_A (VW dA h ad x) sz)) 0 0 (va_A (VW dA h ad x) sz) := by
  refine mkC (y := ⟨"SeriesVault", "count", "(I)I"⟩) (cc := prog_1_method_43_code) (maxL := 2) (av := [.ref h, .int 7]) (ws := VW dA h ad x) (sz := sz) (Qc := fun A => va_Qi (fun (r9 : Int32) (u9 : Unit) => r9 = nI x.jkept) (fun (u9 : Unit) t9 => bW D A (VW dA h ad x) t9) A) (by decide) (Nat.le_of_ble_eq_true rfl) ?_
  intro A p e s m below meth c ls hsz hB
  obtain ⟨hx, hb, hr, hml, hown, hin, hlk, hE, hK, hP, hD, hS, hA, hN, hl⟩ := hB
  have hown : s.vm.findClass "SeriesVault" = some m.cls := hown
  have hl : lv_has ls 2 [(0, .ref h), (1, .int 7)] := hl
  obtain ⟨H, hH⟩ : ∃ z, z = s.heap := ⟨_, rfl⟩
  have hP : va_P D vwCl (VW dA h ad x) H := by rw [hH]; exact hP
  have hS : va_S A s.heap H [] := by rw [hH]; exact hS
  rw [← hH]
  refine lv_aload_n hx hb d_V_count_0 rfl (lv_at hl 0 rfl) ?_
  refine jfV (rnV (As := []) (rest := []) hx hb hml hown hE hK (hN _ _ hS) hP hD (v_checkPower l D dA H.size h ad x ho) (q0 := 0) rfl rfl w278 w276 w279 w280 w277 rfl rfl ⟨⟨by decide, by decide⟩, rfl⟩ ⟨(Nat.le_of_ble_eq_true rfl), (Nat.le_of_ble_eq_true rfl)⟩ rfl hl.1 rfl (Nat.le_of_ble_eq_true rfl) d_V_count_1 ⟨(Nat.le_of_ble_eq_true rfl), (Nat.le_of_ble_eq_true rfl)⟩) hP hD hS hA (fun u2 H locs hp9 hP hD hS => ?_)
  have hP : va_P D vwCl (VW dA h ad x) H := hP
  have hD : va_D A (VW dA h ad x) := hD
  refine lv_iload_n hx hb d_V_count_4 rfl (lv_at hl 1 rfl) ?_
  refine lv_tableIn (x := 7) (off := 104) (tgt := 109) hx hb d_V_count_5 (by decide) (by decide) (by decide) rfl ?_
  refine lv_aload_n hx hb d_V_count_109 rfl (lv_at hl 0 rfl) ?_
  refine gF (v := .ref (ad 0)) hx hb hown hE hK hP 0 rfl rfl layV 8 (by decide) w312 rfl d_V_count_110 ?_
  refine gFN (v := .int (nI x.jkept)) hx hb hown hE hK hP 2 rfl rfl layJ 7 (by decide) w648 rfl d_V_count_113 ?_
  exact rfI hx hb hr hlk hS () rfl hP hD (Nat.le_of_ble_eq_true rfl) (Nat.le_of_ble_eq_true rfl) d_V_count_116
set_option maxHeartbeats 4000000 in
set_option maxRecDepth 100000 in
theorem v_count_4 (l : Launch) (D : va_G) (dA : Nat → ClassId) (sz : Nat) (h : Nat) (ad : Nat → Nat) (x : VS) (PS : Nat → PT) (ho : x.powered = true) (hps : psOk dA x.nP x.npc x.pl PS) (hpn : x.npc ≤ 32) (hfr : x.jlimit + 2 + (x.ncat + sumN x.npc (blN PS)) ≤ x.diskBlocks) : Met l ⟨"SeriesVault", "count", "(I)I"⟩ [Cond.code ⟨"SeriesVault", "count", "(I)I"⟩ prog_1_method_43_code 2 (some FieldType.int)] { frames := 3, cells := 0, slots := 0, locals := 42 } (pC D dA [.ref h, .int 4] (VW dA h ad x) sz) (va_Qi (fun (r9 : Int32) (u9 : Unit) => r9 = nI (x.fr PS)) (fun (u9 : Unit) t9 => bW D (va_A (VW dA h ad x) sz) (VW dA h ad x) t9) (va_A (VW dA h ad x) sz)) 0 0 (va_A (VW dA h ad x) sz) := by
  refine mkC (y := ⟨"SeriesVault", "count", "(I)I"⟩) (cc := prog_1_method_43_code) (maxL := 2) (av := [.ref h, .int 4]) (ws := VW dA h ad x) (sz := sz) (Qc := fun A => va_Qi (fun (r9 : Int32) (u9 : Unit) => r9 = nI (x.fr PS)) (fun (u9 : Unit) t9 => bW D A (VW dA h ad x) t9) A) (by decide) (Nat.le_of_ble_eq_true rfl) ?_
  intro A p e s m below meth c ls hsz hB
  obtain ⟨hx, hb, hr, hml, hown, hin, hlk, hE, hK, hP, hD, hS, hA, hN, hl⟩ := hB
  have hown : s.vm.findClass "SeriesVault" = some m.cls := hown
  have hl : lv_has ls 2 [(0, .ref h), (1, .int 4)] := hl
  obtain ⟨H, hH⟩ : ∃ z, z = s.heap := ⟨_, rfl⟩
  have hP : va_P D vwCl (VW dA h ad x) H := by rw [hH]; exact hP
  have hS : va_S A s.heap H [] := by rw [hH]; exact hS
  rw [← hH]
  refine lv_aload_n hx hb d_V_count_0 rfl (lv_at hl 0 rfl) ?_
  refine jfV (rnV (As := []) (rest := []) hx hb hml hown hE hK (hN _ _ hS) hP hD (v_checkPower l D dA H.size h ad x ho) (q0 := 0) rfl rfl w278 w276 w279 w280 w277 rfl rfl ⟨⟨by decide, by decide⟩, rfl⟩ ⟨(Nat.le_of_ble_eq_true rfl), (Nat.le_of_ble_eq_true rfl)⟩ rfl hl.1 rfl (Nat.le_of_ble_eq_true rfl) d_V_count_1 ⟨(Nat.le_of_ble_eq_true rfl), (Nat.le_of_ble_eq_true rfl)⟩) hP hD hS hA (fun u2 H locs hp9 hP hD hS => ?_)
  have hP : va_P D vwCl (VW dA h ad x) H := hP
  have hD : va_D A (VW dA h ad x) := hD
  refine lv_iload_n hx hb d_V_count_4 rfl (lv_at hl 1 rfl) ?_
  refine lv_tableIn (x := 4) (off := 83) (tgt := 88) hx hb d_V_count_5 (by decide) (by decide) (by decide) rfl ?_
  refine lv_aload_n hx hb d_V_count_88 rfl (lv_at hl 0 rfl) ?_
  refine jfI (rnV (As := []) (rest := []) hx hb hml hown hE hK (hN _ _ hS) hP hD (v_freeBlocks l D dA H.size h ad x PS hps (show x.npc ≤ 32 from by omega) (show x.jlimit + 2 + (x.ncat + sumN x.npc (blN PS)) ≤ x.diskBlocks from by omega)) (q0 := 0) rfl rfl w644 w643 w645 w646 w277 rfl rfl ⟨⟨by decide, by decide⟩, rfl⟩ ⟨(Nat.le_of_ble_eq_true rfl), (Nat.le_of_ble_eq_true rfl)⟩ rfl hl.1 rfl (Nat.le_of_ble_eq_true rfl) d_V_count_89 ⟨(Nat.le_of_ble_eq_true rfl), (Nat.le_of_ble_eq_true rfl)⟩) hP hD hS hA (fun r3 u4 H locs hp9 hP hD hS => ?_)
  have hP : va_P D vwCl (VW dA h ad x) H := hP
  have hD : va_D A (VW dA h ad x) := hD
  replace hp9 : nI (x.fr PS) = r3 := Eq.symm hp9
  subst hp9
  exact rfI hx hb hr hlk hS () rfl hP hD (Nat.le_of_ble_eq_true rfl) (Nat.le_of_ble_eq_true rfl) d_V_count_92
set_option maxHeartbeats 4000000 in
set_option maxRecDepth 100000 in
theorem v_count_8 (l : Launch) (D : va_G) (dA : Nat → ClassId) (sz : Nat) (h : Nat) (ad : Nat → Nat) (x : VS) (PS : Nat → PT) (ho : x.powered = true) (hps : psOk dA x.nP x.npc x.pl PS) (hpn : x.npc ≤ 32) (h1 : x.nsc ≤ 64) (h7 : ∀ q : Nat, q < x.nsc → x.nsO q < 2 ^ 31) : Met l ⟨"SeriesVault", "count", "(I)I"⟩ [Cond.code ⟨"SeriesVault", "count", "(I)I"⟩ prog_1_method_43_code 2 (some FieldType.int)] { frames := 6, cells := 0, slots := 0, locals := 115 } (pC D dA [.ref h, .int 8] (VW dA h ad x) sz) (va_Qi (fun (r9 : Int32) (u9 : Unit) => r9 = nI (sumN x.npc (x.sbN PS (1099511627776 - 1)) + x.hsize)) (fun (u9 : Unit) t9 => bW D (va_A (VW dA h ad x) sz) (VW dA h ad x) t9) (va_A (VW dA h ad x) sz)) 0 0 (va_A (VW dA h ad x) sz) := by
  refine mkC (y := ⟨"SeriesVault", "count", "(I)I"⟩) (cc := prog_1_method_43_code) (maxL := 2) (av := [.ref h, .int 8]) (ws := VW dA h ad x) (sz := sz) (Qc := fun A => va_Qi (fun (r9 : Int32) (u9 : Unit) => r9 = nI (sumN x.npc (x.sbN PS (1099511627776 - 1)) + x.hsize)) (fun (u9 : Unit) t9 => bW D A (VW dA h ad x) t9) A) (by decide) (Nat.le_of_ble_eq_true rfl) ?_
  intro A p e s m below meth c ls hsz hB
  obtain ⟨hx, hb, hr, hml, hown, hin, hlk, hE, hK, hP, hD, hS, hA, hN, hl⟩ := hB
  have hown : s.vm.findClass "SeriesVault" = some m.cls := hown
  have hl : lv_has ls 2 [(0, .ref h), (1, .int 8)] := hl
  obtain ⟨H, hH⟩ : ∃ z, z = s.heap := ⟨_, rfl⟩
  have hP : va_P D vwCl (VW dA h ad x) H := by rw [hH]; exact hP
  have hS : va_S A s.heap H [] := by rw [hH]; exact hS
  rw [← hH]
  refine lv_aload_n hx hb d_V_count_0 rfl (lv_at hl 0 rfl) ?_
  refine jfV (rnV (As := []) (rest := []) hx hb hml hown hE hK (hN _ _ hS) hP hD (v_checkPower l D dA H.size h ad x ho) (q0 := 0) rfl rfl w278 w276 w279 w280 w277 rfl rfl ⟨⟨by decide, by decide⟩, rfl⟩ ⟨(Nat.le_of_ble_eq_true rfl), (Nat.le_of_ble_eq_true rfl)⟩ rfl hl.1 rfl (Nat.le_of_ble_eq_true rfl) d_V_count_1 ⟨(Nat.le_of_ble_eq_true rfl), (Nat.le_of_ble_eq_true rfl)⟩) hP hD hS hA (fun u2 H locs hp9 hP hD hS => ?_)
  have hP : va_P D vwCl (VW dA h ad x) H := hP
  have hD : va_D A (VW dA h ad x) := hD
  refine lv_iload_n hx hb d_V_count_4 rfl (lv_at hl 1 rfl) ?_
  refine lv_tableIn (x := 8) (off := 112) (tgt := 117) hx hb d_V_count_5 (by decide) (by decide) (by decide) rfl ?_
  refine lv_aload_n hx hb d_V_count_117 rfl (lv_at hl 0 rfl) ?_
  refine gF (v := .ref (ad 3)) hx hb hown hE hK hP 0 rfl rfl layV 11 (by decide) w297 rfl d_V_count_118 ?_
  refine jfI (rnV (As := []) (rest := []) hx hb hml hown hE hK (hN _ _ hS) hP hD (v_countAllSeen l D dA H.size h ad x PS hps (show x.npc ≤ 32 from by omega) (show x.nsc ≤ 64 from by omega) h7) (q0 := 17) rfl rfl w650 w649 w651 w652 w583 rfl rfl ⟨⟨by decide, by decide⟩, rfl⟩ ⟨(Nat.le_of_ble_eq_true rfl), (Nat.le_of_ble_eq_true rfl)⟩ rfl hl.1 rfl (Nat.le_of_ble_eq_true rfl) d_V_count_121 ⟨(Nat.le_of_ble_eq_true rfl), (Nat.le_of_ble_eq_true rfl)⟩) hP hD hS hA (fun r3 u4 H locs hp9 hP hD hS => ?_)
  have hP : va_P D vwCl (VW dA h ad x) H := hP
  have hD : va_D A (VW dA h ad x) := hD
  replace hp9 : nI (sumN x.npc (x.sbN PS (1099511627776 - 1))) = r3 := Eq.symm hp9
  subst hp9
  refine lv_aload_n hx hb d_V_count_124 rfl (lv_at hl 0 rfl) ?_
  refine gF (v := .ref (ad 1)) hx hb hown hE hK hP 0 rfl rfl layV 9 (by decide) w576 rfl d_V_count_125 ?_
  refine gFN (v := .int (nI x.hsize)) hx hb hown hE hK hP 9 rfl rfl layP 3 (by decide) w641 rfl d_V_count_128 ?_
  refine lv_iadd hx hb d_V_count_131 (tpi (y := nI ((sumN x.npc (x.sbN PS (1099511627776 - 1))) + x.hsize)) (nI_add (sumN x.npc (x.sbN PS (1099511627776 - 1))) (x.hsize)) ?_)
  exact rfI hx hb hr hlk hS () rfl hP hD (Nat.le_of_ble_eq_true rfl) (Nat.le_of_ble_eq_true rfl) d_V_count_132
set_option maxHeartbeats 4000000 in
set_option maxRecDepth 100000 in
theorem v_count_x (l : Launch) (htr : l.stackTraces = false) (D : va_G) (dA : Nat → ClassId) (sz : Nat) (h : Nat) (ad : Nat → Nat) (x : VS) (n : Int32) (ho : x.powered = false) : mX l ⟨"SeriesVault", "count", "(I)I"⟩ [Cond.code ⟨"SeriesVault", "count", "(I)I"⟩ prog_1_method_43_code 2 (some FieldType.int)] { frames := 7, cells := 1, slots := 6, locals := 101 } (pC D dA [.ref h, .int n] (VW dA h ad x) sz) "java/lang/IllegalStateException" (fun st9 t9 => va_F (va_A (VW dA h ad x) sz) st9 t9 ∧ bW D (va_A (VW dA h ad x) sz) (VW dA h ad x) t9) 1 6 (va_A (VW dA h ad x) sz) := by
  refine mkX (y := ⟨"SeriesVault", "count", "(I)I"⟩) (cc := prog_1_method_43_code) (maxL := 2) (av := [.ref h, .int n]) (ws := VW dA h ad x) (sz := sz) (B := fun A => (fun st9 t9 => va_F A st9 t9 ∧ bW D A (VW dA h ad x) t9)) (by decide) (Nat.le_of_ble_eq_true rfl) ?_
  intro A p e s m below meth c ls hsz hno hB
  obtain ⟨hx, hb, hr, hml, hown, hin, hlk, hE, hK, hP, hD, hS, hA, hN, hl⟩ := hB
  have hown : s.vm.findClass "SeriesVault" = some m.cls := hown
  have hl : lv_has ls 2 [(0, .ref h), (1, .int n)] := hl
  obtain ⟨H, hH⟩ : ∃ z, z = s.heap := ⟨_, rfl⟩
  have hP : va_P D vwCl (VW dA h ad x) H := by rw [hH]; exact hP
  have hS : va_S A s.heap H [] := by rw [hH]; exact hS
  rw [← hH]
  refine lv_aload_n hx hb d_V_count_0 rfl (lv_at hl 0 rfl) ?_
  refine xfV (w1 := VW dA h ad x) (As := []) (rest := []) hx hb hml hown hE hK (hN _ _ hS) (v_checkPower_x l htr D dA H.size h ad x ho) (q0 := 0) rfl rfl w278 w276 w279 w280 w277 rfl rfl ⟨⟨by decide, by decide⟩, rfl⟩ ⟨(Nat.le_of_ble_eq_true rfl), (Nat.le_of_ble_eq_true rfl)⟩ rfl hl.1 rfl (Nat.le_of_ble_eq_true rfl) d_V_count_1 ⟨(Nat.le_of_ble_eq_true rfl), (Nat.le_of_ble_eq_true rfl)⟩ hP hD hS hA (fun xa1 ce H locs hP hD hS hce hcv hcl => ?_)
  exact xOut hno hlk hce hcv hcl (fun t ht => xEndV hP hD hS t (by rw [ht]; exact Nat.le_refl _) (fun q _ => by rw [ht])) hS.2.2 (Nat.le_of_ble_eq_true rfl) (Nat.le_of_ble_eq_true rfl)
theorem tsw {n : Int32} {k : Int32} {z : Int} (hz : k.toInt = z) (h : n < 0 ∨ k < n) : n.toInt < 0 ∨ z < n.toInt := by
  rcases h with h | h
  · left
    have := Int32.lt_iff_toInt_lt.mp h
    rwa [show (0 : Int32).toInt = 0 by decide] at this
  · right
    have := Int32.lt_iff_toInt_lt.mp h
    rwa [hz] at this
set_option maxHeartbeats 4000000 in
set_option maxRecDepth 100000 in
theorem v_count_y (l : Launch) (htr : l.stackTraces = false) (D : va_G) (dA : Nat → ClassId) (sz : Nat) (h : Nat) (ad : Nat → Nat) (x : VS) (n : Int32) (ho : x.powered = true) (h0 : n < 0 ∨ 8 < n) : mX l ⟨"SeriesVault", "count", "(I)I"⟩ [Cond.code ⟨"SeriesVault", "count", "(I)I"⟩ prog_1_method_43_code 2 (some FieldType.int)] { frames := 6, cells := 1, slots := 6, locals := 81 } (pC D dA [.ref h, .int n] (VW dA h ad x) sz) "java/lang/IllegalArgumentException" (fun st9 t9 => va_F (va_A (VW dA h ad x) sz) st9 t9 ∧ bW D (va_A (VW dA h ad x) sz) (VW dA h ad x) t9) 1 6 (va_A (VW dA h ad x) sz) := by
  refine mkX (y := ⟨"SeriesVault", "count", "(I)I"⟩) (cc := prog_1_method_43_code) (maxL := 2) (av := [.ref h, .int n]) (ws := VW dA h ad x) (sz := sz) (B := fun A => (fun st9 t9 => va_F A st9 t9 ∧ bW D A (VW dA h ad x) t9)) (by decide) (Nat.le_of_ble_eq_true rfl) ?_
  intro A p e s m below meth c ls hsz hno hB
  obtain ⟨hx, hb, hr, hml, hown, hin, hlk, hE, hK, hP, hD, hS, hA, hN, hl⟩ := hB
  have hown : s.vm.findClass "SeriesVault" = some m.cls := hown
  have hl : lv_has ls 2 [(0, .ref h), (1, .int n)] := hl
  obtain ⟨H, hH⟩ : ∃ z, z = s.heap := ⟨_, rfl⟩
  have hP : va_P D vwCl (VW dA h ad x) H := by rw [hH]; exact hP
  have hS : va_S A s.heap H [] := by rw [hH]; exact hS
  rw [← hH]
  refine lv_aload_n hx hb d_V_count_0 rfl (lv_at hl 0 rfl) ?_
  refine jfV (rnV (As := []) (rest := []) hx hb hml hown hE hK (hN _ _ hS) hP hD (v_checkPower l D dA H.size h ad x ho) (q0 := 0) rfl rfl w278 w276 w279 w280 w277 rfl rfl ⟨⟨by decide, by decide⟩, rfl⟩ ⟨(Nat.le_of_ble_eq_true rfl), (Nat.le_of_ble_eq_true rfl)⟩ rfl hl.1 rfl (Nat.le_of_ble_eq_true rfl) d_V_count_1 ⟨(Nat.le_of_ble_eq_true rfl), (Nat.le_of_ble_eq_true rfl)⟩) hP hD hS hA (fun u2 H locs hp9 hP hD hS => ?_)
  have hP : va_P D vwCl (VW dA h ad x) H := hP
  have hD : va_D A (VW dA h ad x) := hD
  refine lv_iload_n hx hb d_V_count_4 rfl (lv_at hl 1 rfl) ?_
  refine lv_tableOut (tgt := 133) hx hb d_V_count_5 (tsw (k := 8) (by decide) h0) rfl ?_
  exact xNew (E := "java/lang/IllegalArgumentException") (names := ["java/lang/RuntimeException", "java/lang/Exception"]) hx hb htr hown (by decide) (by decide) hE w273 w274 (fun U hU => at_V_IAE hU) (hN _ _ hS) (hl.1.trans hml.symm) d_V_count_133 d_V_count_136 d_V_count_137 d_V_count_140 hno (by decide) (Nat.le_of_ble_eq_true rfl) (Nat.le_of_ble_eq_true rfl) (Nat.le_of_ble_eq_true rfl) hlk (fun t h1 h2 => xEndV hP hD hS t h1 h2) hS.2.2 (Nat.le_of_ble_eq_true rfl) (Nat.le_of_ble_eq_true rfl)
theorem d_V_parcel_27 : decode prog_1_method_44_code 27 = .ok (.aload_n 0, 1) := by decide +kernel
theorem d_V_parcel_28 : decode prog_1_method_44_code 28 = .ok (.getfield 33, 3) := by decide +kernel
theorem d_V_parcel_31 : decode prog_1_method_44_code 31 = .ok (.getfield 329, 3) := by decide +kernel
theorem d_V_parcel_34 : decode prog_1_method_44_code 34 = .ok (.iload_n 1, 1) := by decide +kernel
theorem d_V_parcel_35 : decode prog_1_method_44_code 35 = .ok (.aaload, 1) := by decide +kernel
theorem d_V_parcel_36 : decode prog_1_method_44_code 36 = .ok (.astore_n 3, 1) := by decide +kernel
theorem d_V_parcel_37 : decode prog_1_method_44_code 37 = .ok (.iload_n 2, 1) := by decide +kernel
theorem d_V_parcel_38 : decode prog_1_method_44_code 38 = .ok (.tableswitch 63 0 4 #[34, 39, 48, 53, 58], 34) := by decide +kernel
theorem d_V_parcel_72 : decode prog_1_method_44_code 72 = .ok (.aload_n 3, 1) := by decide +kernel
theorem d_V_parcel_73 : decode prog_1_method_44_code 73 = .ok (.getfield 369, 3) := by decide +kernel
theorem d_V_parcel_76 : decode prog_1_method_44_code 76 = .ok (.ireturn, 1) := by decide +kernel
theorem w1347 : Cond.fieldLinkNest "SeriesVault" 329 "SeriesVault$Shelf" "parcels" "[LSeriesVault$Parcel;" "SeriesVault" ∈ aW := aw_of (tb_1 (List.mem_of_getElem? (i := 142) rfl)) rfl
theorem w1348 : Cond.fieldLinkNest "SeriesVault" 369 "SeriesVault$Parcel" "size" "I" "SeriesVault" ∈ aW := aw_of (tb_6 (List.mem_of_getElem? (i := 56) rfl)) rfl
set_option maxHeartbeats 4000000 in
set_option maxRecDepth 100000 in
theorem v_parcel_0 (l : Launch) (D : va_G) (dA : Nat → ClassId) (sz : Nat) (h : Nat) (ad : Nat → Nat) (x : VS) (PS : Nat → PT) (k : Nat) (ho : x.powered = true) (hk : k < x.npc) (hps : psOk dA x.nP x.npc x.pl PS) (hpn : x.npc ≤ 32) : Met l ⟨"SeriesVault", "parcel", "(II)I"⟩ [Cond.code ⟨"SeriesVault", "parcel", "(II)I"⟩ prog_1_method_44_code 4 (some FieldType.int)] { frames := 2, cells := 0, slots := 0, locals := 20 } (pC D dA [.ref h, .int (nI k), .int 0] (VW dA h ad x) sz) (va_Qi (fun (r9 : Int32) (u9 : Unit) => r9 = nI (PS k).n) (fun (u9 : Unit) t9 => bW D (va_A (VW dA h ad x) sz) (VW dA h ad x) t9) (va_A (VW dA h ad x) sz)) 0 0 (va_A (VW dA h ad x) sz) := by
  refine mkC (y := ⟨"SeriesVault", "parcel", "(II)I"⟩) (cc := prog_1_method_44_code) (maxL := 4) (av := [.ref h, .int (nI k), .int 0]) (ws := VW dA h ad x) (sz := sz) (Qc := fun A => va_Qi (fun (r9 : Int32) (u9 : Unit) => r9 = nI (PS k).n) (fun (u9 : Unit) t9 => bW D A (VW dA h ad x) t9) A) (by decide) (Nat.le_of_ble_eq_true rfl) ?_
  intro A p e s m below meth c ls hsz hB
  obtain ⟨hx, hb, hr, hml, hown, hin, hlk, hE, hK, hP, hD, hS, hA, hN, hl⟩ := hB
  have hown : s.vm.findClass "SeriesVault" = some m.cls := hown
  have hl : lv_has ls 4 [(0, .ref h), (1, .int (nI k)), (2, .int 0)] := hl
  obtain ⟨H, hH⟩ : ∃ z, z = s.heap := ⟨_, rfl⟩
  have hP : va_P D vwCl (VW dA h ad x) H := by rw [hH]; exact hP
  have hS : va_S A s.heap H [] := by rw [hH]; exact hS
  rw [← hH]
  refine lv_aload_n hx hb d_V_parcel_0 rfl (lv_at hl 0 rfl) ?_
  refine jfV (rnV (As := []) (rest := []) hx hb hml hown hE hK (hN _ _ hS) hP hD (v_checkPower l D dA H.size h ad x ho) (q0 := 0) rfl rfl w278 w276 w279 w280 w277 rfl rfl ⟨⟨by decide, by decide⟩, rfl⟩ ⟨(Nat.le_of_ble_eq_true rfl), (Nat.le_of_ble_eq_true rfl)⟩ rfl hl.1 rfl (Nat.le_of_ble_eq_true rfl) d_V_parcel_1 ⟨(Nat.le_of_ble_eq_true rfl), (Nat.le_of_ble_eq_true rfl)⟩) hP hD hS hA (fun u2 H locs hp9 hP hD hS => ?_)
  have hP : va_P D vwCl (VW dA h ad x) H := hP
  have hD : va_D A (VW dA h ad x) := hD
  refine lv_iload_n hx hb d_V_parcel_4 rfl (lv_at hl 1 rfl) ?_
  refine lv_if_lt hx hb d_V_parcel_5 (tgt := 19) rfl (fun h9 => absurd h9 (nI_pos (n := k) (by omega))) (fun _ => ?_)
  refine lv_iload_n hx hb d_V_parcel_8 rfl (lv_at hl 1 rfl) ?_
  refine lv_aload_n hx hb d_V_parcel_9 rfl (lv_at hl 0 rfl) ?_
  refine gF (v := .ref (ad 3)) hx hb hown hE hK hP 0 rfl rfl layV 11 (by decide) w297 rfl d_V_parcel_10 ?_
  refine gFN (v := .int (nI x.npc)) hx hb hown hE hK hP 17 rfl rfl layH 1 (by decide) w303 rfl d_V_parcel_13 ?_
  refine lv_icmp_lt hx hb d_V_parcel_16 (tgt := 27) rfl (fun _ => ?_) (fun h9 => absurd ((nI_ltI (a := k) (b := x.npc) (by omega) (by omega)).mpr hk) h9)
  obtain ⟨pp, ke, hpp, hpk⟩ := hps k (by omega)
  have hpp0 := hpp
  obtain ⟨po, pt, pv, m1, m2, m3, m4⟩ := hpp
  have pk1 := hpk.1
  refine lv_aload_n hx hb d_V_parcel_27 rfl (lv_at hl 0 rfl) ?_
  refine gF (v := .ref (ad 3)) hx hb hown hE hK hP 0 rfl rfl layV 11 (by decide) w297 rfl d_V_parcel_28 ?_
  refine gFN (v := .ref (ad 4)) hx hb hown hE hK hP 17 rfl rfl layH 0 (by decide) w1347 rfl d_V_parcel_31 ?_
  refine lv_iload_n hx hb d_V_parcel_34 rfl (lv_at hl 1 rfl) ?_
  refine nqld (f := x.nP) (n := 32) hx hb hK hP (18) 4 rfl rfl (k) (by omega) (by decide) ke d_V_parcel_35 ?_
  refine lv_astore_n hx hb d_V_parcel_36 rfl hl (by decide) rfl (fun ls hl => ?_)
  have hl : lv_has ls 4 [(3, .ref pp), (0, .ref h), (1, .int (nI k)), (2, .int 0)] := hl
  refine lv_iload_n hx hb d_V_parcel_37 rfl (lv_at hl 3 rfl) ?_
  refine lv_tableIn (x := 0) (off := 34) (tgt := 72) hx hb d_V_parcel_38 (by decide) (by decide) (by decide) rfl ?_
  refine lv_aload_n hx hb d_V_parcel_72 rfl (lv_at hl 0 rfl) ?_
  obtain ⟨qp3, ep4⟩ := plv (dA := dA) (h := h) (ad := ad) (x := x) m1
  refine gFN (v := .int (nI (PS k).n)) hx hb hown hE hK hP qp3 ep4 rfl layC 3 (by decide) w1348 rfl d_V_parcel_73 ?_
  exact rfI hx hb hr hlk hS () rfl hP hD (Nat.le_of_ble_eq_true rfl) (Nat.le_of_ble_eq_true rfl) d_V_parcel_76
theorem d_V_parcel_86 : decode prog_1_method_44_code 86 = .ok (.aload_n 3, 1) := by decide +kernel
theorem d_V_parcel_87 : decode prog_1_method_44_code 87 = .ok (.getfield 373, 3) := by decide +kernel
theorem d_V_parcel_90 : decode prog_1_method_44_code 90 = .ok (.ireturn, 1) := by decide +kernel
theorem w1349 : Cond.fieldLinkNest "SeriesVault" 373 "SeriesVault$Parcel" "chunks" "I" "SeriesVault" ∈ aW := aw_of (tb_6 (List.mem_of_getElem? (i := 58) rfl)) rfl
set_option maxHeartbeats 4000000 in
set_option maxRecDepth 100000 in
theorem v_parcel_2 (l : Launch) (D : va_G) (dA : Nat → ClassId) (sz : Nat) (h : Nat) (ad : Nat → Nat) (x : VS) (PS : Nat → PT) (k : Nat) (ho : x.powered = true) (hk : k < x.npc) (hps : psOk dA x.nP x.npc x.pl PS) (hpn : x.npc ≤ 32) : Met l ⟨"SeriesVault", "parcel", "(II)I"⟩ [Cond.code ⟨"SeriesVault", "parcel", "(II)I"⟩ prog_1_method_44_code 4 (some FieldType.int)] { frames := 2, cells := 0, slots := 0, locals := 20 } (pC D dA [.ref h, .int (nI k), .int 2] (VW dA h ad x) sz) (va_Qi (fun (r9 : Int32) (u9 : Unit) => r9 = nI (PS k).ch) (fun (u9 : Unit) t9 => bW D (va_A (VW dA h ad x) sz) (VW dA h ad x) t9) (va_A (VW dA h ad x) sz)) 0 0 (va_A (VW dA h ad x) sz) := by
  refine mkC (y := ⟨"SeriesVault", "parcel", "(II)I"⟩) (cc := prog_1_method_44_code) (maxL := 4) (av := [.ref h, .int (nI k), .int 2]) (ws := VW dA h ad x) (sz := sz) (Qc := fun A => va_Qi (fun (r9 : Int32) (u9 : Unit) => r9 = nI (PS k).ch) (fun (u9 : Unit) t9 => bW D A (VW dA h ad x) t9) A) (by decide) (Nat.le_of_ble_eq_true rfl) ?_
  intro A p e s m below meth c ls hsz hB
  obtain ⟨hx, hb, hr, hml, hown, hin, hlk, hE, hK, hP, hD, hS, hA, hN, hl⟩ := hB
  have hown : s.vm.findClass "SeriesVault" = some m.cls := hown
  have hl : lv_has ls 4 [(0, .ref h), (1, .int (nI k)), (2, .int 2)] := hl
  obtain ⟨H, hH⟩ : ∃ z, z = s.heap := ⟨_, rfl⟩
  have hP : va_P D vwCl (VW dA h ad x) H := by rw [hH]; exact hP
  have hS : va_S A s.heap H [] := by rw [hH]; exact hS
  rw [← hH]
  refine lv_aload_n hx hb d_V_parcel_0 rfl (lv_at hl 0 rfl) ?_
  refine jfV (rnV (As := []) (rest := []) hx hb hml hown hE hK (hN _ _ hS) hP hD (v_checkPower l D dA H.size h ad x ho) (q0 := 0) rfl rfl w278 w276 w279 w280 w277 rfl rfl ⟨⟨by decide, by decide⟩, rfl⟩ ⟨(Nat.le_of_ble_eq_true rfl), (Nat.le_of_ble_eq_true rfl)⟩ rfl hl.1 rfl (Nat.le_of_ble_eq_true rfl) d_V_parcel_1 ⟨(Nat.le_of_ble_eq_true rfl), (Nat.le_of_ble_eq_true rfl)⟩) hP hD hS hA (fun u2 H locs hp9 hP hD hS => ?_)
  have hP : va_P D vwCl (VW dA h ad x) H := hP
  have hD : va_D A (VW dA h ad x) := hD
  refine lv_iload_n hx hb d_V_parcel_4 rfl (lv_at hl 1 rfl) ?_
  refine lv_if_lt hx hb d_V_parcel_5 (tgt := 19) rfl (fun h9 => absurd h9 (nI_pos (n := k) (by omega))) (fun _ => ?_)
  refine lv_iload_n hx hb d_V_parcel_8 rfl (lv_at hl 1 rfl) ?_
  refine lv_aload_n hx hb d_V_parcel_9 rfl (lv_at hl 0 rfl) ?_
  refine gF (v := .ref (ad 3)) hx hb hown hE hK hP 0 rfl rfl layV 11 (by decide) w297 rfl d_V_parcel_10 ?_
  refine gFN (v := .int (nI x.npc)) hx hb hown hE hK hP 17 rfl rfl layH 1 (by decide) w303 rfl d_V_parcel_13 ?_
  refine lv_icmp_lt hx hb d_V_parcel_16 (tgt := 27) rfl (fun _ => ?_) (fun h9 => absurd ((nI_ltI (a := k) (b := x.npc) (by omega) (by omega)).mpr hk) h9)
  obtain ⟨pp, ke, hpp, hpk⟩ := hps k (by omega)
  have hpp0 := hpp
  obtain ⟨po, pt, pv, m1, m2, m3, m4⟩ := hpp
  have pk1 := hpk.1
  refine lv_aload_n hx hb d_V_parcel_27 rfl (lv_at hl 0 rfl) ?_
  refine gF (v := .ref (ad 3)) hx hb hown hE hK hP 0 rfl rfl layV 11 (by decide) w297 rfl d_V_parcel_28 ?_
  refine gFN (v := .ref (ad 4)) hx hb hown hE hK hP 17 rfl rfl layH 0 (by decide) w1347 rfl d_V_parcel_31 ?_
  refine lv_iload_n hx hb d_V_parcel_34 rfl (lv_at hl 1 rfl) ?_
  refine nqld (f := x.nP) (n := 32) hx hb hK hP (18) 4 rfl rfl (k) (by omega) (by decide) ke d_V_parcel_35 ?_
  refine lv_astore_n hx hb d_V_parcel_36 rfl hl (by decide) rfl (fun ls hl => ?_)
  have hl : lv_has ls 4 [(3, .ref pp), (0, .ref h), (1, .int (nI k)), (2, .int 2)] := hl
  refine lv_iload_n hx hb d_V_parcel_37 rfl (lv_at hl 3 rfl) ?_
  refine lv_tableIn (x := 2) (off := 48) (tgt := 86) hx hb d_V_parcel_38 (by decide) (by decide) (by decide) rfl ?_
  refine lv_aload_n hx hb d_V_parcel_86 rfl (lv_at hl 0 rfl) ?_
  obtain ⟨qp3, ep4⟩ := plv (dA := dA) (h := h) (ad := ad) (x := x) m1
  refine gFN (v := .int (nI (PS k).ch)) hx hb hown hE hK hP qp3 ep4 rfl layC 4 (by decide) w1349 rfl d_V_parcel_87 ?_
  exact rfI hx hb hr hlk hS () rfl hP hD (Nat.le_of_ble_eq_true rfl) (Nat.le_of_ble_eq_true rfl) d_V_parcel_90
theorem d_V_parcel_91 : decode prog_1_method_44_code 91 = .ok (.aload_n 3, 1) := by decide +kernel
theorem d_V_parcel_92 : decode prog_1_method_44_code 92 = .ok (.getfield 376, 3) := by decide +kernel
theorem d_V_parcel_95 : decode prog_1_method_44_code 95 = .ok (.ireturn, 1) := by decide +kernel
theorem w1350 : Cond.fieldLinkNest "SeriesVault" 376 "SeriesVault$Parcel" "bits" "I" "SeriesVault" ∈ aW := aw_of (tb_6 (List.mem_of_getElem? (i := 60) rfl)) rfl
set_option maxHeartbeats 4000000 in
set_option maxRecDepth 100000 in
theorem v_parcel_3 (l : Launch) (D : va_G) (dA : Nat → ClassId) (sz : Nat) (h : Nat) (ad : Nat → Nat) (x : VS) (PS : Nat → PT) (k : Nat) (ho : x.powered = true) (hk : k < x.npc) (hps : psOk dA x.nP x.npc x.pl PS) (hpn : x.npc ≤ 32) : Met l ⟨"SeriesVault", "parcel", "(II)I"⟩ [Cond.code ⟨"SeriesVault", "parcel", "(II)I"⟩ prog_1_method_44_code 4 (some FieldType.int)] { frames := 2, cells := 0, slots := 0, locals := 20 } (pC D dA [.ref h, .int (nI k), .int 3] (VW dA h ad x) sz) (va_Qi (fun (r9 : Int32) (u9 : Unit) => r9 = nI (PS k).bi) (fun (u9 : Unit) t9 => bW D (va_A (VW dA h ad x) sz) (VW dA h ad x) t9) (va_A (VW dA h ad x) sz)) 0 0 (va_A (VW dA h ad x) sz) := by
  refine mkC (y := ⟨"SeriesVault", "parcel", "(II)I"⟩) (cc := prog_1_method_44_code) (maxL := 4) (av := [.ref h, .int (nI k), .int 3]) (ws := VW dA h ad x) (sz := sz) (Qc := fun A => va_Qi (fun (r9 : Int32) (u9 : Unit) => r9 = nI (PS k).bi) (fun (u9 : Unit) t9 => bW D A (VW dA h ad x) t9) A) (by decide) (Nat.le_of_ble_eq_true rfl) ?_
  intro A p e s m below meth c ls hsz hB
  obtain ⟨hx, hb, hr, hml, hown, hin, hlk, hE, hK, hP, hD, hS, hA, hN, hl⟩ := hB
  have hown : s.vm.findClass "SeriesVault" = some m.cls := hown
  have hl : lv_has ls 4 [(0, .ref h), (1, .int (nI k)), (2, .int 3)] := hl
  obtain ⟨H, hH⟩ : ∃ z, z = s.heap := ⟨_, rfl⟩
  have hP : va_P D vwCl (VW dA h ad x) H := by rw [hH]; exact hP
  have hS : va_S A s.heap H [] := by rw [hH]; exact hS
  rw [← hH]
  refine lv_aload_n hx hb d_V_parcel_0 rfl (lv_at hl 0 rfl) ?_
  refine jfV (rnV (As := []) (rest := []) hx hb hml hown hE hK (hN _ _ hS) hP hD (v_checkPower l D dA H.size h ad x ho) (q0 := 0) rfl rfl w278 w276 w279 w280 w277 rfl rfl ⟨⟨by decide, by decide⟩, rfl⟩ ⟨(Nat.le_of_ble_eq_true rfl), (Nat.le_of_ble_eq_true rfl)⟩ rfl hl.1 rfl (Nat.le_of_ble_eq_true rfl) d_V_parcel_1 ⟨(Nat.le_of_ble_eq_true rfl), (Nat.le_of_ble_eq_true rfl)⟩) hP hD hS hA (fun u2 H locs hp9 hP hD hS => ?_)
  have hP : va_P D vwCl (VW dA h ad x) H := hP
  have hD : va_D A (VW dA h ad x) := hD
  refine lv_iload_n hx hb d_V_parcel_4 rfl (lv_at hl 1 rfl) ?_
  refine lv_if_lt hx hb d_V_parcel_5 (tgt := 19) rfl (fun h9 => absurd h9 (nI_pos (n := k) (by omega))) (fun _ => ?_)
  refine lv_iload_n hx hb d_V_parcel_8 rfl (lv_at hl 1 rfl) ?_
  refine lv_aload_n hx hb d_V_parcel_9 rfl (lv_at hl 0 rfl) ?_
  refine gF (v := .ref (ad 3)) hx hb hown hE hK hP 0 rfl rfl layV 11 (by decide) w297 rfl d_V_parcel_10 ?_
  refine gFN (v := .int (nI x.npc)) hx hb hown hE hK hP 17 rfl rfl layH 1 (by decide) w303 rfl d_V_parcel_13 ?_
  refine lv_icmp_lt hx hb d_V_parcel_16 (tgt := 27) rfl (fun _ => ?_) (fun h9 => absurd ((nI_ltI (a := k) (b := x.npc) (by omega) (by omega)).mpr hk) h9)
  obtain ⟨pp, ke, hpp, hpk⟩ := hps k (by omega)
  have hpp0 := hpp
  obtain ⟨po, pt, pv, m1, m2, m3, m4⟩ := hpp
  have pk1 := hpk.1
  refine lv_aload_n hx hb d_V_parcel_27 rfl (lv_at hl 0 rfl) ?_
  refine gF (v := .ref (ad 3)) hx hb hown hE hK hP 0 rfl rfl layV 11 (by decide) w297 rfl d_V_parcel_28 ?_
  refine gFN (v := .ref (ad 4)) hx hb hown hE hK hP 17 rfl rfl layH 0 (by decide) w1347 rfl d_V_parcel_31 ?_
  refine lv_iload_n hx hb d_V_parcel_34 rfl (lv_at hl 1 rfl) ?_
  refine nqld (f := x.nP) (n := 32) hx hb hK hP (18) 4 rfl rfl (k) (by omega) (by decide) ke d_V_parcel_35 ?_
  refine lv_astore_n hx hb d_V_parcel_36 rfl hl (by decide) rfl (fun ls hl => ?_)
  have hl : lv_has ls 4 [(3, .ref pp), (0, .ref h), (1, .int (nI k)), (2, .int 3)] := hl
  refine lv_iload_n hx hb d_V_parcel_37 rfl (lv_at hl 3 rfl) ?_
  refine lv_tableIn (x := 3) (off := 53) (tgt := 91) hx hb d_V_parcel_38 (by decide) (by decide) (by decide) rfl ?_
  refine lv_aload_n hx hb d_V_parcel_91 rfl (lv_at hl 0 rfl) ?_
  obtain ⟨qp3, ep4⟩ := plv (dA := dA) (h := h) (ad := ad) (x := x) m1
  refine gFN (v := .int (nI (PS k).bi)) hx hb hown hE hK hP qp3 ep4 rfl layC 5 (by decide) w1350 rfl d_V_parcel_92 ?_
  exact rfI hx hb hr hlk hS () rfl hP hD (Nat.le_of_ble_eq_true rfl) (Nat.le_of_ble_eq_true rfl) d_V_parcel_95
theorem d_V_parcel_96 : decode prog_1_method_44_code 96 = .ok (.aload_n 3, 1) := by decide +kernel
theorem d_V_parcel_97 : decode prog_1_method_44_code 97 = .ok (.getfield 326, 3) := by decide +kernel
theorem d_V_parcel_100 : decode prog_1_method_44_code 100 = .ok (.ireturn, 1) := by decide +kernel
set_option maxHeartbeats 4000000 in
set_option maxRecDepth 100000 in
theorem v_parcel_4 (l : Launch) (D : va_G) (dA : Nat → ClassId) (sz : Nat) (h : Nat) (ad : Nat → Nat) (x : VS) (PS : Nat → PT) (k : Nat) (ho : x.powered = true) (hk : k < x.npc) (hps : psOk dA x.nP x.npc x.pl PS) (hpn : x.npc ≤ 32) : Met l ⟨"SeriesVault", "parcel", "(II)I"⟩ [Cond.code ⟨"SeriesVault", "parcel", "(II)I"⟩ prog_1_method_44_code 4 (some FieldType.int)] { frames := 2, cells := 0, slots := 0, locals := 20 } (pC D dA [.ref h, .int (nI k), .int 4] (VW dA h ad x) sz) (va_Qi (fun (r9 : Int32) (u9 : Unit) => r9 = nI (PS k).bl) (fun (u9 : Unit) t9 => bW D (va_A (VW dA h ad x) sz) (VW dA h ad x) t9) (va_A (VW dA h ad x) sz)) 0 0 (va_A (VW dA h ad x) sz) := by
  refine mkC (y := ⟨"SeriesVault", "parcel", "(II)I"⟩) (cc := prog_1_method_44_code) (maxL := 4) (av := [.ref h, .int (nI k), .int 4]) (ws := VW dA h ad x) (sz := sz) (Qc := fun A => va_Qi (fun (r9 : Int32) (u9 : Unit) => r9 = nI (PS k).bl) (fun (u9 : Unit) t9 => bW D A (VW dA h ad x) t9) A) (by decide) (Nat.le_of_ble_eq_true rfl) ?_
  intro A p e s m below meth c ls hsz hB
  obtain ⟨hx, hb, hr, hml, hown, hin, hlk, hE, hK, hP, hD, hS, hA, hN, hl⟩ := hB
  have hown : s.vm.findClass "SeriesVault" = some m.cls := hown
  have hl : lv_has ls 4 [(0, .ref h), (1, .int (nI k)), (2, .int 4)] := hl
  obtain ⟨H, hH⟩ : ∃ z, z = s.heap := ⟨_, rfl⟩
  have hP : va_P D vwCl (VW dA h ad x) H := by rw [hH]; exact hP
  have hS : va_S A s.heap H [] := by rw [hH]; exact hS
  rw [← hH]
  refine lv_aload_n hx hb d_V_parcel_0 rfl (lv_at hl 0 rfl) ?_
  refine jfV (rnV (As := []) (rest := []) hx hb hml hown hE hK (hN _ _ hS) hP hD (v_checkPower l D dA H.size h ad x ho) (q0 := 0) rfl rfl w278 w276 w279 w280 w277 rfl rfl ⟨⟨by decide, by decide⟩, rfl⟩ ⟨(Nat.le_of_ble_eq_true rfl), (Nat.le_of_ble_eq_true rfl)⟩ rfl hl.1 rfl (Nat.le_of_ble_eq_true rfl) d_V_parcel_1 ⟨(Nat.le_of_ble_eq_true rfl), (Nat.le_of_ble_eq_true rfl)⟩) hP hD hS hA (fun u2 H locs hp9 hP hD hS => ?_)
  have hP : va_P D vwCl (VW dA h ad x) H := hP
  have hD : va_D A (VW dA h ad x) := hD
  refine lv_iload_n hx hb d_V_parcel_4 rfl (lv_at hl 1 rfl) ?_
  refine lv_if_lt hx hb d_V_parcel_5 (tgt := 19) rfl (fun h9 => absurd h9 (nI_pos (n := k) (by omega))) (fun _ => ?_)
  refine lv_iload_n hx hb d_V_parcel_8 rfl (lv_at hl 1 rfl) ?_
  refine lv_aload_n hx hb d_V_parcel_9 rfl (lv_at hl 0 rfl) ?_
  refine gF (v := .ref (ad 3)) hx hb hown hE hK hP 0 rfl rfl layV 11 (by decide) w297 rfl d_V_parcel_10 ?_
  refine gFN (v := .int (nI x.npc)) hx hb hown hE hK hP 17 rfl rfl layH 1 (by decide) w303 rfl d_V_parcel_13 ?_
  refine lv_icmp_lt hx hb d_V_parcel_16 (tgt := 27) rfl (fun _ => ?_) (fun h9 => absurd ((nI_ltI (a := k) (b := x.npc) (by omega) (by omega)).mpr hk) h9)
  obtain ⟨pp, ke, hpp, hpk⟩ := hps k (by omega)
  have hpp0 := hpp
  obtain ⟨po, pt, pv, m1, m2, m3, m4⟩ := hpp
  have pk1 := hpk.1
  refine lv_aload_n hx hb d_V_parcel_27 rfl (lv_at hl 0 rfl) ?_
  refine gF (v := .ref (ad 3)) hx hb hown hE hK hP 0 rfl rfl layV 11 (by decide) w297 rfl d_V_parcel_28 ?_
  refine gFN (v := .ref (ad 4)) hx hb hown hE hK hP 17 rfl rfl layH 0 (by decide) w1347 rfl d_V_parcel_31 ?_
  refine lv_iload_n hx hb d_V_parcel_34 rfl (lv_at hl 1 rfl) ?_
  refine nqld (f := x.nP) (n := 32) hx hb hK hP (18) 4 rfl rfl (k) (by omega) (by decide) ke d_V_parcel_35 ?_
  refine lv_astore_n hx hb d_V_parcel_36 rfl hl (by decide) rfl (fun ls hl => ?_)
  have hl : lv_has ls 4 [(3, .ref pp), (0, .ref h), (1, .int (nI k)), (2, .int 4)] := hl
  refine lv_iload_n hx hb d_V_parcel_37 rfl (lv_at hl 3 rfl) ?_
  refine lv_tableIn (x := 4) (off := 58) (tgt := 96) hx hb d_V_parcel_38 (by decide) (by decide) (by decide) rfl ?_
  refine lv_aload_n hx hb d_V_parcel_96 rfl (lv_at hl 0 rfl) ?_
  obtain ⟨qp3, ep4⟩ := plv (dA := dA) (h := h) (ad := ad) (x := x) m1
  refine gFN (v := .int (nI (PS k).bl)) hx hb hown hE hK hP qp3 ep4 rfl layC 6 (by decide) w1249 rfl d_V_parcel_97 ?_
  exact rfI hx hb hr hlk hS () rfl hP hD (Nat.le_of_ble_eq_true rfl) (Nat.le_of_ble_eq_true rfl) d_V_parcel_100
theorem d_V_parcel_77 : decode prog_1_method_44_code 77 = .ok (.aload_n 0, 1) := by decide +kernel
theorem d_V_parcel_78 : decode prog_1_method_44_code 78 = .ok (.getfield 33, 3) := by decide +kernel
theorem d_V_parcel_81 : decode prog_1_method_44_code 81 = .ok (.aload_n 3, 1) := by decide +kernel
theorem d_V_parcel_82 : decode prog_1_method_44_code 82 = .ok (.invokevirtual 370, 3) := by decide +kernel
theorem d_V_parcel_85 : decode prog_1_method_44_code 85 = .ok (.ireturn, 1) := by decide +kernel
theorem w1351 : Cond.methodLink "SeriesVault" 370 ⟨"SeriesVault$Shelf", "countSeenOf", "(LSeriesVault$Parcel;)I"⟩ ∈ aW := aw_of (tb_8 (List.mem_of_getElem? (i := 126) rfl)) rfl
theorem w1352 : Cond.code ⟨"SeriesVault$Shelf", "countSeenOf", "(LSeriesVault$Parcel;)I"⟩ prog_9_method_15_code 2 (some FieldType.int) ∈ aW := aw_of (tb_8 (List.mem_of_getElem? (i := 129) rfl)) rfl
theorem w1353 : Cond.instanceMethod ⟨"SeriesVault$Shelf", "countSeenOf", "(LSeriesVault$Parcel;)I"⟩ ∈ aW := aw_of (tb_8 (List.mem_of_getElem? (i := 127) rfl)) rfl
theorem w1354 : Cond.selects "SeriesVault$Shelf" ⟨"SeriesVault$Shelf", "countSeenOf", "(LSeriesVault$Parcel;)I"⟩ ⟨"SeriesVault$Shelf", "countSeenOf", "(LSeriesVault$Parcel;)I"⟩ ∈ aW := aw_of (tb_8 (List.mem_of_getElem? (i := 128) rfl)) rfl
set_option maxHeartbeats 4000000 in
set_option maxRecDepth 100000 in
theorem v_parcel_1 (l : Launch) (D : va_G) (dA : Nat → ClassId) (sz : Nat) (h : Nat) (ad : Nat → Nat) (x : VS) (PS : Nat → PT) (k : Nat) (ho : x.powered = true) (hk : k < x.npc) (hps : psOk dA x.nP x.npc x.pl PS) (hpn : x.npc ≤ 32) (h1 : x.nsc ≤ 64) (h7 : ∀ q : Nat, q < x.nsc → x.nsO q < 2 ^ 31) : Met l ⟨"SeriesVault", "parcel", "(II)I"⟩ [Cond.code ⟨"SeriesVault", "parcel", "(II)I"⟩ prog_1_method_44_code 4 (some FieldType.int)] { frames := 5, cells := 0, slots := 0, locals := 92 } (pC D dA [.ref h, .int (nI k), .int 1] (VW dA h ad x) sz) (va_Qi (fun (r9 : Int32) (u9 : Unit) => r9 = nI (cnt (PS k).n (x.siPc (PS k) 1099511627775))) (fun (u9 : Unit) t9 => bW D (va_A (VW dA h ad x) sz) (VW dA h ad x) t9) (va_A (VW dA h ad x) sz)) 0 0 (va_A (VW dA h ad x) sz) := by
  refine mkC (y := ⟨"SeriesVault", "parcel", "(II)I"⟩) (cc := prog_1_method_44_code) (maxL := 4) (av := [.ref h, .int (nI k), .int 1]) (ws := VW dA h ad x) (sz := sz) (Qc := fun A => va_Qi (fun (r9 : Int32) (u9 : Unit) => r9 = nI (cnt (PS k).n (x.siPc (PS k) 1099511627775))) (fun (u9 : Unit) t9 => bW D A (VW dA h ad x) t9) A) (by decide) (Nat.le_of_ble_eq_true rfl) ?_
  intro A p e s m below meth c ls hsz hB
  obtain ⟨hx, hb, hr, hml, hown, hin, hlk, hE, hK, hP, hD, hS, hA, hN, hl⟩ := hB
  have hown : s.vm.findClass "SeriesVault" = some m.cls := hown
  have hl : lv_has ls 4 [(0, .ref h), (1, .int (nI k)), (2, .int 1)] := hl
  obtain ⟨H, hH⟩ : ∃ z, z = s.heap := ⟨_, rfl⟩
  have hP : va_P D vwCl (VW dA h ad x) H := by rw [hH]; exact hP
  have hS : va_S A s.heap H [] := by rw [hH]; exact hS
  rw [← hH]
  refine lv_aload_n hx hb d_V_parcel_0 rfl (lv_at hl 0 rfl) ?_
  refine jfV (rnV (As := []) (rest := []) hx hb hml hown hE hK (hN _ _ hS) hP hD (v_checkPower l D dA H.size h ad x ho) (q0 := 0) rfl rfl w278 w276 w279 w280 w277 rfl rfl ⟨⟨by decide, by decide⟩, rfl⟩ ⟨(Nat.le_of_ble_eq_true rfl), (Nat.le_of_ble_eq_true rfl)⟩ rfl hl.1 rfl (Nat.le_of_ble_eq_true rfl) d_V_parcel_1 ⟨(Nat.le_of_ble_eq_true rfl), (Nat.le_of_ble_eq_true rfl)⟩) hP hD hS hA (fun u2 H locs hp9 hP hD hS => ?_)
  have hP : va_P D vwCl (VW dA h ad x) H := hP
  have hD : va_D A (VW dA h ad x) := hD
  refine lv_iload_n hx hb d_V_parcel_4 rfl (lv_at hl 1 rfl) ?_
  refine lv_if_lt hx hb d_V_parcel_5 (tgt := 19) rfl (fun h9 => absurd h9 (nI_pos (n := k) (by omega))) (fun _ => ?_)
  refine lv_iload_n hx hb d_V_parcel_8 rfl (lv_at hl 1 rfl) ?_
  refine lv_aload_n hx hb d_V_parcel_9 rfl (lv_at hl 0 rfl) ?_
  refine gF (v := .ref (ad 3)) hx hb hown hE hK hP 0 rfl rfl layV 11 (by decide) w297 rfl d_V_parcel_10 ?_
  refine gFN (v := .int (nI x.npc)) hx hb hown hE hK hP 17 rfl rfl layH 1 (by decide) w303 rfl d_V_parcel_13 ?_
  refine lv_icmp_lt hx hb d_V_parcel_16 (tgt := 27) rfl (fun _ => ?_) (fun h9 => absurd ((nI_ltI (a := k) (b := x.npc) (by omega) (by omega)).mpr hk) h9)
  obtain ⟨pp, ke, hpp, hpk⟩ := hps k (by omega)
  have hpp0 := hpp
  obtain ⟨po, pt, pv, m1, m2, m3, m4⟩ := hpp
  have pk1 := hpk.1
  refine lv_aload_n hx hb d_V_parcel_27 rfl (lv_at hl 0 rfl) ?_
  refine gF (v := .ref (ad 3)) hx hb hown hE hK hP 0 rfl rfl layV 11 (by decide) w297 rfl d_V_parcel_28 ?_
  refine gFN (v := .ref (ad 4)) hx hb hown hE hK hP 17 rfl rfl layH 0 (by decide) w1347 rfl d_V_parcel_31 ?_
  refine lv_iload_n hx hb d_V_parcel_34 rfl (lv_at hl 1 rfl) ?_
  refine nqld (f := x.nP) (n := 32) hx hb hK hP (18) 4 rfl rfl (k) (by omega) (by decide) ke d_V_parcel_35 ?_
  refine lv_astore_n hx hb d_V_parcel_36 rfl hl (by decide) rfl (fun ls hl => ?_)
  have hl : lv_has ls 4 [(3, .ref pp), (0, .ref h), (1, .int (nI k)), (2, .int 1)] := hl
  refine lv_iload_n hx hb d_V_parcel_37 rfl (lv_at hl 3 rfl) ?_
  refine lv_tableIn (x := 1) (off := 39) (tgt := 77) hx hb d_V_parcel_38 (by decide) (by decide) (by decide) rfl ?_
  refine lv_aload_n hx hb d_V_parcel_77 rfl (lv_at hl 1 rfl) ?_
  refine gF (v := .ref (ad 3)) hx hb hown hE hK hP 0 rfl rfl layV 11 (by decide) w297 rfl d_V_parcel_78 ?_
  refine lv_aload_n hx hb d_V_parcel_81 rfl (lv_at hl 0 rfl) ?_
  refine jfI (rnV (As := [.ref pp]) (rest := []) hx hb hml hown hE hK (hN _ _ hS) hP hD (v_countSeenOf l D dA H.size h ad x pp (PS k) hpp0 hpk (show x.nsc ≤ 64 from by omega) h7) (q0 := 17) rfl rfl w1352 w1351 w1353 w1354 w583 rfl rfl ⟨⟨by decide, by decide⟩, rfl⟩ ⟨(Nat.le_of_ble_eq_true rfl), (Nat.le_of_ble_eq_true rfl)⟩ rfl hl.1 rfl (Nat.le_of_ble_eq_true rfl) d_V_parcel_82 ⟨(Nat.le_of_ble_eq_true rfl), (Nat.le_of_ble_eq_true rfl)⟩) hP hD hS hA (fun r3 u4 H locs hp9 hP hD hS => ?_)
  have hP : va_P D vwCl (VW dA h ad x) H := hP
  have hD : va_D A (VW dA h ad x) := hD
  replace hp9 : nI (cnt (PS k).n (x.siPc (PS k) 1099511627775)) = r3 := Eq.symm hp9
  subst hp9
  exact rfI hx hb hr hlk hS () rfl hP hD (Nat.le_of_ble_eq_true rfl) (Nat.le_of_ble_eq_true rfl) d_V_parcel_85
set_option maxHeartbeats 4000000 in
set_option maxRecDepth 100000 in
theorem v_parcel_x (l : Launch) (htr : l.stackTraces = false) (D : va_G) (dA : Nat → ClassId) (sz : Nat) (h : Nat) (ad : Nat → Nat) (x : VS) (n : Int32) (j : Int32) (ho : x.powered = false) : mX l ⟨"SeriesVault", "parcel", "(II)I"⟩ [Cond.code ⟨"SeriesVault", "parcel", "(II)I"⟩ prog_1_method_44_code 4 (some FieldType.int)] { frames := 7, cells := 1, slots := 6, locals := 101 } (pC D dA [.ref h, .int n, .int j] (VW dA h ad x) sz) "java/lang/IllegalStateException" (fun st9 t9 => va_F (va_A (VW dA h ad x) sz) st9 t9 ∧ bW D (va_A (VW dA h ad x) sz) (VW dA h ad x) t9) 1 6 (va_A (VW dA h ad x) sz) := by
  refine mkX (y := ⟨"SeriesVault", "parcel", "(II)I"⟩) (cc := prog_1_method_44_code) (maxL := 4) (av := [.ref h, .int n, .int j]) (ws := VW dA h ad x) (sz := sz) (B := fun A => (fun st9 t9 => va_F A st9 t9 ∧ bW D A (VW dA h ad x) t9)) (by decide) (Nat.le_of_ble_eq_true rfl) ?_
  intro A p e s m below meth c ls hsz hno hB
  obtain ⟨hx, hb, hr, hml, hown, hin, hlk, hE, hK, hP, hD, hS, hA, hN, hl⟩ := hB
  have hown : s.vm.findClass "SeriesVault" = some m.cls := hown
  have hl : lv_has ls 4 [(0, .ref h), (1, .int n), (2, .int j)] := hl
  obtain ⟨H, hH⟩ : ∃ z, z = s.heap := ⟨_, rfl⟩
  have hP : va_P D vwCl (VW dA h ad x) H := by rw [hH]; exact hP
  have hS : va_S A s.heap H [] := by rw [hH]; exact hS
  rw [← hH]
  refine lv_aload_n hx hb d_V_parcel_0 rfl (lv_at hl 0 rfl) ?_
  refine xfV (w1 := VW dA h ad x) (As := []) (rest := []) hx hb hml hown hE hK (hN _ _ hS) (v_checkPower_x l htr D dA H.size h ad x ho) (q0 := 0) rfl rfl w278 w276 w279 w280 w277 rfl rfl ⟨⟨by decide, by decide⟩, rfl⟩ ⟨(Nat.le_of_ble_eq_true rfl), (Nat.le_of_ble_eq_true rfl)⟩ rfl hl.1 rfl (Nat.le_of_ble_eq_true rfl) d_V_parcel_1 ⟨(Nat.le_of_ble_eq_true rfl), (Nat.le_of_ble_eq_true rfl)⟩ hP hD hS hA (fun xa1 ce H locs hP hD hS hce hcv hcl => ?_)
  exact xOut hno hlk hce hcv hcl (fun t ht => xEndV hP hD hS t (by rw [ht]; exact Nat.le_refl _) (fun q _ => by rw [ht])) hS.2.2 (Nat.le_of_ble_eq_true rfl) (Nat.le_of_ble_eq_true rfl)
set_option maxHeartbeats 4000000 in
set_option maxRecDepth 100000 in
theorem v_parcel_y (l : Launch) (htr : l.stackTraces = false) (D : va_G) (dA : Nat → ClassId) (sz : Nat) (h : Nat) (ad : Nat → Nat) (x : VS) (n : Int32) (j : Int32) (ho : x.powered = true) (h0 : n < 0 ∨ nI x.npc ≤ n) : mX l ⟨"SeriesVault", "parcel", "(II)I"⟩ [Cond.code ⟨"SeriesVault", "parcel", "(II)I"⟩ prog_1_method_44_code 4 (some FieldType.int)] { frames := 6, cells := 1, slots := 6, locals := 81 } (pC D dA [.ref h, .int n, .int j] (VW dA h ad x) sz) "java/lang/IndexOutOfBoundsException" (fun st9 t9 => va_F (va_A (VW dA h ad x) sz) st9 t9 ∧ bW D (va_A (VW dA h ad x) sz) (VW dA h ad x) t9) 1 6 (va_A (VW dA h ad x) sz) := by
  refine mkX (y := ⟨"SeriesVault", "parcel", "(II)I"⟩) (cc := prog_1_method_44_code) (maxL := 4) (av := [.ref h, .int n, .int j]) (ws := VW dA h ad x) (sz := sz) (B := fun A => (fun st9 t9 => va_F A st9 t9 ∧ bW D A (VW dA h ad x) t9)) (by decide) (Nat.le_of_ble_eq_true rfl) ?_
  intro A p e s m below meth c ls hsz hno hB
  obtain ⟨hx, hb, hr, hml, hown, hin, hlk, hE, hK, hP, hD, hS, hA, hN, hl⟩ := hB
  have hown : s.vm.findClass "SeriesVault" = some m.cls := hown
  have hl : lv_has ls 4 [(0, .ref h), (1, .int n), (2, .int j)] := hl
  obtain ⟨H, hH⟩ : ∃ z, z = s.heap := ⟨_, rfl⟩
  have hP : va_P D vwCl (VW dA h ad x) H := by rw [hH]; exact hP
  have hS : va_S A s.heap H [] := by rw [hH]; exact hS
  rw [← hH]
  refine lv_aload_n hx hb d_V_parcel_0 rfl (lv_at hl 0 rfl) ?_
  refine jfV (rnV (As := []) (rest := []) hx hb hml hown hE hK (hN _ _ hS) hP hD (v_checkPower l D dA H.size h ad x ho) (q0 := 0) rfl rfl w278 w276 w279 w280 w277 rfl rfl ⟨⟨by decide, by decide⟩, rfl⟩ ⟨(Nat.le_of_ble_eq_true rfl), (Nat.le_of_ble_eq_true rfl)⟩ rfl hl.1 rfl (Nat.le_of_ble_eq_true rfl) d_V_parcel_1 ⟨(Nat.le_of_ble_eq_true rfl), (Nat.le_of_ble_eq_true rfl)⟩) hP hD hS hA (fun u2 H locs hp9 hP hD hS => ?_)
  have hP : va_P D vwCl (VW dA h ad x) H := hP
  have hD : va_D A (VW dA h ad x) := hD
  refine lv_iload_n hx hb d_V_parcel_4 rfl (lv_at hl 1 rfl) ?_
  refine lv_if_lt hx hb d_V_parcel_5 (tgt := 19) rfl (fun g3 => ?_) (fun g3 => ?_)
  · have g3 := g3
    exact xNew (E := "java/lang/IndexOutOfBoundsException") (names := ["java/lang/RuntimeException", "java/lang/Exception"]) hx hb htr hown (by decide) (by decide) hE w257 w258 (fun U hU => at_V_IOOBE hU) (hN _ _ hS) (hl.1.trans hml.symm) d_V_parcel_19 d_V_parcel_22 d_V_parcel_23 d_V_parcel_26 hno (by decide) (Nat.le_of_ble_eq_true rfl) (Nat.le_of_ble_eq_true rfl) (Nat.le_of_ble_eq_true rfl) hlk (fun t h1 h2 => xEndV hP hD hS t h1 h2) hS.2.2 (Nat.le_of_ble_eq_true rfl) (Nat.le_of_ble_eq_true rfl)
  · have g3 := g3
    refine lv_iload_n hx hb d_V_parcel_8 rfl (lv_at hl 1 rfl) ?_
    refine lv_aload_n hx hb d_V_parcel_9 rfl (lv_at hl 0 rfl) ?_
    refine gF (v := .ref (ad 3)) hx hb hown hE hK hP 0 rfl rfl layV 11 (by decide) w297 rfl d_V_parcel_10 ?_
    refine gFN (v := .int (nI x.npc)) hx hb hown hE hK hP 17 rfl rfl layH 1 (by decide) w303 rfl d_V_parcel_13 ?_
    refine lv_icmp_lt hx hb d_V_parcel_16 (tgt := 27) rfl (fun h9 => absurd h9 (Int32.not_lt.mpr (h0.resolve_left g3))) (fun _ => ?_)
    exact xNew (E := "java/lang/IndexOutOfBoundsException") (names := ["java/lang/RuntimeException", "java/lang/Exception"]) hx hb htr hown (by decide) (by decide) hE w257 w258 (fun U hU => at_V_IOOBE hU) (hN _ _ hS) (hl.1.trans hml.symm) d_V_parcel_19 d_V_parcel_22 d_V_parcel_23 d_V_parcel_26 hno (by decide) (Nat.le_of_ble_eq_true rfl) (Nat.le_of_ble_eq_true rfl) (Nat.le_of_ble_eq_true rfl) hlk (fun t h1 h2 => xEndV hP hD hS t h1 h2) hS.2.2 (Nat.le_of_ble_eq_true rfl) (Nat.le_of_ble_eq_true rfl)
set_option maxHeartbeats 4000000 in
set_option maxRecDepth 100000 in
theorem v_retain_x (l : Launch) (htr : l.stackTraces = false) (D : va_G) (dA : Nat → ClassId) (sz : Nat) (h : Nat) (ad : Nat → Nat) (x : VS) (a : Int64) (ho : x.powered = false) : mX l ⟨"SeriesVault", "retain", "(J)I"⟩ [Cond.code ⟨"SeriesVault", "retain", "(J)I"⟩ prog_1_method_41_code 4 (some FieldType.int)] { frames := 7, cells := 1, slots := 6, locals := 101 } (pC D dA [.ref h, .long a] (VW dA h ad x) sz) "java/lang/IllegalStateException" (fun st9 t9 => va_F (va_A (VW dA h ad x) sz) st9 t9 ∧ bW D (va_A (VW dA h ad x) sz) (VW dA h ad x) t9) 1 6 (va_A (VW dA h ad x) sz) := by
  refine mkX (y := ⟨"SeriesVault", "retain", "(J)I"⟩) (cc := prog_1_method_41_code) (maxL := 4) (av := [.ref h, .long a]) (ws := VW dA h ad x) (sz := sz) (B := fun A => (fun st9 t9 => va_F A st9 t9 ∧ bW D A (VW dA h ad x) t9)) (by decide) (Nat.le_of_ble_eq_true rfl) ?_
  intro A p e s m below meth c ls hsz hno hB
  obtain ⟨hx, hb, hr, hml, hown, hin, hlk, hE, hK, hP, hD, hS, hA, hN, hl⟩ := hB
  have hown : s.vm.findClass "SeriesVault" = some m.cls := hown
  have hl : lv_has ls 4 [(0, .ref h), (1, .long a)] := hl
  obtain ⟨H, hH⟩ : ∃ z, z = s.heap := ⟨_, rfl⟩
  have hP : va_P D vwCl (VW dA h ad x) H := by rw [hH]; exact hP
  have hS : va_S A s.heap H [] := by rw [hH]; exact hS
  rw [← hH]
  refine lv_aload_n hx hb d_V_retain_0 rfl (lv_at hl 0 rfl) ?_
  refine xfV (w1 := VW dA h ad x) (As := []) (rest := []) hx hb hml hown hE hK (hN _ _ hS) (v_checkPower_x l htr D dA H.size h ad x ho) (q0 := 0) rfl rfl w278 w276 w279 w280 w277 rfl rfl ⟨⟨by decide, by decide⟩, rfl⟩ ⟨(Nat.le_of_ble_eq_true rfl), (Nat.le_of_ble_eq_true rfl)⟩ rfl hl.1 rfl (Nat.le_of_ble_eq_true rfl) d_V_retain_1 ⟨(Nat.le_of_ble_eq_true rfl), (Nat.le_of_ble_eq_true rfl)⟩ hP hD hS hA (fun xa1 ce H locs hP hD hS hce hcv hcl => ?_)
  exact xOut hno hlk hce hcv hcl (fun t ht => xEndV hP hD hS t (by rw [ht]; exact Nat.le_refl _) (fun q _ => by rw [ht])) hS.2.2 (Nat.le_of_ble_eq_true rfl) (Nat.le_of_ble_eq_true rfl)
set_option maxHeartbeats 4000000 in
set_option maxRecDepth 100000 in
theorem v_retain_y (l : Launch) (htr : l.stackTraces = false) (D : va_G) (dA : Nat → ClassId) (sz : Nat) (h : Nat) (ad : Nat → Nat) (x : VS) (a : Int64) (ho : x.powered = true) (t0 : isTm a = false ∨ a < x.nhor) : mX l ⟨"SeriesVault", "retain", "(J)I"⟩ [Cond.code ⟨"SeriesVault", "retain", "(J)I"⟩ prog_1_method_41_code 4 (some FieldType.int)] { frames := 6, cells := 1, slots := 6, locals := 81 } (pC D dA [.ref h, .long a] (VW dA h ad x) sz) "java/lang/IllegalArgumentException" (fun st9 t9 => va_F (va_A (VW dA h ad x) sz) st9 t9 ∧ bW D (va_A (VW dA h ad x) sz) (VW dA h ad x) t9) 1 6 (va_A (VW dA h ad x) sz) := by
  refine mkX (y := ⟨"SeriesVault", "retain", "(J)I"⟩) (cc := prog_1_method_41_code) (maxL := 4) (av := [.ref h, .long a]) (ws := VW dA h ad x) (sz := sz) (B := fun A => (fun st9 t9 => va_F A st9 t9 ∧ bW D A (VW dA h ad x) t9)) (by decide) (Nat.le_of_ble_eq_true rfl) ?_
  intro A p e s m below meth c ls hsz hno hB
  obtain ⟨hx, hb, hr, hml, hown, hin, hlk, hE, hK, hP, hD, hS, hA, hN, hl⟩ := hB
  have hown : s.vm.findClass "SeriesVault" = some m.cls := hown
  have hl : lv_has ls 4 [(0, .ref h), (1, .long a)] := hl
  obtain ⟨H, hH⟩ : ∃ z, z = s.heap := ⟨_, rfl⟩
  have hP : va_P D vwCl (VW dA h ad x) H := by rw [hH]; exact hP
  have hS : va_S A s.heap H [] := by rw [hH]; exact hS
  rw [← hH]
  refine lv_aload_n hx hb d_V_retain_0 rfl (lv_at hl 0 rfl) ?_
  refine jfV (rnV (As := []) (rest := []) hx hb hml hown hE hK (hN _ _ hS) hP hD (v_checkPower l D dA H.size h ad x ho) (q0 := 0) rfl rfl w278 w276 w279 w280 w277 rfl rfl ⟨⟨by decide, by decide⟩, rfl⟩ ⟨(Nat.le_of_ble_eq_true rfl), (Nat.le_of_ble_eq_true rfl)⟩ rfl hl.1 rfl (Nat.le_of_ble_eq_true rfl) d_V_retain_1 ⟨(Nat.le_of_ble_eq_true rfl), (Nat.le_of_ble_eq_true rfl)⟩) hP hD hS hA (fun u2 H locs hp9 hP hD hS => ?_)
  have hP : va_P D vwCl (VW dA h ad x) H := hP
  have hD : va_D A (VW dA h ad x) := hD
  refine lv_lload_n hx hb d_V_retain_4 rfl (lv_at hl 1 rfl) ?_
  have hPc := hP.sub (ws' := []) [] rfl
  have hDc := hD.sub (ws' := []) [] (by decide) rfl
  refine jpI (rnS (As := [.long a]) (rest := []) hx hb hml hown hE hK (hN _ _ hS) hPc hDc (v_isTime l D dA H.size a) w693 w692 w694 w277 rfl rfl ⟨⟨by decide, by decide⟩, rfl⟩ ⟨(Nat.le_of_ble_eq_true rfl), (Nat.le_of_ble_eq_true rfl)⟩ rfl hl.1 rfl (Nat.le_of_ble_eq_true rfl) d_V_retain_5 ⟨(Nat.le_of_ble_eq_true rfl), (Nat.le_of_ble_eq_true rfl)⟩) hP hD hS hA (fun r3 u9 H locs hp9 hP hD hS => ?_)
  have hP : va_P D vwCl (VW dA h ad x) H := hP
  have hD : va_D A (VW dA h ad x) := hD
  replace hp9 : bI (isTm a) = r3 := Eq.symm hp9
  subst hp9
  refine lv_if_eq hx hb d_V_retain_8 (tgt := 23) rfl (fun g5 => ?_) (fun g5 => ?_)
  · have g5 := bI_0 g5
    exact xNew (E := "java/lang/IllegalArgumentException") (names := ["java/lang/RuntimeException", "java/lang/Exception"]) hx hb htr hown (by decide) (by decide) hE w273 w274 (fun U hU => at_V_IAE hU) (hN _ _ hS) (hl.1.trans hml.symm) d_V_retain_23 d_V_retain_26 d_V_retain_27 d_V_retain_30 hno (by decide) (Nat.le_of_ble_eq_true rfl) (Nat.le_of_ble_eq_true rfl) (Nat.le_of_ble_eq_true rfl) hlk (fun t h1 h2 => xEndV hP hD hS t h1 h2) hS.2.2 (Nat.le_of_ble_eq_true rfl) (Nat.le_of_ble_eq_true rfl)
  · have g5 := bI_n0 g5
    refine lv_lload_n hx hb d_V_retain_11 rfl (lv_at hl 1 rfl) ?_
    refine lv_aload_n hx hb d_V_retain_12 rfl (lv_at hl 0 rfl) ?_
    refine gF (v := .ref (ad 3)) hx hb hown hE hK hP 0 rfl rfl layV 11 (by decide) w297 rfl d_V_retain_13 ?_
    refine gFN (v := .long x.nhor) hx hb hown hE hK hP 17 rfl rfl layH 7 (by decide) w710 rfl d_V_retain_16 ?_
    refine W.lcmp hx hb d_V_retain_19 ?_
    refine lv_if_ge hx hb d_V_retain_20 (tgt := 31) rfl (fun h9 => absurd h9 (mt (lg_cmp_ge _ _).mp (Int64.not_le.mpr (t0.resolve_left (by rw [g5]; decide))))) (fun _ => ?_)
    exact xNew (E := "java/lang/IllegalArgumentException") (names := ["java/lang/RuntimeException", "java/lang/Exception"]) hx hb htr hown (by decide) (by decide) hE w273 w274 (fun U hU => at_V_IAE hU) (hN _ _ hS) (hl.1.trans hml.symm) d_V_retain_23 d_V_retain_26 d_V_retain_27 d_V_retain_30 hno (by decide) (Nat.le_of_ble_eq_true rfl) (Nat.le_of_ble_eq_true rfl) (Nat.le_of_ble_eq_true rfl) hlk (fun t h1 h2 => xEndV hP hD hS t h1 h2) hS.2.2 (Nat.le_of_ble_eq_true rfl) (Nat.le_of_ble_eq_true rfl)
set_option maxHeartbeats 4000000 in
set_option maxRecDepth 100000 in
theorem v_retain_0 (l : Launch) (D : va_G) (dA : Nat → ClassId) (sz : Nat) (h : Nat) (ad : Nat → Nat) (x : VS) (a : Int64) (ho : x.powered = true) (t1 : isTm a = true) (te : a = x.nhor) : Met l ⟨"SeriesVault", "retain", "(J)I"⟩ [Cond.code ⟨"SeriesVault", "retain", "(J)I"⟩ prog_1_method_41_code 4 (some FieldType.int)] { frames := 2, cells := 0, slots := 0, locals := 21 } (pC D dA [.ref h, .long a] (VW dA h ad x) sz) (va_Qi (fun (r9 : Int32) (u9 : Unit) => r9 = 0) (fun (u9 : Unit) t9 => bW D (va_A (VW dA h ad x) sz) (VW dA h ad x) t9) (va_A (VW dA h ad x) sz)) 0 0 (va_A (VW dA h ad x) sz) := by
  refine mkC (y := ⟨"SeriesVault", "retain", "(J)I"⟩) (cc := prog_1_method_41_code) (maxL := 4) (av := [.ref h, .long a]) (ws := VW dA h ad x) (sz := sz) (Qc := fun A => va_Qi (fun (r9 : Int32) (u9 : Unit) => r9 = 0) (fun (u9 : Unit) t9 => bW D A (VW dA h ad x) t9) A) (by decide) (Nat.le_of_ble_eq_true rfl) ?_
  intro A p e s m below meth c ls hsz hB
  obtain ⟨hx, hb, hr, hml, hown, hin, hlk, hE, hK, hP, hD, hS, hA, hN, hl⟩ := hB
  have hown : s.vm.findClass "SeriesVault" = some m.cls := hown
  have hl : lv_has ls 4 [(0, .ref h), (1, .long a)] := hl
  obtain ⟨H, hH⟩ : ∃ z, z = s.heap := ⟨_, rfl⟩
  have hP : va_P D vwCl (VW dA h ad x) H := by rw [hH]; exact hP
  have hS : va_S A s.heap H [] := by rw [hH]; exact hS
  rw [← hH]
  refine lv_aload_n hx hb d_V_retain_0 rfl (lv_at hl 0 rfl) ?_
  refine jfV (rnV (As := []) (rest := []) hx hb hml hown hE hK (hN _ _ hS) hP hD (v_checkPower l D dA H.size h ad x ho) (q0 := 0) rfl rfl w278 w276 w279 w280 w277 rfl rfl ⟨⟨by decide, by decide⟩, rfl⟩ ⟨(Nat.le_of_ble_eq_true rfl), (Nat.le_of_ble_eq_true rfl)⟩ rfl hl.1 rfl (Nat.le_of_ble_eq_true rfl) d_V_retain_1 ⟨(Nat.le_of_ble_eq_true rfl), (Nat.le_of_ble_eq_true rfl)⟩) hP hD hS hA (fun u2 H locs hp9 hP hD hS => ?_)
  have hP : va_P D vwCl (VW dA h ad x) H := hP
  have hD : va_D A (VW dA h ad x) := hD
  refine lv_lload_n hx hb d_V_retain_4 rfl (lv_at hl 1 rfl) ?_
  have hPc := hP.sub (ws' := []) [] rfl
  have hDc := hD.sub (ws' := []) [] (by decide) rfl
  refine jpI (rnS (As := [.long a]) (rest := []) hx hb hml hown hE hK (hN _ _ hS) hPc hDc (v_isTime l D dA H.size a) w693 w692 w694 w277 rfl rfl ⟨⟨by decide, by decide⟩, rfl⟩ ⟨(Nat.le_of_ble_eq_true rfl), (Nat.le_of_ble_eq_true rfl)⟩ rfl hl.1 rfl (Nat.le_of_ble_eq_true rfl) d_V_retain_5 ⟨(Nat.le_of_ble_eq_true rfl), (Nat.le_of_ble_eq_true rfl)⟩) hP hD hS hA (fun r3 u9 H locs hp9 hP hD hS => ?_)
  have hP : va_P D vwCl (VW dA h ad x) H := hP
  have hD : va_D A (VW dA h ad x) := hD
  replace hp9 : bI (isTm a) = r3 := Eq.symm hp9
  subst hp9
  refine lv_if_eq hx hb d_V_retain_8 (tgt := 23) rfl (fun h9 => absurd h9 (by rw [t1]; decide)) (fun _ => ?_)
  refine lv_lload_n hx hb d_V_retain_11 rfl (lv_at hl 1 rfl) ?_
  refine lv_aload_n hx hb d_V_retain_12 rfl (lv_at hl 0 rfl) ?_
  refine gF (v := .ref (ad 3)) hx hb hown hE hK hP 0 rfl rfl layV 11 (by decide) w297 rfl d_V_retain_13 ?_
  refine gFN (v := .long x.nhor) hx hb hown hE hK hP 17 rfl rfl layH 7 (by decide) w710 rfl d_V_retain_16 ?_
  refine W.lcmp hx hb d_V_retain_19 ?_
  refine lv_if_ge hx hb d_V_retain_20 (tgt := 31) rfl (fun _ => ?_) (fun h9 => absurd ((lg_cmp_ge _ _).mpr (by rw [te]; exact Int64.le_refl _)) h9)
  refine lv_lload_n hx hb d_V_retain_31 rfl (lv_at hl 1 rfl) ?_
  refine lv_aload_n hx hb d_V_retain_32 rfl (lv_at hl 0 rfl) ?_
  refine gF (v := .ref (ad 3)) hx hb hown hE hK hP 0 rfl rfl layV 11 (by decide) w297 rfl d_V_retain_33 ?_
  refine gFN (v := .long x.nhor) hx hb hown hE hK hP 17 rfl rfl layH 7 (by decide) w710 rfl d_V_retain_36 ?_
  refine W.lcmp hx hb d_V_retain_39 ?_
  refine lv_if_ne hx hb d_V_retain_40 (tgt := 45) rfl (fun h9 => absurd ((lg_cmp_eq _ _).mpr te) h9) (fun _ => ?_)
  refine lv_iconst (v := 0) hx hb d_V_retain_43 (by decide) ?_
  exact rfI hx hb hr hlk hS () rfl hP hD (Nat.le_of_ble_eq_true rfl) (Nat.le_of_ble_eq_true rfl) d_V_retain_44
end
section
/-- only the journal differs, and what was written -/
def VS.jkS (x y : VS) : VS := VS.s_jch (VS.s_jfill (VS.s_jblock (VS.s_junits (VS.s_jkept (VS.s_jsize (VS.s_jS (VS.s_jF (VS.s_jB (VS.s_jU (VS.s_jO (VS.s_jK (VS.s_jN (VS.s_jA (VS.s_writes (VS.s_cutLeft x y.cutLeft) y.writes) y.jA) y.jN) y.jK) y.jO) y.jU) y.jB) y.jF) y.jS) y.jsize) y.jkept) y.junits) y.jblock) y.jfill) y.jch
def VS.jk (x y : VS) : Prop := y = x.jkS y
theorem wrF_jk (x : VS) (ja : Nat → Nat) (kd w n : Nat) (a b : Int64) : x.jk (x.wrF ja kd w n a b) := by
  unfold VS.jk VS.wrF VS.wrB VS.wjS VS.jadF
  repeat' split
  all_goals rfl
theorem wjS_jk (x : VS) : x.jk x.wjS := by
  unfold VS.jk VS.wjS
  split
  all_goals rfl
def VS.lg1 (x : VS) (w : Nat) (a b : Int64) : VS := VS.s_nsc (VS.s_nsT (VS.s_nsF (VS.s_nsO (VS.s_hsize (VS.s_hV (VS.s_hT (VS.s_hO x (tdT (x.hWn w a b) x.hO x.hsize)) (tdT (x.hWn w a b) x.hT x.hsize)) (tdT (x.hWn w a b) x.hV x.hsize)) (cnt x.hsize (x.hWn w a b))) (va_up x.nsO x.nsc w)) (va_up x.nsF x.nsc (maxL a x.nhor))) (va_up x.nsT x.nsc (minL b (x.nlast w)))) (x.nsc + 1)
set_option maxHeartbeats 4000000 in
set_option maxRecDepth 100000 in
theorem v_delete_1 (l : Launch) (htr : l.stackTraces = false) (D : va_G) (dA : Nat → ClassId) (sz : Nat) (h : Nat) (ad : Nat → Nat) (x : VS) (n : Int32) (a : Int64) (b : Int64) (ho : x.powered = false) : mX l ⟨"SeriesVault", "delete", "(IJJ)I"⟩ [Cond.code ⟨"SeriesVault", "delete", "(IJJ)I"⟩ prog_1_method_34_code 8 (some FieldType.int)] { frames := 7, cells := 1, slots := 6, locals := 101 } (pC D dA [.ref h, .int n, .long a, .long b] (VW dA h ad x) sz) "java/lang/IllegalStateException" (fun st9 t9 => va_F (va_A (VW dA h ad x) sz) st9 t9 ∧ bW D (va_A (VW dA h ad x) sz) (VW dA h ad x) t9) 1 6 (va_A (VW dA h ad x) sz) := by
  refine mkX (y := ⟨"SeriesVault", "delete", "(IJJ)I"⟩) (cc := prog_1_method_34_code) (maxL := 8) (av := [.ref h, .int n, .long a, .long b]) (ws := VW dA h ad x) (sz := sz) (B := fun A => (fun st9 t9 => va_F A st9 t9 ∧ bW D A (VW dA h ad x) t9)) (by decide) (Nat.le_of_ble_eq_true rfl) ?_
  intro A p e s m below meth c ls hsz hno hB
  obtain ⟨hx, hb, hr, hml, hown, hin, hlk, hE, hK, hP, hD, hS, hA, hN, hl⟩ := hB
  have hown : s.vm.findClass "SeriesVault" = some m.cls := hown
  have hl : lv_has ls 8 [(0, .ref h), (1, .int n), (2, .long a), (4, .long b)] := hl
  obtain ⟨H, hH⟩ : ∃ z, z = s.heap := ⟨_, rfl⟩
  have hP : va_P D vwCl (VW dA h ad x) H := by rw [hH]; exact hP
  have hS : va_S A s.heap H [] := by rw [hH]; exact hS
  rw [← hH]
  refine lv_aload_n hx hb d_V_delete_0 rfl (lv_at hl 0 rfl) ?_
  refine xfV (w1 := VW dA h ad x) (As := []) (rest := []) hx hb hml hown hE hK (hN _ _ hS) (v_checkPower_x l htr D dA H.size h ad x ho) (q0 := 0) rfl rfl w278 w276 w279 w280 w277 rfl rfl ⟨⟨by decide, by decide⟩, rfl⟩ ⟨(Nat.le_of_ble_eq_true rfl), (Nat.le_of_ble_eq_true rfl)⟩ rfl hl.1 rfl (Nat.le_of_ble_eq_true rfl) d_V_delete_1 ⟨(Nat.le_of_ble_eq_true rfl), (Nat.le_of_ble_eq_true rfl)⟩ hP hD hS hA (fun xa1 ce H locs hP hD hS hce hcv hcl => ?_)
  exact xOut hno hlk hce hcv hcl (fun t ht => xEndV hP hD hS t (by rw [ht]; exact Nat.le_refl _) (fun q _ => by rw [ht])) hS.2.2 (Nat.le_of_ble_eq_true rfl) (Nat.le_of_ble_eq_true rfl)
set_option maxHeartbeats 4000000 in
set_option maxRecDepth 100000 in
theorem v_delete_2 (l : Launch) (htr : l.stackTraces = false) (D : va_G) (dA : Nat → ClassId) (sz : Nat) (h : Nat) (ad : Nat → Nat) (x : VS) (n : Int32) (a : Int64) (b : Int64) (ho : x.powered = true) (h0 : n < 0 ∨ nI x.nser ≤ n) : mX l ⟨"SeriesVault", "delete", "(IJJ)I"⟩ [Cond.code ⟨"SeriesVault", "delete", "(IJJ)I"⟩ prog_1_method_34_code 8 (some FieldType.int)] { frames := 7, cells := 1, slots := 6, locals := 102 } (pC D dA [.ref h, .int n, .long a, .long b] (VW dA h ad x) sz) "java/lang/IndexOutOfBoundsException" (fun st9 t9 => va_F (va_A (VW dA h ad x) sz) st9 t9 ∧ bW D (va_A (VW dA h ad x) sz) (VW dA h ad x) t9) 1 6 (va_A (VW dA h ad x) sz) := by
  refine mkX (y := ⟨"SeriesVault", "delete", "(IJJ)I"⟩) (cc := prog_1_method_34_code) (maxL := 8) (av := [.ref h, .int n, .long a, .long b]) (ws := VW dA h ad x) (sz := sz) (B := fun A => (fun st9 t9 => va_F A st9 t9 ∧ bW D A (VW dA h ad x) t9)) (by decide) (Nat.le_of_ble_eq_true rfl) ?_
  intro A p e s m below meth c ls hsz hno hB
  obtain ⟨hx, hb, hr, hml, hown, hin, hlk, hE, hK, hP, hD, hS, hA, hN, hl⟩ := hB
  have hown : s.vm.findClass "SeriesVault" = some m.cls := hown
  have hl : lv_has ls 8 [(0, .ref h), (1, .int n), (2, .long a), (4, .long b)] := hl
  obtain ⟨H, hH⟩ : ∃ z, z = s.heap := ⟨_, rfl⟩
  have hP : va_P D vwCl (VW dA h ad x) H := by rw [hH]; exact hP
  have hS : va_S A s.heap H [] := by rw [hH]; exact hS
  rw [← hH]
  refine lv_aload_n hx hb d_V_delete_0 rfl (lv_at hl 0 rfl) ?_
  refine jfV (rnV (As := []) (rest := []) hx hb hml hown hE hK (hN _ _ hS) hP hD (v_checkPower l D dA H.size h ad x ho) (q0 := 0) rfl rfl w278 w276 w279 w280 w277 rfl rfl ⟨⟨by decide, by decide⟩, rfl⟩ ⟨(Nat.le_of_ble_eq_true rfl), (Nat.le_of_ble_eq_true rfl)⟩ rfl hl.1 rfl (Nat.le_of_ble_eq_true rfl) d_V_delete_1 ⟨(Nat.le_of_ble_eq_true rfl), (Nat.le_of_ble_eq_true rfl)⟩) hP hD hS hA (fun u2 H locs hp9 hP hD hS => ?_)
  have hP : va_P D vwCl (VW dA h ad x) H := hP
  have hD : va_D A (VW dA h ad x) := hD
  refine lv_aload_n hx hb d_V_delete_4 rfl (lv_at hl 0 rfl) ?_
  refine lv_iload_n hx hb d_V_delete_5 rfl (lv_at hl 1 rfl) ?_
  refine xfV (w1 := VW dA h ad x) (As := [.int n]) (rest := []) hx hb hml hown hE hK (hN _ _ hS) (v_checkSeries_x l htr D dA H.size h ad x n h0) (q0 := 0) rfl rfl w300 w299 w301 w302 w277 rfl rfl ⟨⟨by decide, by decide⟩, rfl⟩ ⟨(Nat.le_of_ble_eq_true rfl), (Nat.le_of_ble_eq_true rfl)⟩ rfl hl.1 rfl (Nat.le_of_ble_eq_true rfl) d_V_delete_6 ⟨(Nat.le_of_ble_eq_true rfl), (Nat.le_of_ble_eq_true rfl)⟩ hP hD hS hA (fun xa3 ce H locs hP hD hS hce hcv hcl => ?_)
  exact xOut hno hlk hce hcv hcl (fun t ht => xEndV hP hD hS t (by rw [ht]; exact Nat.le_refl _) (fun q _ => by rw [ht])) hS.2.2 (Nat.le_of_ble_eq_true rfl) (Nat.le_of_ble_eq_true rfl)
theorem d_V_delete_9 : decode prog_1_method_34_code 9 = .ok (.lload_n 2, 1) := by decide +kernel
theorem d_V_delete_10 : decode prog_1_method_34_code 10 = .ok (.lload 4, 2) := by decide +kernel
theorem d_V_delete_12 : decode prog_1_method_34_code 12 = .ok (.lcmp, 1) := by decide +kernel
theorem d_V_delete_13 : decode prog_1_method_34_code 13 = .ok (.ifCond .le 11, 3) := by decide +kernel
theorem d_V_delete_16 : decode prog_1_method_34_code 16 = .ok (.new 89, 3) := by decide +kernel
theorem d_V_delete_19 : decode prog_1_method_34_code 19 = .ok (.dup, 1) := by decide +kernel
theorem d_V_delete_20 : decode prog_1_method_34_code 20 = .ok (.invokespecial 91, 3) := by decide +kernel
theorem d_V_delete_23 : decode prog_1_method_34_code 23 = .ok (.athrow, 1) := by decide +kernel
set_option maxHeartbeats 4000000 in
set_option maxRecDepth 100000 in
theorem v_delete_3 (l : Launch) (htr : l.stackTraces = false) (D : va_G) (dA : Nat → ClassId) (sz : Nat) (h : Nat) (ad : Nat → Nat) (x : VS) (w : Nat) (a : Int64) (b : Int64) (ho : x.powered = true) (hw1 : w < x.nser) (hw2 : x.nser ≤ 256) (hab : b < a) : mX l ⟨"SeriesVault", "delete", "(IJJ)I"⟩ [Cond.code ⟨"SeriesVault", "delete", "(IJJ)I"⟩ prog_1_method_34_code 8 (some FieldType.int)] { frames := 6, cells := 1, slots := 6, locals := 81 } (pC D dA [.ref h, .int (nI w), .long a, .long b] (VW dA h ad x) sz) "java/lang/IllegalArgumentException" (fun st9 t9 => va_F (va_A (VW dA h ad x) sz) st9 t9 ∧ bW D (va_A (VW dA h ad x) sz) (VW dA h ad x) t9) 1 6 (va_A (VW dA h ad x) sz) := by
  refine mkX (y := ⟨"SeriesVault", "delete", "(IJJ)I"⟩) (cc := prog_1_method_34_code) (maxL := 8) (av := [.ref h, .int (nI w), .long a, .long b]) (ws := VW dA h ad x) (sz := sz) (B := fun A => (fun st9 t9 => va_F A st9 t9 ∧ bW D A (VW dA h ad x) t9)) (by decide) (Nat.le_of_ble_eq_true rfl) ?_
  intro A p e s m below meth c ls hsz hno hB
  obtain ⟨hx, hb, hr, hml, hown, hin, hlk, hE, hK, hP, hD, hS, hA, hN, hl⟩ := hB
  have hown : s.vm.findClass "SeriesVault" = some m.cls := hown
  have hl : lv_has ls 8 [(0, .ref h), (1, .int (nI w)), (2, .long a), (4, .long b)] := hl
  obtain ⟨H, hH⟩ : ∃ z, z = s.heap := ⟨_, rfl⟩
  have hP : va_P D vwCl (VW dA h ad x) H := by rw [hH]; exact hP
  have hS : va_S A s.heap H [] := by rw [hH]; exact hS
  rw [← hH]
  refine lv_aload_n hx hb d_V_delete_0 rfl (lv_at hl 0 rfl) ?_
  refine jfV (rnV (As := []) (rest := []) hx hb hml hown hE hK (hN _ _ hS) hP hD (v_checkPower l D dA H.size h ad x ho) (q0 := 0) rfl rfl w278 w276 w279 w280 w277 rfl rfl ⟨⟨by decide, by decide⟩, rfl⟩ ⟨(Nat.le_of_ble_eq_true rfl), (Nat.le_of_ble_eq_true rfl)⟩ rfl hl.1 rfl (Nat.le_of_ble_eq_true rfl) d_V_delete_1 ⟨(Nat.le_of_ble_eq_true rfl), (Nat.le_of_ble_eq_true rfl)⟩) hP hD hS hA (fun u2 H locs hp9 hP hD hS => ?_)
  have hP : va_P D vwCl (VW dA h ad x) H := hP
  have hD : va_D A (VW dA h ad x) := hD
  refine lv_aload_n hx hb d_V_delete_4 rfl (lv_at hl 0 rfl) ?_
  refine lv_iload_n hx hb d_V_delete_5 rfl (lv_at hl 1 rfl) ?_
  refine jfV (rnV (As := [.int (nI w)]) (rest := []) hx hb hml hown hE hK (hN _ _ hS) hP hD (v_checkSeries l D dA H.size h ad x w (show w < x.nser from by omega) (show x.nser ≤ 256 from by omega)) (q0 := 0) rfl rfl w300 w299 w301 w302 w277 rfl rfl ⟨⟨by decide, by decide⟩, rfl⟩ ⟨(Nat.le_of_ble_eq_true rfl), (Nat.le_of_ble_eq_true rfl)⟩ rfl hl.1 rfl (Nat.le_of_ble_eq_true rfl) d_V_delete_6 ⟨(Nat.le_of_ble_eq_true rfl), (Nat.le_of_ble_eq_true rfl)⟩) hP hD hS hA (fun u4 H locs hp9 hP hD hS => ?_)
  have hP : va_P D vwCl (VW dA h ad x) H := hP
  have hD : va_D A (VW dA h ad x) := hD
  refine lv_lload_n hx hb d_V_delete_9 rfl (lv_at hl 2 rfl) ?_
  refine lv_lload hx hb d_V_delete_10 (lv_at hl 3 rfl) ?_
  refine W.lcmp hx hb d_V_delete_12 ?_
  refine lv_if_le hx hb d_V_delete_13 (tgt := 24) rfl (fun h9 => absurd h9 (mt (lg_cmp_le _ _).mp (Int64.not_le.mpr hab))) (fun _ => ?_)
  exact xNew (E := "java/lang/IllegalArgumentException") (names := ["java/lang/RuntimeException", "java/lang/Exception"]) hx hb htr hown (by decide) (by decide) hE w273 w274 (fun U hU => at_V_IAE hU) (hN _ _ hS) (hl.1.trans hml.symm) d_V_delete_16 d_V_delete_19 d_V_delete_20 d_V_delete_23 hno (by decide) (Nat.le_of_ble_eq_true rfl) (Nat.le_of_ble_eq_true rfl) (Nat.le_of_ble_eq_true rfl) hlk (fun t h1 h2 => xEndV hP hD hS t h1 h2) hS.2.2 (Nat.le_of_ble_eq_true rfl) (Nat.le_of_ble_eq_true rfl)
theorem d_V_delete_24 : decode prog_1_method_34_code 24 = .ok (.aload_n 0, 1) := by decide +kernel
theorem d_V_delete_25 : decode prog_1_method_34_code 25 = .ok (.getfield 33, 3) := by decide +kernel
theorem d_V_delete_28 : decode prog_1_method_34_code 28 = .ok (.iload_n 1, 1) := by decide +kernel
theorem d_V_delete_29 : decode prog_1_method_34_code 29 = .ok (.lload_n 2, 1) := by decide +kernel
theorem d_V_delete_30 : decode prog_1_method_34_code 30 = .ok (.lload 4, 2) := by decide +kernel
theorem d_V_delete_32 : decode prog_1_method_34_code 32 = .ok (.invokevirtual 278, 3) := by decide +kernel
theorem d_V_delete_35 : decode prog_1_method_34_code 35 = .ok (.istore 6, 2) := by decide +kernel
theorem d_V_delete_37 : decode prog_1_method_34_code 37 = .ok (.iload 6, 2) := by decide +kernel
theorem d_V_delete_39 : decode prog_1_method_34_code 39 = .ok (.aload_n 0, 1) := by decide +kernel
theorem d_V_delete_40 : decode prog_1_method_34_code 40 = .ok (.getfield 23, 3) := by decide +kernel
theorem d_V_delete_43 : decode prog_1_method_34_code 43 = .ok (.iload_n 1, 1) := by decide +kernel
theorem d_V_delete_44 : decode prog_1_method_34_code 44 = .ok (.lload_n 2, 1) := by decide +kernel
theorem d_V_delete_45 : decode prog_1_method_34_code 45 = .ok (.lload 4, 2) := by decide +kernel
theorem d_V_delete_47 : decode prog_1_method_34_code 47 = .ok (.invokevirtual 282, 3) := by decide +kernel
theorem d_V_delete_50 : decode prog_1_method_34_code 50 = .ok (.iadd, 1) := by decide +kernel
theorem d_V_delete_51 : decode prog_1_method_34_code 51 = .ok (.istore 7, 2) := by decide +kernel
theorem d_V_delete_53 : decode prog_1_method_34_code 53 = .ok (.iload 7, 2) := by decide +kernel
theorem d_V_delete_55 : decode prog_1_method_34_code 55 = .ok (.ifCond .ne 5, 3) := by decide +kernel
theorem d_V_delete_58 : decode prog_1_method_34_code 58 = .ok (.iconst 0, 1) := by decide +kernel
theorem d_V_delete_59 : decode prog_1_method_34_code 59 = .ok (.ireturn, 1) := by decide +kernel
theorem w1355 : Cond.methodLink "SeriesVault" 282 ⟨"SeriesVault$Points", "countWithin", "(IJJ)I"⟩ ∈ aW := aw_of (tb_5 (List.mem_of_getElem? (i := 197) rfl)) rfl
theorem w1356 : Cond.code ⟨"SeriesVault$Points", "countWithin", "(IJJ)I"⟩ prog_5_method_6_code 8 (some FieldType.int) ∈ aW := aw_of (tb_5 (List.mem_of_getElem? (i := 200) rfl)) rfl
theorem w1357 : Cond.instanceMethod ⟨"SeriesVault$Points", "countWithin", "(IJJ)I"⟩ ∈ aW := aw_of (tb_5 (List.mem_of_getElem? (i := 198) rfl)) rfl
theorem w1358 : Cond.selects "SeriesVault$Points" ⟨"SeriesVault$Points", "countWithin", "(IJJ)I"⟩ ⟨"SeriesVault$Points", "countWithin", "(IJJ)I"⟩ ∈ aW := aw_of (tb_5 (List.mem_of_getElem? (i := 199) rfl)) rfl
set_option maxHeartbeats 4000000 in
set_option maxRecDepth 100000 in
theorem v_delete_0 (l : Launch) (D : va_G) (dA : Nat → ClassId) (sz : Nat) (h : Nat) (ad : Nat → Nat) (x : VS) (PS : Nat → PT) (w : Nat) (a : Int64) (b : Int64) (ho : x.powered = true) (hw1 : w < x.nser) (hw2 : x.nser ≤ 256) (hab : a ≤ b) (hps : psOk dA x.nP x.npc x.pl PS) (hpn : x.npc ≤ 32) (h1 : x.nsc ≤ 64) (h7 : ∀ q : Nat, q < x.nsc → x.nsO q < 2 ^ 31) (h0 : x.hsize ≤ x.hN) (h9 : x.hN ≤ 65536) (hh7 : ∀ q : Nat, q < x.hsize → x.hO q < 2 ^ 31) (hz : sumN x.npc (x.soN PS w a b) + cnt x.hsize (x.hW w a b) = 0) : Met l ⟨"SeriesVault", "delete", "(IJJ)I"⟩ [Cond.code ⟨"SeriesVault", "delete", "(IJJ)I"⟩ prog_1_method_34_code 8 (some FieldType.int)] { frames := 5, cells := 0, slots := 0, locals := 103 } (pC D dA [.ref h, .int (nI w), .long a, .long b] (VW dA h ad x) sz) (va_Qi (fun (r9 : Int32) (u9 : Unit) => r9 = 0) (fun (u9 : Unit) t9 => bW D (va_A (VW dA h ad x) sz) (VW dA h ad x) t9) (va_A (VW dA h ad x) sz)) 0 0 (va_A (VW dA h ad x) sz) := by
  refine mkC (y := ⟨"SeriesVault", "delete", "(IJJ)I"⟩) (cc := prog_1_method_34_code) (maxL := 8) (av := [.ref h, .int (nI w), .long a, .long b]) (ws := VW dA h ad x) (sz := sz) (Qc := fun A => va_Qi (fun (r9 : Int32) (u9 : Unit) => r9 = 0) (fun (u9 : Unit) t9 => bW D A (VW dA h ad x) t9) A) (by decide) (Nat.le_of_ble_eq_true rfl) ?_
  intro A p e s m below meth c ls hsz hB
  obtain ⟨hx, hb, hr, hml, hown, hin, hlk, hE, hK, hP, hD, hS, hA, hN, hl⟩ := hB
  have hown : s.vm.findClass "SeriesVault" = some m.cls := hown
  have hl : lv_has ls 8 [(0, .ref h), (1, .int (nI w)), (2, .long a), (4, .long b)] := hl
  obtain ⟨H, hH⟩ : ∃ z, z = s.heap := ⟨_, rfl⟩
  have hP : va_P D vwCl (VW dA h ad x) H := by rw [hH]; exact hP
  have hS : va_S A s.heap H [] := by rw [hH]; exact hS
  rw [← hH]
  refine lv_aload_n hx hb d_V_delete_0 rfl (lv_at hl 0 rfl) ?_
  refine jfV (rnV (As := []) (rest := []) hx hb hml hown hE hK (hN _ _ hS) hP hD (v_checkPower l D dA H.size h ad x ho) (q0 := 0) rfl rfl w278 w276 w279 w280 w277 rfl rfl ⟨⟨by decide, by decide⟩, rfl⟩ ⟨(Nat.le_of_ble_eq_true rfl), (Nat.le_of_ble_eq_true rfl)⟩ rfl hl.1 rfl (Nat.le_of_ble_eq_true rfl) d_V_delete_1 ⟨(Nat.le_of_ble_eq_true rfl), (Nat.le_of_ble_eq_true rfl)⟩) hP hD hS hA (fun u2 H locs hp9 hP hD hS => ?_)
  have hP : va_P D vwCl (VW dA h ad x) H := hP
  have hD : va_D A (VW dA h ad x) := hD
  refine lv_aload_n hx hb d_V_delete_4 rfl (lv_at hl 0 rfl) ?_
  refine lv_iload_n hx hb d_V_delete_5 rfl (lv_at hl 1 rfl) ?_
  refine jfV (rnV (As := [.int (nI w)]) (rest := []) hx hb hml hown hE hK (hN _ _ hS) hP hD (v_checkSeries l D dA H.size h ad x w (show w < x.nser from by omega) (show x.nser ≤ 256 from by omega)) (q0 := 0) rfl rfl w300 w299 w301 w302 w277 rfl rfl ⟨⟨by decide, by decide⟩, rfl⟩ ⟨(Nat.le_of_ble_eq_true rfl), (Nat.le_of_ble_eq_true rfl)⟩ rfl hl.1 rfl (Nat.le_of_ble_eq_true rfl) d_V_delete_6 ⟨(Nat.le_of_ble_eq_true rfl), (Nat.le_of_ble_eq_true rfl)⟩) hP hD hS hA (fun u4 H locs hp9 hP hD hS => ?_)
  have hP : va_P D vwCl (VW dA h ad x) H := hP
  have hD : va_D A (VW dA h ad x) := hD
  refine lv_lload_n hx hb d_V_delete_9 rfl (lv_at hl 2 rfl) ?_
  refine lv_lload hx hb d_V_delete_10 (lv_at hl 3 rfl) ?_
  refine W.lcmp hx hb d_V_delete_12 ?_
  refine lv_if_le hx hb d_V_delete_13 (tgt := 24) rfl (fun _ => ?_) (fun h9 => absurd ((lg_cmp_le _ _).mpr hab) h9)
  refine lv_aload_n hx hb d_V_delete_24 rfl (lv_at hl 0 rfl) ?_
  refine gF (v := .ref (ad 3)) hx hb hown hE hK hP 0 rfl rfl layV 11 (by decide) w297 rfl d_V_delete_25 ?_
  refine lv_iload_n hx hb d_V_delete_28 rfl (lv_at hl 1 rfl) ?_
  refine lv_lload_n hx hb d_V_delete_29 rfl (lv_at hl 2 rfl) ?_
  refine lv_lload hx hb d_V_delete_30 (lv_at hl 3 rfl) ?_
  refine jfI (rnV (As := [.int (nI w), .long a, .long b]) (rest := []) hx hb hml hown hE hK (hN _ _ hS) hP hD (v_countSeen l D dA H.size h ad x PS w a b hps (show x.npc ≤ 32 from by omega) (show x.nsc ≤ 64 from by omega) h7 (show w < 256 from by omega)) (q0 := 17) rfl rfl w1336 w1335 w1337 w1338 w583 rfl rfl ⟨⟨by decide, by decide⟩, rfl⟩ ⟨(Nat.le_of_ble_eq_true rfl), (Nat.le_of_ble_eq_true rfl)⟩ rfl hl.1 rfl (Nat.le_of_ble_eq_true rfl) d_V_delete_32 ⟨(Nat.le_of_ble_eq_true rfl), (Nat.le_of_ble_eq_true rfl)⟩) hP hD hS hA (fun r5 u6 H locs hp9 hP hD hS => ?_)
  have hP : va_P D vwCl (VW dA h ad x) H := hP
  have hD : va_D A (VW dA h ad x) := hD
  replace hp9 : nI (sumN x.npc (x.soN PS w a b)) = r5 := Eq.symm hp9
  subst hp9
  refine lv_istore hx hb d_V_delete_35 hl (by decide) rfl (fun ls hl => ?_)
  have hl : lv_has ls 8 [(6, .int (nI (sumN x.npc (x.soN PS w a b)))), (0, .ref h), (1, .int (nI w)), (2, .long a), (4, .long b)] := hl
  refine lv_iload hx hb d_V_delete_37 (lv_at hl 0 rfl) ?_
  refine lv_aload_n hx hb d_V_delete_39 rfl (lv_at hl 1 rfl) ?_
  refine gF (v := .ref (ad 1)) hx hb hown hE hK hP 0 rfl rfl layV 9 (by decide) w576 rfl d_V_delete_40 ?_
  refine lv_iload_n hx hb d_V_delete_43 rfl (lv_at hl 2 rfl) ?_
  refine lv_lload_n hx hb d_V_delete_44 rfl (lv_at hl 3 rfl) ?_
  refine lv_lload hx hb d_V_delete_45 (lv_at hl 4 rfl) ?_
  refine jfI (rnV (As := [.int (nI w), .long a, .long b]) (rest := [.int (nI (sumN x.npc (x.soN PS w a b)))]) hx hb hml hown hE hK (hN _ _ hS) hP hD (v_countWithin l D dA H.size h ad x w a b (show x.hsize ≤ x.hN from by omega) (show x.hN ≤ 65536 from by omega) (show w < 2 ^ 31 from by omega) hh7) (q0 := 9) rfl rfl w1356 w1355 w1357 w1358 w578 rfl rfl ⟨⟨by decide, by decide⟩, rfl⟩ ⟨(Nat.le_of_ble_eq_true rfl), (Nat.le_of_ble_eq_true rfl)⟩ rfl hl.1 rfl (Nat.le_of_ble_eq_true rfl) d_V_delete_47 ⟨(Nat.le_of_ble_eq_true rfl), (Nat.le_of_ble_eq_true rfl)⟩) hP hD hS hA (fun r7 u8 H locs hp9 hP hD hS => ?_)
  have hP : va_P D vwCl (VW dA h ad x) H := hP
  have hD : va_D A (VW dA h ad x) := hD
  replace hp9 : nI (cnt x.hsize (x.hW w a b)) = r7 := Eq.symm hp9
  subst hp9
  refine lv_iadd hx hb d_V_delete_50 (tpi (y := nI ((sumN x.npc (x.soN PS w a b)) + (cnt x.hsize (x.hW w a b)))) (nI_add (sumN x.npc (x.soN PS w a b)) (cnt x.hsize (x.hW w a b))) ?_)
  refine lv_istore hx hb d_V_delete_51 hl (by decide) rfl (fun ls hl => ?_)
  have hl : lv_has ls 8 [(7, .int (nI ((sumN x.npc (x.soN PS w a b)) + (cnt x.hsize (x.hW w a b))))), (6, .int (nI (sumN x.npc (x.soN PS w a b)))), (0, .ref h), (1, .int (nI w)), (2, .long a), (4, .long b)] := hl
  have so := so_le (w := w) (a := a) (b := b) hps hpn
  have sw := cnt_le x.hsize (x.hW w a b)
  refine lv_iload hx hb d_V_delete_53 (lv_at hl 0 rfl) ?_
  refine lv_if_ne hx hb d_V_delete_55 (tgt := 60) rfl (fun g9 => ?_) (fun g9 => ?_)
  · have g9 := mt (nI_eq (a := (sumN x.npc (x.soN PS w a b)) + (cnt x.hsize (x.hW w a b))) (b := 0) (by omega) (by decide)).mpr g9; exfalso; omega
  have g9 := (nI_eq (a := (sumN x.npc (x.soN PS w a b)) + (cnt x.hsize (x.hW w a b))) (b := 0) (by omega) (by decide)).mp g9
  refine lv_iconst (v := 0) hx hb d_V_delete_58 (by decide) ?_
  exact rfI hx hb hr hlk hS () rfl hP hD (Nat.le_of_ble_eq_true rfl) (Nat.le_of_ble_eq_true rfl) d_V_delete_59
theorem d_V_delete_60 : decode prog_1_method_34_code 60 = .ok (.iload 6, 2) := by decide +kernel
theorem d_V_delete_62 : decode prog_1_method_34_code 62 = .ok (.ifCond .le 15, 3) := by decide +kernel
theorem d_V_delete_77 : decode prog_1_method_34_code 77 = .ok (.aload_n 0, 1) := by decide +kernel
theorem d_V_delete_78 : decode prog_1_method_34_code 78 = .ok (.getfield 16, 3) := by decide +kernel
theorem d_V_delete_81 : decode prog_1_method_34_code 81 = .ok (.iconst 1, 1) := by decide +kernel
theorem d_V_delete_82 : decode prog_1_method_34_code 82 = .ok (.invokevirtual 238, 3) := by decide +kernel
theorem d_V_delete_85 : decode prog_1_method_34_code 85 = .ok (.ifCond .ne 11, 3) := by decide +kernel
theorem d_V_delete_88 : decode prog_1_method_34_code 88 = .ok (.new 76, 3) := by decide +kernel
theorem d_V_delete_91 : decode prog_1_method_34_code 91 = .ok (.dup, 1) := by decide +kernel
theorem d_V_delete_92 : decode prog_1_method_34_code 92 = .ok (.invokespecial 78, 3) := by decide +kernel
theorem d_V_delete_95 : decode prog_1_method_34_code 95 = .ok (.athrow, 1) := by decide +kernel
theorem d_V_delete_65 : decode prog_1_method_34_code 65 = .ok (.aload_n 0, 1) := by decide +kernel
theorem d_V_delete_66 : decode prog_1_method_34_code 66 = .ok (.getfield 33, 3) := by decide +kernel
theorem d_V_delete_69 : decode prog_1_method_34_code 69 = .ok (.getfield 285, 3) := by decide +kernel
theorem d_V_delete_72 : decode prog_1_method_34_code 72 = .ok (.bipush 64, 2) := by decide +kernel
theorem d_V_delete_74 : decode prog_1_method_34_code 74 = .ok (.if_icmp .ge 14, 3) := by decide +kernel
set_option maxHeartbeats 4000000 in
set_option maxRecDepth 100000 in
theorem v_delete_4 (l : Launch) (htr : l.stackTraces = false) (D : va_G) (dA : Nat → ClassId) (sz : Nat) (h : Nat) (ad : Nat → Nat) (x : VS) (PS : Nat → PT) (w : Nat) (a : Int64) (b : Int64) (ho : x.powered = true) (hw1 : w < x.nser) (hw2 : x.nser ≤ 256) (hab : a ≤ b) (hps : psOk dA x.nP x.npc x.pl PS) (hpn : x.npc ≤ 32) (h1 : x.nsc ≤ 64) (h7 : ∀ q : Nat, q < x.nsc → x.nsO q < 2 ^ 31) (h0 : x.hsize ≤ x.hN) (h9 : x.hN ≤ 65536) (hh7 : ∀ q : Nat, q < x.hsize → x.hO q < 2 ^ 31) (hbu : x.jblock + 1 < 2 ^ 31) (hlu : x.jlimit < 2 ^ 31) (hfl : x.jfill ≤ 126) (hz : 0 < sumN x.npc (x.soN PS w a b) + cnt x.hsize (x.hW w a b)) (hu : (0 < sumN x.npc (x.soN PS w a b) ∧ 64 ≤ x.nsc) ∨ x.room 1 = false) : mX l ⟨"SeriesVault", "delete", "(IJJ)I"⟩ [Cond.code ⟨"SeriesVault", "delete", "(IJJ)I"⟩ prog_1_method_34_code 8 (some FieldType.int)] { frames := 6, cells := 1, slots := 6, locals := 103 } (pC D dA [.ref h, .int (nI w), .long a, .long b] (VW dA h ad x) sz) "java/lang/UnsupportedOperationException" (fun st9 t9 => va_F (va_A (VW dA h ad x) sz) st9 t9 ∧ bW D (va_A (VW dA h ad x) sz) (VW dA h ad x) t9) 1 6 (va_A (VW dA h ad x) sz) := by
  refine mkX (y := ⟨"SeriesVault", "delete", "(IJJ)I"⟩) (cc := prog_1_method_34_code) (maxL := 8) (av := [.ref h, .int (nI w), .long a, .long b]) (ws := VW dA h ad x) (sz := sz) (B := fun A => (fun st9 t9 => va_F A st9 t9 ∧ bW D A (VW dA h ad x) t9)) (by decide) (Nat.le_of_ble_eq_true rfl) ?_
  intro A p e s m below meth c ls hsz hno hB
  obtain ⟨hx, hb, hr, hml, hown, hin, hlk, hE, hK, hP, hD, hS, hA, hN, hl⟩ := hB
  have hown : s.vm.findClass "SeriesVault" = some m.cls := hown
  have hl : lv_has ls 8 [(0, .ref h), (1, .int (nI w)), (2, .long a), (4, .long b)] := hl
  obtain ⟨H, hH⟩ : ∃ z, z = s.heap := ⟨_, rfl⟩
  have hP : va_P D vwCl (VW dA h ad x) H := by rw [hH]; exact hP
  have hS : va_S A s.heap H [] := by rw [hH]; exact hS
  rw [← hH]
  refine lv_aload_n hx hb d_V_delete_0 rfl (lv_at hl 0 rfl) ?_
  refine jfV (rnV (As := []) (rest := []) hx hb hml hown hE hK (hN _ _ hS) hP hD (v_checkPower l D dA H.size h ad x ho) (q0 := 0) rfl rfl w278 w276 w279 w280 w277 rfl rfl ⟨⟨by decide, by decide⟩, rfl⟩ ⟨(Nat.le_of_ble_eq_true rfl), (Nat.le_of_ble_eq_true rfl)⟩ rfl hl.1 rfl (Nat.le_of_ble_eq_true rfl) d_V_delete_1 ⟨(Nat.le_of_ble_eq_true rfl), (Nat.le_of_ble_eq_true rfl)⟩) hP hD hS hA (fun u2 H locs hp9 hP hD hS => ?_)
  have hP : va_P D vwCl (VW dA h ad x) H := hP
  have hD : va_D A (VW dA h ad x) := hD
  refine lv_aload_n hx hb d_V_delete_4 rfl (lv_at hl 0 rfl) ?_
  refine lv_iload_n hx hb d_V_delete_5 rfl (lv_at hl 1 rfl) ?_
  refine jfV (rnV (As := [.int (nI w)]) (rest := []) hx hb hml hown hE hK (hN _ _ hS) hP hD (v_checkSeries l D dA H.size h ad x w (show w < x.nser from by omega) (show x.nser ≤ 256 from by omega)) (q0 := 0) rfl rfl w300 w299 w301 w302 w277 rfl rfl ⟨⟨by decide, by decide⟩, rfl⟩ ⟨(Nat.le_of_ble_eq_true rfl), (Nat.le_of_ble_eq_true rfl)⟩ rfl hl.1 rfl (Nat.le_of_ble_eq_true rfl) d_V_delete_6 ⟨(Nat.le_of_ble_eq_true rfl), (Nat.le_of_ble_eq_true rfl)⟩) hP hD hS hA (fun u4 H locs hp9 hP hD hS => ?_)
  have hP : va_P D vwCl (VW dA h ad x) H := hP
  have hD : va_D A (VW dA h ad x) := hD
  refine lv_lload_n hx hb d_V_delete_9 rfl (lv_at hl 2 rfl) ?_
  refine lv_lload hx hb d_V_delete_10 (lv_at hl 3 rfl) ?_
  refine W.lcmp hx hb d_V_delete_12 ?_
  refine lv_if_le hx hb d_V_delete_13 (tgt := 24) rfl (fun _ => ?_) (fun h9 => absurd ((lg_cmp_le _ _).mpr hab) h9)
  refine lv_aload_n hx hb d_V_delete_24 rfl (lv_at hl 0 rfl) ?_
  refine gF (v := .ref (ad 3)) hx hb hown hE hK hP 0 rfl rfl layV 11 (by decide) w297 rfl d_V_delete_25 ?_
  refine lv_iload_n hx hb d_V_delete_28 rfl (lv_at hl 1 rfl) ?_
  refine lv_lload_n hx hb d_V_delete_29 rfl (lv_at hl 2 rfl) ?_
  refine lv_lload hx hb d_V_delete_30 (lv_at hl 3 rfl) ?_
  refine jfI (rnV (As := [.int (nI w), .long a, .long b]) (rest := []) hx hb hml hown hE hK (hN _ _ hS) hP hD (v_countSeen l D dA H.size h ad x PS w a b hps (show x.npc ≤ 32 from by omega) (show x.nsc ≤ 64 from by omega) h7 (show w < 256 from by omega)) (q0 := 17) rfl rfl w1336 w1335 w1337 w1338 w583 rfl rfl ⟨⟨by decide, by decide⟩, rfl⟩ ⟨(Nat.le_of_ble_eq_true rfl), (Nat.le_of_ble_eq_true rfl)⟩ rfl hl.1 rfl (Nat.le_of_ble_eq_true rfl) d_V_delete_32 ⟨(Nat.le_of_ble_eq_true rfl), (Nat.le_of_ble_eq_true rfl)⟩) hP hD hS hA (fun r5 u6 H locs hp9 hP hD hS => ?_)
  have hP : va_P D vwCl (VW dA h ad x) H := hP
  have hD : va_D A (VW dA h ad x) := hD
  replace hp9 : nI (sumN x.npc (x.soN PS w a b)) = r5 := Eq.symm hp9
  subst hp9
  refine lv_istore hx hb d_V_delete_35 hl (by decide) rfl (fun ls hl => ?_)
  have hl : lv_has ls 8 [(6, .int (nI (sumN x.npc (x.soN PS w a b)))), (0, .ref h), (1, .int (nI w)), (2, .long a), (4, .long b)] := hl
  refine lv_iload hx hb d_V_delete_37 (lv_at hl 0 rfl) ?_
  refine lv_aload_n hx hb d_V_delete_39 rfl (lv_at hl 1 rfl) ?_
  refine gF (v := .ref (ad 1)) hx hb hown hE hK hP 0 rfl rfl layV 9 (by decide) w576 rfl d_V_delete_40 ?_
  refine lv_iload_n hx hb d_V_delete_43 rfl (lv_at hl 2 rfl) ?_
  refine lv_lload_n hx hb d_V_delete_44 rfl (lv_at hl 3 rfl) ?_
  refine lv_lload hx hb d_V_delete_45 (lv_at hl 4 rfl) ?_
  refine jfI (rnV (As := [.int (nI w), .long a, .long b]) (rest := [.int (nI (sumN x.npc (x.soN PS w a b)))]) hx hb hml hown hE hK (hN _ _ hS) hP hD (v_countWithin l D dA H.size h ad x w a b (show x.hsize ≤ x.hN from by omega) (show x.hN ≤ 65536 from by omega) (show w < 2 ^ 31 from by omega) hh7) (q0 := 9) rfl rfl w1356 w1355 w1357 w1358 w578 rfl rfl ⟨⟨by decide, by decide⟩, rfl⟩ ⟨(Nat.le_of_ble_eq_true rfl), (Nat.le_of_ble_eq_true rfl)⟩ rfl hl.1 rfl (Nat.le_of_ble_eq_true rfl) d_V_delete_47 ⟨(Nat.le_of_ble_eq_true rfl), (Nat.le_of_ble_eq_true rfl)⟩) hP hD hS hA (fun r7 u8 H locs hp9 hP hD hS => ?_)
  have hP : va_P D vwCl (VW dA h ad x) H := hP
  have hD : va_D A (VW dA h ad x) := hD
  replace hp9 : nI (cnt x.hsize (x.hW w a b)) = r7 := Eq.symm hp9
  subst hp9
  refine lv_iadd hx hb d_V_delete_50 (tpi (y := nI ((sumN x.npc (x.soN PS w a b)) + (cnt x.hsize (x.hW w a b)))) (nI_add (sumN x.npc (x.soN PS w a b)) (cnt x.hsize (x.hW w a b))) ?_)
  refine lv_istore hx hb d_V_delete_51 hl (by decide) rfl (fun ls hl => ?_)
  have hl : lv_has ls 8 [(7, .int (nI ((sumN x.npc (x.soN PS w a b)) + (cnt x.hsize (x.hW w a b))))), (6, .int (nI (sumN x.npc (x.soN PS w a b)))), (0, .ref h), (1, .int (nI w)), (2, .long a), (4, .long b)] := hl
  have so := so_le (w := w) (a := a) (b := b) hps hpn
  have sw := cnt_le x.hsize (x.hW w a b)
  refine lv_iload hx hb d_V_delete_53 (lv_at hl 0 rfl) ?_
  refine lv_if_ne hx hb d_V_delete_55 (tgt := 60) rfl (fun g9 => ?_) (fun g9 => ?_)
  rotate_left
  · have g9 := (nI_eq (a := (sumN x.npc (x.soN PS w a b)) + (cnt x.hsize (x.hW w a b))) (b := 0) (by omega) (by decide)).mp g9; exfalso; omega
  have g9 := mt (nI_eq (a := (sumN x.npc (x.soN PS w a b)) + (cnt x.hsize (x.hW w a b))) (b := 0) (by omega) (by decide)).mpr g9
  refine lv_iload hx hb d_V_delete_60 (lv_at hl 1 rfl) ?_
  refine lv_if_le hx hb d_V_delete_62 (tgt := 77) rfl (fun g10 => ?_) (fun g10 => ?_)
  · have g10 := (nI_leI (a := sumN x.npc (x.soN PS w a b)) (b := 0) (by omega) (by decide)).mp g10
    refine lv_aload_n hx hb d_V_delete_77 rfl (lv_at hl 2 rfl) ?_
    refine gF (v := .ref (ad 0)) hx hb hown hE hK hP 0 rfl rfl layV 8 (by decide) w312 rfl d_V_delete_78 ?_
    refine lv_iconst (v := 1) hx hb d_V_delete_81 (by decide) ?_
    refine jfI (rnV (As := [.int 1]) (rest := []) hx hb hml hown hE hK (hN _ _ hS) hP hD (v_jhasRoom l D dA H.size h ad x 1 (show x.jfill + 1 < 2 ^ 31 from by omega) (show x.jblock + 1 < 2 ^ 31 from by omega) (show x.jlimit < 2 ^ 31 from by omega)) (q0 := 2) rfl rfl w1163 w1162 w1164 w1165 w556 rfl rfl ⟨⟨by decide, by decide⟩, rfl⟩ ⟨(Nat.le_of_ble_eq_true rfl), (Nat.le_of_ble_eq_true rfl)⟩ rfl hl.1 rfl (Nat.le_of_ble_eq_true rfl) d_V_delete_82 ⟨(Nat.le_of_ble_eq_true rfl), (Nat.le_of_ble_eq_true rfl)⟩) hP hD hS hA (fun r11 u12 H locs hp9 hP hD hS => ?_)
    have hP : va_P D vwCl (VW dA h ad x) H := hP
    have hD : va_D A (VW dA h ad x) := hD
    replace hp9 : bI (x.room 1) = r11 := Eq.symm hp9
    subst hp9
    refine lv_if_ne hx hb d_V_delete_85 (tgt := 96) rfl (fun h9 => absurd (by rw [hu.resolve_left (fun z => by have := g10; omega)]; decide) h9) (fun _ => ?_)
    exact xNew (E := "java/lang/UnsupportedOperationException") (names := ["java/lang/RuntimeException", "java/lang/Exception"]) hx hb htr hown (by decide) (by decide) hE w1156 w1157 (fun U hU => at_V_UOE hU) (hN _ _ hS) (hl.1.trans hml.symm) d_V_delete_88 d_V_delete_91 d_V_delete_92 d_V_delete_95 hno (by decide) (Nat.le_of_ble_eq_true rfl) (Nat.le_of_ble_eq_true rfl) (Nat.le_of_ble_eq_true rfl) hlk (fun t h1 h2 => xEndV hP hD hS t h1 h2) hS.2.2 (Nat.le_of_ble_eq_true rfl) (Nat.le_of_ble_eq_true rfl)
  · have g10 := mt (nI_leI (a := sumN x.npc (x.soN PS w a b)) (b := 0) (by omega) (by decide)).mpr g10
    refine lv_aload_n hx hb d_V_delete_65 rfl (lv_at hl 2 rfl) ?_
    refine gF (v := .ref (ad 3)) hx hb hown hE hK hP 0 rfl rfl layV 11 (by decide) w297 rfl d_V_delete_66 ?_
    refine gFN (v := .int (nI x.nsc)) hx hb hown hE hK hP 17 rfl rfl layH 6 (by decide) w642 rfl d_V_delete_69 ?_
    refine lv_bipush (v := 64) hx hb d_V_delete_72 (by decide) ?_
    refine lv_icmp_ge hx hb d_V_delete_74 (tgt := 88) rfl (fun g13 => ?_) (fun g13 => ?_)
    · have g13 := (nI_leI (a := 64) (b := x.nsc) (by omega) (by omega)).mp g13
      exact xNew (E := "java/lang/UnsupportedOperationException") (names := ["java/lang/RuntimeException", "java/lang/Exception"]) hx hb htr hown (by decide) (by decide) hE w1156 w1157 (fun U hU => at_V_UOE hU) (hN _ _ hS) (hl.1.trans hml.symm) d_V_delete_88 d_V_delete_91 d_V_delete_92 d_V_delete_95 hno (by decide) (Nat.le_of_ble_eq_true rfl) (Nat.le_of_ble_eq_true rfl) (Nat.le_of_ble_eq_true rfl) hlk (fun t h1 h2 => xEndV hP hD hS t h1 h2) hS.2.2 (Nat.le_of_ble_eq_true rfl) (Nat.le_of_ble_eq_true rfl)
    · have g13 := mt (nI_leI (a := 64) (b := x.nsc) (by omega) (by omega)).mpr g13
      refine lv_aload_n hx hb d_V_delete_77 rfl (lv_at hl 2 rfl) ?_
      refine gF (v := .ref (ad 0)) hx hb hown hE hK hP 0 rfl rfl layV 8 (by decide) w312 rfl d_V_delete_78 ?_
      refine lv_iconst (v := 1) hx hb d_V_delete_81 (by decide) ?_
      refine jfI (rnV (As := [.int 1]) (rest := []) hx hb hml hown hE hK (hN _ _ hS) hP hD (v_jhasRoom l D dA H.size h ad x 1 (show x.jfill + 1 < 2 ^ 31 from by omega) (show x.jblock + 1 < 2 ^ 31 from by omega) (show x.jlimit < 2 ^ 31 from by omega)) (q0 := 2) rfl rfl w1163 w1162 w1164 w1165 w556 rfl rfl ⟨⟨by decide, by decide⟩, rfl⟩ ⟨(Nat.le_of_ble_eq_true rfl), (Nat.le_of_ble_eq_true rfl)⟩ rfl hl.1 rfl (Nat.le_of_ble_eq_true rfl) d_V_delete_82 ⟨(Nat.le_of_ble_eq_true rfl), (Nat.le_of_ble_eq_true rfl)⟩) hP hD hS hA (fun r14 u15 H locs hp9 hP hD hS => ?_)
      have hP : va_P D vwCl (VW dA h ad x) H := hP
      have hD : va_D A (VW dA h ad x) := hD
      replace hp9 : bI (x.room 1) = r14 := Eq.symm hp9
      subst hp9
      refine lv_if_ne hx hb d_V_delete_85 (tgt := 96) rfl (fun h9 => absurd (by rw [hu.resolve_left (fun z => by have := g13; omega)]; decide) h9) (fun _ => ?_)
      exact xNew (E := "java/lang/UnsupportedOperationException") (names := ["java/lang/RuntimeException", "java/lang/Exception"]) hx hb htr hown (by decide) (by decide) hE w1156 w1157 (fun U hU => at_V_UOE hU) (hN _ _ hS) (hl.1.trans hml.symm) d_V_delete_88 d_V_delete_91 d_V_delete_92 d_V_delete_95 hno (by decide) (Nat.le_of_ble_eq_true rfl) (Nat.le_of_ble_eq_true rfl) (Nat.le_of_ble_eq_true rfl) hlk (fun t h1 h2 => xEndV hP hD hS t h1 h2) hS.2.2 (Nat.le_of_ble_eq_true rfl) (Nat.le_of_ble_eq_true rfl)
theorem d_V_delete_96 : decode prog_1_method_34_code 96 = .ok (.aload_n 0, 1) := by decide +kernel
theorem d_V_delete_97 : decode prog_1_method_34_code 97 = .ok (.iconst 2, 1) := by decide +kernel
theorem d_V_delete_98 : decode prog_1_method_34_code 98 = .ok (.iload_n 1, 1) := by decide +kernel
theorem d_V_delete_99 : decode prog_1_method_34_code 99 = .ok (.iconst 1, 1) := by decide +kernel
theorem d_V_delete_100 : decode prog_1_method_34_code 100 = .ok (.lload_n 2, 1) := by decide +kernel
theorem d_V_delete_101 : decode prog_1_method_34_code 101 = .ok (.lload 4, 2) := by decide +kernel
theorem d_V_delete_103 : decode prog_1_method_34_code 103 = .ok (.invokevirtual 241, 3) := by decide +kernel
set_option maxHeartbeats 4000000 in
set_option maxRecDepth 100000 in
theorem v_delete_5 (l : Launch) (htr : l.stackTraces = false) (D : va_G) (dA : Nat → ClassId) (sz : Nat) (h : Nat) (ad : Nat → Nat) (x : VS) (PS : Nat → PT) (w : Nat) (a : Int64) (b : Int64) (ho : x.powered = true) (hw1 : w < x.nser) (hw2 : x.nser ≤ 256) (hab : a ≤ b) (hps : psOk dA x.nP x.npc x.pl PS) (hpn : x.npc ≤ 32) (h1 : x.nsc ≤ 64) (h7 : ∀ q : Nat, q < x.nsc → x.nsO q < 2 ^ 31) (h0 : x.hsize ≤ x.hN) (h9 : x.hN ≤ 65536) (hh7 : ∀ q : Nat, q < x.hsize → x.hO q < 2 ^ 31) (hbu : x.jblock + 1 < 2 ^ 31) (hlu : x.jlimit < 2 ^ 31) (hfl : x.jfill ≤ 126) (hz : 0 < sumN x.npc (x.soN PS w a b) + cnt x.hsize (x.hW w a b)) (hs : sumN x.npc (x.soN PS w a b) = 0 ∨ x.nsc < 64) (hro : x.room 1 = true) (c1 : 126 < x.jfill + 1) (hc2 : x.jch = true) (hc : x.cutLeft = 0) : mX l ⟨"SeriesVault", "delete", "(IJJ)I"⟩ [Cond.code ⟨"SeriesVault", "delete", "(IJJ)I"⟩ prog_1_method_34_code 8 (some FieldType.int)] { frames := 9, cells := 1, slots := 6, locals := 148 } (pC D dA [.ref h, .int (nI w), .long a, .long b] (VW dA h ad x) sz) "java/lang/IllegalStateException" (fun st9 t9 => va_F (va_A (VW dA h ad x) sz) st9 t9 ∧ bW D (va_A (VW dA h ad x) sz) (VW dA h ad (VS.s_cutLeft (VS.s_powered x false) (-1))) t9) 1 6 (va_A (VW dA h ad x) sz) := by
  refine mkX (y := ⟨"SeriesVault", "delete", "(IJJ)I"⟩) (cc := prog_1_method_34_code) (maxL := 8) (av := [.ref h, .int (nI w), .long a, .long b]) (ws := VW dA h ad x) (sz := sz) (B := fun A => (fun st9 t9 => va_F A st9 t9 ∧ bW D A (VW dA h ad (VS.s_cutLeft (VS.s_powered x false) (-1))) t9)) (by decide) (Nat.le_of_ble_eq_true rfl) ?_
  intro A p e s m below meth c ls hsz hno hB
  obtain ⟨hx, hb, hr, hml, hown, hin, hlk, hE, hK, hP, hD, hS, hA, hN, hl⟩ := hB
  have hown : s.vm.findClass "SeriesVault" = some m.cls := hown
  have hl : lv_has ls 8 [(0, .ref h), (1, .int (nI w)), (2, .long a), (4, .long b)] := hl
  obtain ⟨H, hH⟩ : ∃ z, z = s.heap := ⟨_, rfl⟩
  have hP : va_P D vwCl (VW dA h ad x) H := by rw [hH]; exact hP
  have hS : va_S A s.heap H [] := by rw [hH]; exact hS
  rw [← hH]
  refine lv_aload_n hx hb d_V_delete_0 rfl (lv_at hl 0 rfl) ?_
  refine jfV (rnV (As := []) (rest := []) hx hb hml hown hE hK (hN _ _ hS) hP hD (v_checkPower l D dA H.size h ad x ho) (q0 := 0) rfl rfl w278 w276 w279 w280 w277 rfl rfl ⟨⟨by decide, by decide⟩, rfl⟩ ⟨(Nat.le_of_ble_eq_true rfl), (Nat.le_of_ble_eq_true rfl)⟩ rfl hl.1 rfl (Nat.le_of_ble_eq_true rfl) d_V_delete_1 ⟨(Nat.le_of_ble_eq_true rfl), (Nat.le_of_ble_eq_true rfl)⟩) hP hD hS hA (fun u2 H locs hp9 hP hD hS => ?_)
  have hP : va_P D vwCl (VW dA h ad x) H := hP
  have hD : va_D A (VW dA h ad x) := hD
  refine lv_aload_n hx hb d_V_delete_4 rfl (lv_at hl 0 rfl) ?_
  refine lv_iload_n hx hb d_V_delete_5 rfl (lv_at hl 1 rfl) ?_
  refine jfV (rnV (As := [.int (nI w)]) (rest := []) hx hb hml hown hE hK (hN _ _ hS) hP hD (v_checkSeries l D dA H.size h ad x w (show w < x.nser from by omega) (show x.nser ≤ 256 from by omega)) (q0 := 0) rfl rfl w300 w299 w301 w302 w277 rfl rfl ⟨⟨by decide, by decide⟩, rfl⟩ ⟨(Nat.le_of_ble_eq_true rfl), (Nat.le_of_ble_eq_true rfl)⟩ rfl hl.1 rfl (Nat.le_of_ble_eq_true rfl) d_V_delete_6 ⟨(Nat.le_of_ble_eq_true rfl), (Nat.le_of_ble_eq_true rfl)⟩) hP hD hS hA (fun u4 H locs hp9 hP hD hS => ?_)
  have hP : va_P D vwCl (VW dA h ad x) H := hP
  have hD : va_D A (VW dA h ad x) := hD
  refine lv_lload_n hx hb d_V_delete_9 rfl (lv_at hl 2 rfl) ?_
  refine lv_lload hx hb d_V_delete_10 (lv_at hl 3 rfl) ?_
  refine W.lcmp hx hb d_V_delete_12 ?_
  refine lv_if_le hx hb d_V_delete_13 (tgt := 24) rfl (fun _ => ?_) (fun h9 => absurd ((lg_cmp_le _ _).mpr hab) h9)
  refine lv_aload_n hx hb d_V_delete_24 rfl (lv_at hl 0 rfl) ?_
  refine gF (v := .ref (ad 3)) hx hb hown hE hK hP 0 rfl rfl layV 11 (by decide) w297 rfl d_V_delete_25 ?_
  refine lv_iload_n hx hb d_V_delete_28 rfl (lv_at hl 1 rfl) ?_
  refine lv_lload_n hx hb d_V_delete_29 rfl (lv_at hl 2 rfl) ?_
  refine lv_lload hx hb d_V_delete_30 (lv_at hl 3 rfl) ?_
  refine jfI (rnV (As := [.int (nI w), .long a, .long b]) (rest := []) hx hb hml hown hE hK (hN _ _ hS) hP hD (v_countSeen l D dA H.size h ad x PS w a b hps (show x.npc ≤ 32 from by omega) (show x.nsc ≤ 64 from by omega) h7 (show w < 256 from by omega)) (q0 := 17) rfl rfl w1336 w1335 w1337 w1338 w583 rfl rfl ⟨⟨by decide, by decide⟩, rfl⟩ ⟨(Nat.le_of_ble_eq_true rfl), (Nat.le_of_ble_eq_true rfl)⟩ rfl hl.1 rfl (Nat.le_of_ble_eq_true rfl) d_V_delete_32 ⟨(Nat.le_of_ble_eq_true rfl), (Nat.le_of_ble_eq_true rfl)⟩) hP hD hS hA (fun r5 u6 H locs hp9 hP hD hS => ?_)
  have hP : va_P D vwCl (VW dA h ad x) H := hP
  have hD : va_D A (VW dA h ad x) := hD
  replace hp9 : nI (sumN x.npc (x.soN PS w a b)) = r5 := Eq.symm hp9
  subst hp9
  refine lv_istore hx hb d_V_delete_35 hl (by decide) rfl (fun ls hl => ?_)
  have hl : lv_has ls 8 [(6, .int (nI (sumN x.npc (x.soN PS w a b)))), (0, .ref h), (1, .int (nI w)), (2, .long a), (4, .long b)] := hl
  refine lv_iload hx hb d_V_delete_37 (lv_at hl 0 rfl) ?_
  refine lv_aload_n hx hb d_V_delete_39 rfl (lv_at hl 1 rfl) ?_
  refine gF (v := .ref (ad 1)) hx hb hown hE hK hP 0 rfl rfl layV 9 (by decide) w576 rfl d_V_delete_40 ?_
  refine lv_iload_n hx hb d_V_delete_43 rfl (lv_at hl 2 rfl) ?_
  refine lv_lload_n hx hb d_V_delete_44 rfl (lv_at hl 3 rfl) ?_
  refine lv_lload hx hb d_V_delete_45 (lv_at hl 4 rfl) ?_
  refine jfI (rnV (As := [.int (nI w), .long a, .long b]) (rest := [.int (nI (sumN x.npc (x.soN PS w a b)))]) hx hb hml hown hE hK (hN _ _ hS) hP hD (v_countWithin l D dA H.size h ad x w a b (show x.hsize ≤ x.hN from by omega) (show x.hN ≤ 65536 from by omega) (show w < 2 ^ 31 from by omega) hh7) (q0 := 9) rfl rfl w1356 w1355 w1357 w1358 w578 rfl rfl ⟨⟨by decide, by decide⟩, rfl⟩ ⟨(Nat.le_of_ble_eq_true rfl), (Nat.le_of_ble_eq_true rfl)⟩ rfl hl.1 rfl (Nat.le_of_ble_eq_true rfl) d_V_delete_47 ⟨(Nat.le_of_ble_eq_true rfl), (Nat.le_of_ble_eq_true rfl)⟩) hP hD hS hA (fun r7 u8 H locs hp9 hP hD hS => ?_)
  have hP : va_P D vwCl (VW dA h ad x) H := hP
  have hD : va_D A (VW dA h ad x) := hD
  replace hp9 : nI (cnt x.hsize (x.hW w a b)) = r7 := Eq.symm hp9
  subst hp9
  refine lv_iadd hx hb d_V_delete_50 (tpi (y := nI ((sumN x.npc (x.soN PS w a b)) + (cnt x.hsize (x.hW w a b)))) (nI_add (sumN x.npc (x.soN PS w a b)) (cnt x.hsize (x.hW w a b))) ?_)
  refine lv_istore hx hb d_V_delete_51 hl (by decide) rfl (fun ls hl => ?_)
  have hl : lv_has ls 8 [(7, .int (nI ((sumN x.npc (x.soN PS w a b)) + (cnt x.hsize (x.hW w a b))))), (6, .int (nI (sumN x.npc (x.soN PS w a b)))), (0, .ref h), (1, .int (nI w)), (2, .long a), (4, .long b)] := hl
  have so := so_le (w := w) (a := a) (b := b) hps hpn
  have sw := cnt_le x.hsize (x.hW w a b)
  refine lv_iload hx hb d_V_delete_53 (lv_at hl 0 rfl) ?_
  refine lv_if_ne hx hb d_V_delete_55 (tgt := 60) rfl (fun g9 => ?_) (fun g9 => ?_)
  rotate_left
  · have g9 := (nI_eq (a := (sumN x.npc (x.soN PS w a b)) + (cnt x.hsize (x.hW w a b))) (b := 0) (by omega) (by decide)).mp g9; exfalso; omega
  have g9 := mt (nI_eq (a := (sumN x.npc (x.soN PS w a b)) + (cnt x.hsize (x.hW w a b))) (b := 0) (by omega) (by decide)).mpr g9
  refine lv_iload hx hb d_V_delete_60 (lv_at hl 1 rfl) ?_
  refine lv_if_le hx hb d_V_delete_62 (tgt := 77) rfl (fun g10 => ?_) (fun g10 => ?_)
  · have g10 := (nI_leI (a := sumN x.npc (x.soN PS w a b)) (b := 0) (by omega) (by decide)).mp g10
    refine lv_aload_n hx hb d_V_delete_77 rfl (lv_at hl 2 rfl) ?_
    refine gF (v := .ref (ad 0)) hx hb hown hE hK hP 0 rfl rfl layV 8 (by decide) w312 rfl d_V_delete_78 ?_
    refine lv_iconst (v := 1) hx hb d_V_delete_81 (by decide) ?_
    refine jfI (rnV (As := [.int 1]) (rest := []) hx hb hml hown hE hK (hN _ _ hS) hP hD (v_jhasRoom l D dA H.size h ad x 1 (show x.jfill + 1 < 2 ^ 31 from by omega) (show x.jblock + 1 < 2 ^ 31 from by omega) (show x.jlimit < 2 ^ 31 from by omega)) (q0 := 2) rfl rfl w1163 w1162 w1164 w1165 w556 rfl rfl ⟨⟨by decide, by decide⟩, rfl⟩ ⟨(Nat.le_of_ble_eq_true rfl), (Nat.le_of_ble_eq_true rfl)⟩ rfl hl.1 rfl (Nat.le_of_ble_eq_true rfl) d_V_delete_82 ⟨(Nat.le_of_ble_eq_true rfl), (Nat.le_of_ble_eq_true rfl)⟩) hP hD hS hA (fun r11 u12 H locs hp9 hP hD hS => ?_)
    have hP : va_P D vwCl (VW dA h ad x) H := hP
    have hD : va_D A (VW dA h ad x) := hD
    replace hp9 : bI (x.room 1) = r11 := Eq.symm hp9
    subst hp9
    refine lv_if_ne hx hb d_V_delete_85 (tgt := 96) rfl (fun _ => ?_) (fun h9 => absurd h9 (by rw [hro]; decide))
    refine lv_aload_n hx hb d_V_delete_96 rfl (lv_at hl 2 rfl) ?_
    refine lv_iconst (v := 2) hx hb d_V_delete_97 (by decide) ?_
    refine lv_iload_n hx hb d_V_delete_98 rfl (lv_at hl 3 rfl) ?_
    refine lv_iconst (v := 1) hx hb d_V_delete_99 (by decide) ?_
    refine lv_lload_n hx hb d_V_delete_100 rfl (lv_at hl 4 rfl) ?_
    refine lv_lload hx hb d_V_delete_101 (lv_at hl 5 rfl) ?_
    refine xfV (w1 := VW dA h ad (VS.s_cutLeft (VS.s_powered x false) (-1))) (As := [.int 2, .int (nI w), .int 1, .long a, .long b]) (rest := []) hx hb hml hown hE hK (hN _ _ hS) (v_writeRecord_x l htr D dA H.size h ad x 2 w 1 a b (show x.jfill + 1 < 2 ^ 31 from by omega) (show 126 < x.jfill + 1 from by omega) hc2 hc) (q0 := 0) rfl rfl w1133 w1132 w1134 w1135 w277 rfl rfl ⟨⟨by decide, by decide⟩, rfl⟩ ⟨(Nat.le_of_ble_eq_true rfl), (Nat.le_of_ble_eq_true rfl)⟩ rfl hl.1 rfl (Nat.le_of_ble_eq_true rfl) d_V_delete_103 ⟨(Nat.le_of_ble_eq_true rfl), (Nat.le_of_ble_eq_true rfl)⟩ hP hD hS hA (fun xa13 ce H locs hP hD hS hce hcv hcl => ?_)
    exact xOut hno hlk hce hcv hcl (fun t ht => xEndV hP hD hS t (by rw [ht]; exact Nat.le_refl _) (fun q _ => by rw [ht])) hS.2.2 (Nat.le_of_ble_eq_true rfl) (Nat.le_of_ble_eq_true rfl)
  · have g10 := mt (nI_leI (a := sumN x.npc (x.soN PS w a b)) (b := 0) (by omega) (by decide)).mpr g10
    refine lv_aload_n hx hb d_V_delete_65 rfl (lv_at hl 2 rfl) ?_
    refine gF (v := .ref (ad 3)) hx hb hown hE hK hP 0 rfl rfl layV 11 (by decide) w297 rfl d_V_delete_66 ?_
    refine gFN (v := .int (nI x.nsc)) hx hb hown hE hK hP 17 rfl rfl layH 6 (by decide) w642 rfl d_V_delete_69 ?_
    refine lv_bipush (v := 64) hx hb d_V_delete_72 (by decide) ?_
    refine lv_icmp_ge hx hb d_V_delete_74 (tgt := 88) rfl (fun g14 => ?_) (fun g14 => ?_)
    · have g14 := (nI_leI (a := 64) (b := x.nsc) (by omega) (by omega)).mp g14; exfalso; omega
    have g14 := mt (nI_leI (a := 64) (b := x.nsc) (by omega) (by omega)).mpr g14
    refine lv_aload_n hx hb d_V_delete_77 rfl (lv_at hl 2 rfl) ?_
    refine gF (v := .ref (ad 0)) hx hb hown hE hK hP 0 rfl rfl layV 8 (by decide) w312 rfl d_V_delete_78 ?_
    refine lv_iconst (v := 1) hx hb d_V_delete_81 (by decide) ?_
    refine jfI (rnV (As := [.int 1]) (rest := []) hx hb hml hown hE hK (hN _ _ hS) hP hD (v_jhasRoom l D dA H.size h ad x 1 (show x.jfill + 1 < 2 ^ 31 from by omega) (show x.jblock + 1 < 2 ^ 31 from by omega) (show x.jlimit < 2 ^ 31 from by omega)) (q0 := 2) rfl rfl w1163 w1162 w1164 w1165 w556 rfl rfl ⟨⟨by decide, by decide⟩, rfl⟩ ⟨(Nat.le_of_ble_eq_true rfl), (Nat.le_of_ble_eq_true rfl)⟩ rfl hl.1 rfl (Nat.le_of_ble_eq_true rfl) d_V_delete_82 ⟨(Nat.le_of_ble_eq_true rfl), (Nat.le_of_ble_eq_true rfl)⟩) hP hD hS hA (fun r15 u16 H locs hp9 hP hD hS => ?_)
    have hP : va_P D vwCl (VW dA h ad x) H := hP
    have hD : va_D A (VW dA h ad x) := hD
    replace hp9 : bI (x.room 1) = r15 := Eq.symm hp9
    subst hp9
    refine lv_if_ne hx hb d_V_delete_85 (tgt := 96) rfl (fun _ => ?_) (fun h9 => absurd h9 (by rw [hro]; decide))
    refine lv_aload_n hx hb d_V_delete_96 rfl (lv_at hl 2 rfl) ?_
    refine lv_iconst (v := 2) hx hb d_V_delete_97 (by decide) ?_
    refine lv_iload_n hx hb d_V_delete_98 rfl (lv_at hl 3 rfl) ?_
    refine lv_iconst (v := 1) hx hb d_V_delete_99 (by decide) ?_
    refine lv_lload_n hx hb d_V_delete_100 rfl (lv_at hl 4 rfl) ?_
    refine lv_lload hx hb d_V_delete_101 (lv_at hl 5 rfl) ?_
    refine xfV (w1 := VW dA h ad (VS.s_cutLeft (VS.s_powered x false) (-1))) (As := [.int 2, .int (nI w), .int 1, .long a, .long b]) (rest := []) hx hb hml hown hE hK (hN _ _ hS) (v_writeRecord_x l htr D dA H.size h ad x 2 w 1 a b (show x.jfill + 1 < 2 ^ 31 from by omega) (show 126 < x.jfill + 1 from by omega) hc2 hc) (q0 := 0) rfl rfl w1133 w1132 w1134 w1135 w277 rfl rfl ⟨⟨by decide, by decide⟩, rfl⟩ ⟨(Nat.le_of_ble_eq_true rfl), (Nat.le_of_ble_eq_true rfl)⟩ rfl hl.1 rfl (Nat.le_of_ble_eq_true rfl) d_V_delete_103 ⟨(Nat.le_of_ble_eq_true rfl), (Nat.le_of_ble_eq_true rfl)⟩ hP hD hS hA (fun xa17 ce H locs hP hD hS hce hcv hcl => ?_)
    exact xOut hno hlk hce hcv hcl (fun t ht => xEndV hP hD hS t (by rw [ht]; exact Nat.le_refl _) (fun q _ => by rw [ht])) hS.2.2 (Nat.le_of_ble_eq_true rfl) (Nat.le_of_ble_eq_true rfl)
theorem d_V_delete_106 : decode prog_1_method_34_code 106 = .ok (.aload_n 0, 1) := by decide +kernel
theorem d_V_delete_107 : decode prog_1_method_34_code 107 = .ok (.iload_n 1, 1) := by decide +kernel
theorem d_V_delete_108 : decode prog_1_method_34_code 108 = .ok (.lload_n 2, 1) := by decide +kernel
theorem d_V_delete_109 : decode prog_1_method_34_code 109 = .ok (.lload 4, 2) := by decide +kernel
theorem d_V_delete_111 : decode prog_1_method_34_code 111 = .ok (.invokevirtual 180, 3) := by decide +kernel
theorem d_V_delete_114 : decode prog_1_method_34_code 114 = .ok (.iload 7, 2) := by decide +kernel
theorem d_V_delete_116 : decode prog_1_method_34_code 116 = .ok (.ireturn, 1) := by decide +kernel
theorem w1359 : Cond.methodLink "SeriesVault" 180 ⟨"SeriesVault", "letGo", "(IJJ)V"⟩ ∈ aW := aw_of (tb_5 (List.mem_of_getElem? (i := 205) rfl)) rfl
theorem w1360 : Cond.code ⟨"SeriesVault", "letGo", "(IJJ)V"⟩ prog_1_method_35_code 6 none ∈ aW := aw_of (tb_5 (List.mem_of_getElem? (i := 208) rfl)) rfl
theorem w1361 : Cond.instanceMethod ⟨"SeriesVault", "letGo", "(IJJ)V"⟩ ∈ aW := aw_of (tb_5 (List.mem_of_getElem? (i := 207) rfl)) rfl
theorem w1362 : Cond.selects "SeriesVault" ⟨"SeriesVault", "letGo", "(IJJ)V"⟩ ⟨"SeriesVault", "letGo", "(IJJ)V"⟩ ∈ aW := aw_pr (List.mem_map.mpr ⟨_, pv_2 (List.mem_of_getElem? (i := 10) rfl), rfl⟩) rfl
set_option maxHeartbeats 4000000 in
set_option maxRecDepth 100000 in
theorem v_delete_60 (l : Launch) (D : va_G) (dA : Nat → ClassId) (sz : Nat) (h : Nat) (ad : Nat → Nat) (x : VS) (PS : Nat → PT) (w : Nat) (a : Int64) (b : Int64) (ho : x.powered = true) (hw1 : w < x.nser) (hw2 : x.nser ≤ 256) (hab : a ≤ b) (hps : psOk dA x.nP x.npc x.pl PS) (hpn : x.npc ≤ 32) (h1 : x.nsc ≤ 64) (h7 : ∀ q : Nat, q < x.nsc → x.nsO q < 2 ^ 31) (h0 : x.hsize ≤ x.hN) (h9 : x.hN ≤ 65536) (hh7 : ∀ q : Nat, q < x.hsize → x.hO q < 2 ^ 31) (hbu : x.jblock + 1 < 2 ^ 31) (hlu : x.jlimit < 2 ^ 31) (hfl : x.jfill ≤ 126) (hs1 : x.jsize ≤ x.jN) (hs2 : 0 < x.jN) (hs3 : x.jN ≤ 65536) (hz : 0 < sumN x.npc (x.soN PS w a b) + cnt x.hsize (x.hW w a b)) (hs : sumN x.npc (x.soN PS w a b) = 0) (hro : x.room 1 = true) (hcr : x.jfill + 1 ≤ 126 ∨ x.jch = false ∨ ¬ x.cutLeft = 0) : Met l ⟨"SeriesVault", "delete", "(IJJ)I"⟩ [Cond.code ⟨"SeriesVault", "delete", "(IJJ)I"⟩ prog_1_method_34_code 8 (some FieldType.int)] { frames := 6, cells := 6 * (x.jcap - x.jN), slots := 12 * (x.jcap - x.jN), locals := 136 } (pC D dA [.ref h, .int (nI w), .long a, .long b] (VW dA h ad x) sz) (va_Qi (fun (r9 : Int32) (u9 : VS) => r9 = nI (sumN x.npc (x.soN PS w a b) + cnt x.hsize (x.hW w a b)) ∧ ∃ ja : Nat → Nat, u9 = (x.wrF ja 2 w 1 a b).dwS w a b) (fun (u9 : VS) t9 => bW D (va_A (VW dA h ad x) sz) (VW dA h ad u9) t9) (va_A (VW dA h ad x) sz)) (6 * (x.jcap - x.jN)) (12 * (x.jcap - x.jN)) (va_A (VW dA h ad x) sz) := by
  refine mkC (y := ⟨"SeriesVault", "delete", "(IJJ)I"⟩) (cc := prog_1_method_34_code) (maxL := 8) (av := [.ref h, .int (nI w), .long a, .long b]) (ws := VW dA h ad x) (sz := sz) (Qc := fun A => va_Qi (fun (r9 : Int32) (u9 : VS) => r9 = nI (sumN x.npc (x.soN PS w a b) + cnt x.hsize (x.hW w a b)) ∧ ∃ ja : Nat → Nat, u9 = (x.wrF ja 2 w 1 a b).dwS w a b) (fun (u9 : VS) t9 => bW D A (VW dA h ad u9) t9) A) (by decide) (Nat.le_of_ble_eq_true rfl) ?_
  intro A p e s m below meth c ls hsz hB
  obtain ⟨hx, hb, hr, hml, hown, hin, hlk, hE, hK, hP, hD, hS, hA, hN, hl⟩ := hB
  have hown : s.vm.findClass "SeriesVault" = some m.cls := hown
  have hl : lv_has ls 8 [(0, .ref h), (1, .int (nI w)), (2, .long a), (4, .long b)] := hl
  obtain ⟨H, hH⟩ : ∃ z, z = s.heap := ⟨_, rfl⟩
  have hP : va_P D vwCl (VW dA h ad x) H := by rw [hH]; exact hP
  have hS : va_S A s.heap H [] := by rw [hH]; exact hS
  rw [← hH]
  refine lv_aload_n hx hb d_V_delete_0 rfl (lv_at hl 0 rfl) ?_
  refine jfV (rnV (As := []) (rest := []) hx hb hml hown hE hK (hN _ _ hS) hP hD (v_checkPower l D dA H.size h ad x ho) (q0 := 0) rfl rfl w278 w276 w279 w280 w277 rfl rfl ⟨⟨by decide, by decide⟩, rfl⟩ ⟨(Nat.le_of_ble_eq_true rfl), (Nat.le_of_ble_eq_true rfl)⟩ rfl hl.1 rfl (Nat.le_of_ble_eq_true rfl) d_V_delete_1 ⟨(show 0 + 0 ≤ 6 * (x.jcap - x.jN) by omega), (show 0 + 0 ≤ 12 * (x.jcap - x.jN) by omega)⟩) hP hD hS hA (fun u2 H locs hp9 hP hD hS => ?_)
  have hP : va_P D vwCl (VW dA h ad x) H := hP
  have hD : va_D A (VW dA h ad x) := hD
  refine lv_aload_n hx hb d_V_delete_4 rfl (lv_at hl 0 rfl) ?_
  refine lv_iload_n hx hb d_V_delete_5 rfl (lv_at hl 1 rfl) ?_
  refine jfV (rnV (As := [.int (nI w)]) (rest := []) hx hb hml hown hE hK (hN _ _ hS) hP hD (v_checkSeries l D dA H.size h ad x w (show w < x.nser from by omega) (show x.nser ≤ 256 from by omega)) (q0 := 0) rfl rfl w300 w299 w301 w302 w277 rfl rfl ⟨⟨by decide, by decide⟩, rfl⟩ ⟨(Nat.le_of_ble_eq_true rfl), (Nat.le_of_ble_eq_true rfl)⟩ rfl hl.1 rfl (Nat.le_of_ble_eq_true rfl) d_V_delete_6 ⟨(show 0 + 0 + 0 ≤ 6 * (x.jcap - x.jN) by omega), (show 0 + 0 + 0 ≤ 12 * (x.jcap - x.jN) by omega)⟩) hP hD hS hA (fun u4 H locs hp9 hP hD hS => ?_)
  have hP : va_P D vwCl (VW dA h ad x) H := hP
  have hD : va_D A (VW dA h ad x) := hD
  refine lv_lload_n hx hb d_V_delete_9 rfl (lv_at hl 2 rfl) ?_
  refine lv_lload hx hb d_V_delete_10 (lv_at hl 3 rfl) ?_
  refine W.lcmp hx hb d_V_delete_12 ?_
  refine lv_if_le hx hb d_V_delete_13 (tgt := 24) rfl (fun _ => ?_) (fun h9 => absurd ((lg_cmp_le _ _).mpr hab) h9)
  refine lv_aload_n hx hb d_V_delete_24 rfl (lv_at hl 0 rfl) ?_
  refine gF (v := .ref (ad 3)) hx hb hown hE hK hP 0 rfl rfl layV 11 (by decide) w297 rfl d_V_delete_25 ?_
  refine lv_iload_n hx hb d_V_delete_28 rfl (lv_at hl 1 rfl) ?_
  refine lv_lload_n hx hb d_V_delete_29 rfl (lv_at hl 2 rfl) ?_
  refine lv_lload hx hb d_V_delete_30 (lv_at hl 3 rfl) ?_
  refine jfI (rnV (As := [.int (nI w), .long a, .long b]) (rest := []) hx hb hml hown hE hK (hN _ _ hS) hP hD (v_countSeen l D dA H.size h ad x PS w a b hps (show x.npc ≤ 32 from by omega) (show x.nsc ≤ 64 from by omega) h7 (show w < 256 from by omega)) (q0 := 17) rfl rfl w1336 w1335 w1337 w1338 w583 rfl rfl ⟨⟨by decide, by decide⟩, rfl⟩ ⟨(Nat.le_of_ble_eq_true rfl), (Nat.le_of_ble_eq_true rfl)⟩ rfl hl.1 rfl (Nat.le_of_ble_eq_true rfl) d_V_delete_32 ⟨(show 0 + 0 + 0 + 0 ≤ 6 * (x.jcap - x.jN) by omega), (show 0 + 0 + 0 + 0 ≤ 12 * (x.jcap - x.jN) by omega)⟩) hP hD hS hA (fun r5 u6 H locs hp9 hP hD hS => ?_)
  have hP : va_P D vwCl (VW dA h ad x) H := hP
  have hD : va_D A (VW dA h ad x) := hD
  replace hp9 : nI (sumN x.npc (x.soN PS w a b)) = r5 := Eq.symm hp9
  subst hp9
  refine lv_istore hx hb d_V_delete_35 hl (by decide) rfl (fun ls hl => ?_)
  have hl : lv_has ls 8 [(6, .int (nI (sumN x.npc (x.soN PS w a b)))), (0, .ref h), (1, .int (nI w)), (2, .long a), (4, .long b)] := hl
  refine lv_iload hx hb d_V_delete_37 (lv_at hl 0 rfl) ?_
  refine lv_aload_n hx hb d_V_delete_39 rfl (lv_at hl 1 rfl) ?_
  refine gF (v := .ref (ad 1)) hx hb hown hE hK hP 0 rfl rfl layV 9 (by decide) w576 rfl d_V_delete_40 ?_
  refine lv_iload_n hx hb d_V_delete_43 rfl (lv_at hl 2 rfl) ?_
  refine lv_lload_n hx hb d_V_delete_44 rfl (lv_at hl 3 rfl) ?_
  refine lv_lload hx hb d_V_delete_45 (lv_at hl 4 rfl) ?_
  refine jfI (rnV (As := [.int (nI w), .long a, .long b]) (rest := [.int (nI (sumN x.npc (x.soN PS w a b)))]) hx hb hml hown hE hK (hN _ _ hS) hP hD (v_countWithin l D dA H.size h ad x w a b (show x.hsize ≤ x.hN from by omega) (show x.hN ≤ 65536 from by omega) (show w < 2 ^ 31 from by omega) hh7) (q0 := 9) rfl rfl w1356 w1355 w1357 w1358 w578 rfl rfl ⟨⟨by decide, by decide⟩, rfl⟩ ⟨(Nat.le_of_ble_eq_true rfl), (Nat.le_of_ble_eq_true rfl)⟩ rfl hl.1 rfl (Nat.le_of_ble_eq_true rfl) d_V_delete_47 ⟨(show 0 + 0 + 0 + 0 + 0 ≤ 6 * (x.jcap - x.jN) by omega), (show 0 + 0 + 0 + 0 + 0 ≤ 12 * (x.jcap - x.jN) by omega)⟩) hP hD hS hA (fun r7 u8 H locs hp9 hP hD hS => ?_)
  have hP : va_P D vwCl (VW dA h ad x) H := hP
  have hD : va_D A (VW dA h ad x) := hD
  replace hp9 : nI (cnt x.hsize (x.hW w a b)) = r7 := Eq.symm hp9
  subst hp9
  refine lv_iadd hx hb d_V_delete_50 (tpi (y := nI ((sumN x.npc (x.soN PS w a b)) + (cnt x.hsize (x.hW w a b)))) (nI_add (sumN x.npc (x.soN PS w a b)) (cnt x.hsize (x.hW w a b))) ?_)
  refine lv_istore hx hb d_V_delete_51 hl (by decide) rfl (fun ls hl => ?_)
  have hl : lv_has ls 8 [(7, .int (nI ((sumN x.npc (x.soN PS w a b)) + (cnt x.hsize (x.hW w a b))))), (6, .int (nI (sumN x.npc (x.soN PS w a b)))), (0, .ref h), (1, .int (nI w)), (2, .long a), (4, .long b)] := hl
  have so := so_le (w := w) (a := a) (b := b) hps hpn
  have sw := cnt_le x.hsize (x.hW w a b)
  refine lv_iload hx hb d_V_delete_53 (lv_at hl 0 rfl) ?_
  refine lv_if_ne hx hb d_V_delete_55 (tgt := 60) rfl (fun g9 => ?_) (fun g9 => ?_)
  rotate_left
  · have g9 := (nI_eq (a := (sumN x.npc (x.soN PS w a b)) + (cnt x.hsize (x.hW w a b))) (b := 0) (by omega) (by decide)).mp g9; exfalso; omega
  have g9 := mt (nI_eq (a := (sumN x.npc (x.soN PS w a b)) + (cnt x.hsize (x.hW w a b))) (b := 0) (by omega) (by decide)).mpr g9
  refine lv_iload hx hb d_V_delete_60 (lv_at hl 1 rfl) ?_
  refine lv_if_le hx hb d_V_delete_62 (tgt := 77) rfl (fun g10 => ?_) (fun g10 => ?_)
  · have g10 := (nI_leI (a := sumN x.npc (x.soN PS w a b)) (b := 0) (by omega) (by decide)).mp g10
    refine lv_aload_n hx hb d_V_delete_77 rfl (lv_at hl 2 rfl) ?_
    refine gF (v := .ref (ad 0)) hx hb hown hE hK hP 0 rfl rfl layV 8 (by decide) w312 rfl d_V_delete_78 ?_
    refine lv_iconst (v := 1) hx hb d_V_delete_81 (by decide) ?_
    refine jfI (rnV (As := [.int 1]) (rest := []) hx hb hml hown hE hK (hN _ _ hS) hP hD (v_jhasRoom l D dA H.size h ad x 1 (show x.jfill + 1 < 2 ^ 31 from by omega) (show x.jblock + 1 < 2 ^ 31 from by omega) (show x.jlimit < 2 ^ 31 from by omega)) (q0 := 2) rfl rfl w1163 w1162 w1164 w1165 w556 rfl rfl ⟨⟨by decide, by decide⟩, rfl⟩ ⟨(Nat.le_of_ble_eq_true rfl), (Nat.le_of_ble_eq_true rfl)⟩ rfl hl.1 rfl (Nat.le_of_ble_eq_true rfl) d_V_delete_82 ⟨(show 0 + 0 + 0 + 0 + 0 + 0 ≤ 6 * (x.jcap - x.jN) by omega), (show 0 + 0 + 0 + 0 + 0 + 0 ≤ 12 * (x.jcap - x.jN) by omega)⟩) hP hD hS hA (fun r11 u12 H locs hp9 hP hD hS => ?_)
    have hP : va_P D vwCl (VW dA h ad x) H := hP
    have hD : va_D A (VW dA h ad x) := hD
    replace hp9 : bI (x.room 1) = r11 := Eq.symm hp9
    subst hp9
    refine lv_if_ne hx hb d_V_delete_85 (tgt := 96) rfl (fun _ => ?_) (fun h9 => absurd h9 (by rw [hro]; decide))
    refine lv_aload_n hx hb d_V_delete_96 rfl (lv_at hl 2 rfl) ?_
    refine lv_iconst (v := 2) hx hb d_V_delete_97 (by decide) ?_
    refine lv_iload_n hx hb d_V_delete_98 rfl (lv_at hl 3 rfl) ?_
    refine lv_iconst (v := 1) hx hb d_V_delete_99 (by decide) ?_
    refine lv_lload_n hx hb d_V_delete_100 rfl (lv_at hl 4 rfl) ?_
    refine lv_lload hx hb d_V_delete_101 (lv_at hl 5 rfl) ?_
    refine jfV (rnV (As := [.int 2, .int (nI w), .int 1, .long a, .long b]) (rest := []) hx hb hml hown hE hK (hN _ _ hS) hP hD (v_writeRecord l D dA H.size h ad x 2 w 1 a b (show x.jsize ≤ x.jN from by omega) (show 0 < x.jN from by omega) (show x.jN ≤ 65536 from by omega) (show x.jfill + 1 < 2 ^ 31 from by omega) hcr) (q0 := 0) rfl rfl w1133 w1132 w1134 w1135 w277 rfl rfl ⟨⟨by decide, by decide⟩, rfl⟩ ⟨(Nat.le_of_ble_eq_true rfl), (Nat.le_of_ble_eq_true rfl)⟩ rfl hl.1 rfl (Nat.le_of_ble_eq_true rfl) d_V_delete_103 ⟨(show 0 + 0 + 0 + 0 + 0 + 0 + (6 * (x.jcap - x.jN)) ≤ 6 * (x.jcap - x.jN) by omega), (show 0 + 0 + 0 + 0 + 0 + 0 + (12 * (x.jcap - x.jN)) ≤ 12 * (x.jcap - x.jN) by omega)⟩) hP hD hS hA (fun u14 H locs hp9 hP hD hS => ?_)
    obtain ⟨y15, h9u⟩ : ∃ z9, z9 = u14 := ⟨_, rfl⟩
    subst h9u
    have hP : va_P D vwCl (VW dA h ad y15) H := hP
    have hD : va_D A (VW dA h ad y15) := hD
    have f_e_16 := hp9
    obtain ⟨ja, eja⟩ := f_e_16
    have hjk : y15 = x.jkS y15 := by rw [eja]; exact wrF_jk x ja 2 w 1 a b
    have q_nP : y15.nP = x.nP := (congrArg VS.nP hjk).trans (rfl : (x.jkS y15).nP = x.nP)
    have q_npc : y15.npc = x.npc := (congrArg VS.npc hjk).trans (rfl : (x.jkS y15).npc = x.npc)
    have q_pl : y15.pl = x.pl := (congrArg VS.pl hjk).trans (rfl : (x.jkS y15).pl = x.pl)
    have q_nsc : y15.nsc = x.nsc := (congrArg VS.nsc hjk).trans (rfl : (x.jkS y15).nsc = x.nsc)
    have q_nsO : y15.nsO = x.nsO := (congrArg VS.nsO hjk).trans (rfl : (x.jkS y15).nsO = x.nsO)
    have q_hsize : y15.hsize = x.hsize := (congrArg VS.hsize hjk).trans (rfl : (x.jkS y15).hsize = x.hsize)
    have q_hN : y15.hN = x.hN := (congrArg VS.hN hjk).trans (rfl : (x.jkS y15).hN = x.hN)
    have q_hO : y15.hO = x.hO := (congrArg VS.hO hjk).trans (rfl : (x.jkS y15).hO = x.hO)
    have q_soN : y15.soN = x.soN := (congrArg VS.soN hjk).trans (rfl : (x.jkS y15).soN = x.soN)
    refine lv_aload_n hx hb d_V_delete_106 rfl (lv_at hl 2 rfl) ?_
    refine lv_iload_n hx hb d_V_delete_107 rfl (lv_at hl 3 rfl) ?_
    refine lv_lload_n hx hb d_V_delete_108 rfl (lv_at hl 4 rfl) ?_
    refine lv_lload hx hb d_V_delete_109 (lv_at hl 5 rfl) ?_
    refine jfV (rnV (As := [.int (nI w), .long a, .long b]) (rest := []) hx hb hml hown hE hK (hN _ _ hS) hP hD (v_letGo_0 l D dA H.size h ad y15 PS w a b (by rw [q_nP, q_npc, q_pl]; exact hps) (by rw [q_npc]; exact hpn) (by rw [q_nsc]; exact h1) (by rw [q_nsc, q_nsO]; exact h7) (by rw [q_hsize, q_hN]; exact h0) (by rw [q_hN]; exact h9) (show w < 256 from by omega) (by rw [q_hsize, q_hO]; exact hh7) (by rw [q_npc, q_soN]; exact hs)) (q0 := 0) rfl rfl w1360 w1359 w1361 w1362 w277 rfl rfl ⟨⟨by decide, by decide⟩, rfl⟩ ⟨(Nat.le_of_ble_eq_true rfl), (Nat.le_of_ble_eq_true rfl)⟩ rfl hl.1 rfl (Nat.le_of_ble_eq_true rfl) d_V_delete_111 ⟨(show 0 + 0 + 0 + 0 + 0 + 0 + (6 * (x.jcap - x.jN)) + 0 ≤ 6 * (x.jcap - x.jN) by omega), (show 0 + 0 + 0 + 0 + 0 + 0 + (12 * (x.jcap - x.jN)) + 0 ≤ 12 * (x.jcap - x.jN) by omega)⟩) hP hD hS hA (fun u18 H locs hp9 hP hD hS => ?_)
    have hP : va_P D vwCl (VW dA h ad (VS.s_hsize (VS.s_hV (VS.s_hT (VS.s_hO y15 (tdT (y15.hWn w a b) y15.hO y15.hsize)) (tdT (y15.hWn w a b) y15.hT y15.hsize)) (tdT (y15.hWn w a b) y15.hV y15.hsize)) (cnt y15.hsize (y15.hWn w a b)))) H := hP
    have hD : va_D A (VW dA h ad (VS.s_hsize (VS.s_hV (VS.s_hT (VS.s_hO y15 (tdT (y15.hWn w a b) y15.hO y15.hsize)) (tdT (y15.hWn w a b) y15.hT y15.hsize)) (tdT (y15.hWn w a b) y15.hV y15.hsize)) (cnt y15.hsize (y15.hWn w a b)))) := hD
    refine lv_iload hx hb d_V_delete_114 (lv_at hl 0 rfl) ?_
    exact rfI hx hb hr hlk hS (VS.s_hsize (VS.s_hV (VS.s_hT (VS.s_hO y15 (tdT (y15.hWn w a b) y15.hO y15.hsize)) (tdT (y15.hWn w a b) y15.hT y15.hsize)) (tdT (y15.hWn w a b) y15.hV y15.hsize)) (cnt y15.hsize (y15.hWn w a b))) ⟨rfl, ja, by rw [← eja]; rfl⟩ hP hD (show 0 + 0 + 0 + 0 + 0 + 0 + (6 * (x.jcap - x.jN)) + 0 ≤ 6 * (x.jcap - x.jN) by omega) (show 0 + 0 + 0 + 0 + 0 + 0 + (12 * (x.jcap - x.jN)) + 0 ≤ 12 * (x.jcap - x.jN) by omega) d_V_delete_116
  · have g10 := mt (nI_leI (a := sumN x.npc (x.soN PS w a b)) (b := 0) (by omega) (by decide)).mpr g10
    refine lv_aload_n hx hb d_V_delete_65 rfl (lv_at hl 2 rfl) ?_
    refine gF (v := .ref (ad 3)) hx hb hown hE hK hP 0 rfl rfl layV 11 (by decide) w297 rfl d_V_delete_66 ?_
    refine gFN (v := .int (nI x.nsc)) hx hb hown hE hK hP 17 rfl rfl layH 6 (by decide) w642 rfl d_V_delete_69 ?_
    refine lv_bipush (v := 64) hx hb d_V_delete_72 (by decide) ?_
    refine lv_icmp_ge hx hb d_V_delete_74 (tgt := 88) rfl (fun g19 => ?_) (fun g19 => ?_)
    · have g19 := (nI_leI (a := 64) (b := x.nsc) (by omega) (by omega)).mp g19; exfalso; omega
    have g19 := mt (nI_leI (a := 64) (b := x.nsc) (by omega) (by omega)).mpr g19
    refine lv_aload_n hx hb d_V_delete_77 rfl (lv_at hl 2 rfl) ?_
    refine gF (v := .ref (ad 0)) hx hb hown hE hK hP 0 rfl rfl layV 8 (by decide) w312 rfl d_V_delete_78 ?_
    refine lv_iconst (v := 1) hx hb d_V_delete_81 (by decide) ?_
    refine jfI (rnV (As := [.int 1]) (rest := []) hx hb hml hown hE hK (hN _ _ hS) hP hD (v_jhasRoom l D dA H.size h ad x 1 (show x.jfill + 1 < 2 ^ 31 from by omega) (show x.jblock + 1 < 2 ^ 31 from by omega) (show x.jlimit < 2 ^ 31 from by omega)) (q0 := 2) rfl rfl w1163 w1162 w1164 w1165 w556 rfl rfl ⟨⟨by decide, by decide⟩, rfl⟩ ⟨(Nat.le_of_ble_eq_true rfl), (Nat.le_of_ble_eq_true rfl)⟩ rfl hl.1 rfl (Nat.le_of_ble_eq_true rfl) d_V_delete_82 ⟨(show 0 + 0 + 0 + 0 + 0 + 0 ≤ 6 * (x.jcap - x.jN) by omega), (show 0 + 0 + 0 + 0 + 0 + 0 ≤ 12 * (x.jcap - x.jN) by omega)⟩) hP hD hS hA (fun r20 u21 H locs hp9 hP hD hS => ?_)
    have hP : va_P D vwCl (VW dA h ad x) H := hP
    have hD : va_D A (VW dA h ad x) := hD
    replace hp9 : bI (x.room 1) = r20 := Eq.symm hp9
    subst hp9
    refine lv_if_ne hx hb d_V_delete_85 (tgt := 96) rfl (fun _ => ?_) (fun h9 => absurd h9 (by rw [hro]; decide))
    refine lv_aload_n hx hb d_V_delete_96 rfl (lv_at hl 2 rfl) ?_
    refine lv_iconst (v := 2) hx hb d_V_delete_97 (by decide) ?_
    refine lv_iload_n hx hb d_V_delete_98 rfl (lv_at hl 3 rfl) ?_
    refine lv_iconst (v := 1) hx hb d_V_delete_99 (by decide) ?_
    refine lv_lload_n hx hb d_V_delete_100 rfl (lv_at hl 4 rfl) ?_
    refine lv_lload hx hb d_V_delete_101 (lv_at hl 5 rfl) ?_
    refine jfV (rnV (As := [.int 2, .int (nI w), .int 1, .long a, .long b]) (rest := []) hx hb hml hown hE hK (hN _ _ hS) hP hD (v_writeRecord l D dA H.size h ad x 2 w 1 a b (show x.jsize ≤ x.jN from by omega) (show 0 < x.jN from by omega) (show x.jN ≤ 65536 from by omega) (show x.jfill + 1 < 2 ^ 31 from by omega) hcr) (q0 := 0) rfl rfl w1133 w1132 w1134 w1135 w277 rfl rfl ⟨⟨by decide, by decide⟩, rfl⟩ ⟨(Nat.le_of_ble_eq_true rfl), (Nat.le_of_ble_eq_true rfl)⟩ rfl hl.1 rfl (Nat.le_of_ble_eq_true rfl) d_V_delete_103 ⟨(show 0 + 0 + 0 + 0 + 0 + 0 + (6 * (x.jcap - x.jN)) ≤ 6 * (x.jcap - x.jN) by omega), (show 0 + 0 + 0 + 0 + 0 + 0 + (12 * (x.jcap - x.jN)) ≤ 12 * (x.jcap - x.jN) by omega)⟩) hP hD hS hA (fun u23 H locs hp9 hP hD hS => ?_)
    obtain ⟨y24, h9u⟩ : ∃ z9, z9 = u23 := ⟨_, rfl⟩
    subst h9u
    have hP : va_P D vwCl (VW dA h ad y24) H := hP
    have hD : va_D A (VW dA h ad y24) := hD
    have f_e_25 := hp9
    obtain ⟨ja, eja⟩ := f_e_25
    have hjk : y24 = x.jkS y24 := by rw [eja]; exact wrF_jk x ja 2 w 1 a b
    have q_nP : y24.nP = x.nP := (congrArg VS.nP hjk).trans (rfl : (x.jkS y24).nP = x.nP)
    have q_npc : y24.npc = x.npc := (congrArg VS.npc hjk).trans (rfl : (x.jkS y24).npc = x.npc)
    have q_pl : y24.pl = x.pl := (congrArg VS.pl hjk).trans (rfl : (x.jkS y24).pl = x.pl)
    have q_nsc : y24.nsc = x.nsc := (congrArg VS.nsc hjk).trans (rfl : (x.jkS y24).nsc = x.nsc)
    have q_nsO : y24.nsO = x.nsO := (congrArg VS.nsO hjk).trans (rfl : (x.jkS y24).nsO = x.nsO)
    have q_hsize : y24.hsize = x.hsize := (congrArg VS.hsize hjk).trans (rfl : (x.jkS y24).hsize = x.hsize)
    have q_hN : y24.hN = x.hN := (congrArg VS.hN hjk).trans (rfl : (x.jkS y24).hN = x.hN)
    have q_hO : y24.hO = x.hO := (congrArg VS.hO hjk).trans (rfl : (x.jkS y24).hO = x.hO)
    have q_soN : y24.soN = x.soN := (congrArg VS.soN hjk).trans (rfl : (x.jkS y24).soN = x.soN)
    refine lv_aload_n hx hb d_V_delete_106 rfl (lv_at hl 2 rfl) ?_
    refine lv_iload_n hx hb d_V_delete_107 rfl (lv_at hl 3 rfl) ?_
    refine lv_lload_n hx hb d_V_delete_108 rfl (lv_at hl 4 rfl) ?_
    refine lv_lload hx hb d_V_delete_109 (lv_at hl 5 rfl) ?_
    refine jfV (rnV (As := [.int (nI w), .long a, .long b]) (rest := []) hx hb hml hown hE hK (hN _ _ hS) hP hD (v_letGo_0 l D dA H.size h ad y24 PS w a b (by rw [q_nP, q_npc, q_pl]; exact hps) (by rw [q_npc]; exact hpn) (by rw [q_nsc]; exact h1) (by rw [q_nsc, q_nsO]; exact h7) (by rw [q_hsize, q_hN]; exact h0) (by rw [q_hN]; exact h9) (show w < 256 from by omega) (by rw [q_hsize, q_hO]; exact hh7) (by rw [q_npc, q_soN]; exact hs)) (q0 := 0) rfl rfl w1360 w1359 w1361 w1362 w277 rfl rfl ⟨⟨by decide, by decide⟩, rfl⟩ ⟨(Nat.le_of_ble_eq_true rfl), (Nat.le_of_ble_eq_true rfl)⟩ rfl hl.1 rfl (Nat.le_of_ble_eq_true rfl) d_V_delete_111 ⟨(show 0 + 0 + 0 + 0 + 0 + 0 + (6 * (x.jcap - x.jN)) + 0 ≤ 6 * (x.jcap - x.jN) by omega), (show 0 + 0 + 0 + 0 + 0 + 0 + (12 * (x.jcap - x.jN)) + 0 ≤ 12 * (x.jcap - x.jN) by omega)⟩) hP hD hS hA (fun u27 H locs hp9 hP hD hS => ?_)
    have hP : va_P D vwCl (VW dA h ad (VS.s_hsize (VS.s_hV (VS.s_hT (VS.s_hO y24 (tdT (y24.hWn w a b) y24.hO y24.hsize)) (tdT (y24.hWn w a b) y24.hT y24.hsize)) (tdT (y24.hWn w a b) y24.hV y24.hsize)) (cnt y24.hsize (y24.hWn w a b)))) H := hP
    have hD : va_D A (VW dA h ad (VS.s_hsize (VS.s_hV (VS.s_hT (VS.s_hO y24 (tdT (y24.hWn w a b) y24.hO y24.hsize)) (tdT (y24.hWn w a b) y24.hT y24.hsize)) (tdT (y24.hWn w a b) y24.hV y24.hsize)) (cnt y24.hsize (y24.hWn w a b)))) := hD
    refine lv_iload hx hb d_V_delete_114 (lv_at hl 0 rfl) ?_
    exact rfI hx hb hr hlk hS (VS.s_hsize (VS.s_hV (VS.s_hT (VS.s_hO y24 (tdT (y24.hWn w a b) y24.hO y24.hsize)) (tdT (y24.hWn w a b) y24.hT y24.hsize)) (tdT (y24.hWn w a b) y24.hV y24.hsize)) (cnt y24.hsize (y24.hWn w a b))) ⟨rfl, ja, by rw [← eja]; rfl⟩ hP hD (show 0 + 0 + 0 + 0 + 0 + 0 + (6 * (x.jcap - x.jN)) + 0 ≤ 6 * (x.jcap - x.jN) by omega) (show 0 + 0 + 0 + 0 + 0 + 0 + (12 * (x.jcap - x.jN)) + 0 ≤ 12 * (x.jcap - x.jN) by omega) d_V_delete_116
set_option maxHeartbeats 4000000 in
set_option maxRecDepth 100000 in
theorem v_delete_61 (l : Launch) (D : va_G) (dA : Nat → ClassId) (sz : Nat) (h : Nat) (ad : Nat → Nat) (x : VS) (PS : Nat → PT) (w : Nat) (a : Int64) (b : Int64) (ho : x.powered = true) (hw1 : w < x.nser) (hw2 : x.nser ≤ 256) (hab : a ≤ b) (hps : psOk dA x.nP x.npc x.pl PS) (hpn : x.npc ≤ 32) (h1 : x.nsc ≤ 64) (h7 : ∀ q : Nat, q < x.nsc → x.nsO q < 2 ^ 31) (h0 : x.hsize ≤ x.hN) (h9 : x.hN ≤ 65536) (hh7 : ∀ q : Nat, q < x.hsize → x.hO q < 2 ^ 31) (hbu : x.jblock + 1 < 2 ^ 31) (hlu : x.jlimit < 2 ^ 31) (hfl : x.jfill ≤ 126) (hs1 : x.jsize ≤ x.jN) (hs2 : 0 < x.jN) (hs3 : x.jN ≤ 65536) (hz : 0 < sumN x.npc (x.soN PS w a b) + cnt x.hsize (x.hW w a b)) (hs : 0 < sumN x.npc (x.soN PS w a b)) (hs2 : x.nsc < 64) (hro : x.room 1 = true) (hcr : x.jfill + 1 ≤ 126 ∨ x.jch = false ∨ ¬ x.cutLeft = 0) : Met l ⟨"SeriesVault", "delete", "(IJJ)I"⟩ [Cond.code ⟨"SeriesVault", "delete", "(IJJ)I"⟩ prog_1_method_34_code 8 (some FieldType.int)] { frames := 6, cells := 6 * (x.jcap - x.jN), slots := 12 * (x.jcap - x.jN), locals := 136 } (pC D dA [.ref h, .int (nI w), .long a, .long b] (VW dA h ad x) sz) (va_Qi (fun (r9 : Int32) (u9 : VS) => r9 = nI (sumN x.npc (x.soN PS w a b) + cnt x.hsize (x.hW w a b)) ∧ ∃ ja : Nat → Nat, u9 = (x.wrF ja 2 w 1 a b).lg1 w a b) (fun (u9 : VS) t9 => bW D (va_A (VW dA h ad x) sz) (VW dA h ad u9) t9) (va_A (VW dA h ad x) sz)) (6 * (x.jcap - x.jN)) (12 * (x.jcap - x.jN)) (va_A (VW dA h ad x) sz) := by
  refine mkC (y := ⟨"SeriesVault", "delete", "(IJJ)I"⟩) (cc := prog_1_method_34_code) (maxL := 8) (av := [.ref h, .int (nI w), .long a, .long b]) (ws := VW dA h ad x) (sz := sz) (Qc := fun A => va_Qi (fun (r9 : Int32) (u9 : VS) => r9 = nI (sumN x.npc (x.soN PS w a b) + cnt x.hsize (x.hW w a b)) ∧ ∃ ja : Nat → Nat, u9 = (x.wrF ja 2 w 1 a b).lg1 w a b) (fun (u9 : VS) t9 => bW D A (VW dA h ad u9) t9) A) (by decide) (Nat.le_of_ble_eq_true rfl) ?_
  intro A p e s m below meth c ls hsz hB
  obtain ⟨hx, hb, hr, hml, hown, hin, hlk, hE, hK, hP, hD, hS, hA, hN, hl⟩ := hB
  have hown : s.vm.findClass "SeriesVault" = some m.cls := hown
  have hl : lv_has ls 8 [(0, .ref h), (1, .int (nI w)), (2, .long a), (4, .long b)] := hl
  obtain ⟨H, hH⟩ : ∃ z, z = s.heap := ⟨_, rfl⟩
  have hP : va_P D vwCl (VW dA h ad x) H := by rw [hH]; exact hP
  have hS : va_S A s.heap H [] := by rw [hH]; exact hS
  rw [← hH]
  refine lv_aload_n hx hb d_V_delete_0 rfl (lv_at hl 0 rfl) ?_
  refine jfV (rnV (As := []) (rest := []) hx hb hml hown hE hK (hN _ _ hS) hP hD (v_checkPower l D dA H.size h ad x ho) (q0 := 0) rfl rfl w278 w276 w279 w280 w277 rfl rfl ⟨⟨by decide, by decide⟩, rfl⟩ ⟨(Nat.le_of_ble_eq_true rfl), (Nat.le_of_ble_eq_true rfl)⟩ rfl hl.1 rfl (Nat.le_of_ble_eq_true rfl) d_V_delete_1 ⟨(show 0 + 0 ≤ 6 * (x.jcap - x.jN) by omega), (show 0 + 0 ≤ 12 * (x.jcap - x.jN) by omega)⟩) hP hD hS hA (fun u2 H locs hp9 hP hD hS => ?_)
  have hP : va_P D vwCl (VW dA h ad x) H := hP
  have hD : va_D A (VW dA h ad x) := hD
  refine lv_aload_n hx hb d_V_delete_4 rfl (lv_at hl 0 rfl) ?_
  refine lv_iload_n hx hb d_V_delete_5 rfl (lv_at hl 1 rfl) ?_
  refine jfV (rnV (As := [.int (nI w)]) (rest := []) hx hb hml hown hE hK (hN _ _ hS) hP hD (v_checkSeries l D dA H.size h ad x w (show w < x.nser from by omega) (show x.nser ≤ 256 from by omega)) (q0 := 0) rfl rfl w300 w299 w301 w302 w277 rfl rfl ⟨⟨by decide, by decide⟩, rfl⟩ ⟨(Nat.le_of_ble_eq_true rfl), (Nat.le_of_ble_eq_true rfl)⟩ rfl hl.1 rfl (Nat.le_of_ble_eq_true rfl) d_V_delete_6 ⟨(show 0 + 0 + 0 ≤ 6 * (x.jcap - x.jN) by omega), (show 0 + 0 + 0 ≤ 12 * (x.jcap - x.jN) by omega)⟩) hP hD hS hA (fun u4 H locs hp9 hP hD hS => ?_)
  have hP : va_P D vwCl (VW dA h ad x) H := hP
  have hD : va_D A (VW dA h ad x) := hD
  refine lv_lload_n hx hb d_V_delete_9 rfl (lv_at hl 2 rfl) ?_
  refine lv_lload hx hb d_V_delete_10 (lv_at hl 3 rfl) ?_
  refine W.lcmp hx hb d_V_delete_12 ?_
  refine lv_if_le hx hb d_V_delete_13 (tgt := 24) rfl (fun _ => ?_) (fun h9 => absurd ((lg_cmp_le _ _).mpr hab) h9)
  refine lv_aload_n hx hb d_V_delete_24 rfl (lv_at hl 0 rfl) ?_
  refine gF (v := .ref (ad 3)) hx hb hown hE hK hP 0 rfl rfl layV 11 (by decide) w297 rfl d_V_delete_25 ?_
  refine lv_iload_n hx hb d_V_delete_28 rfl (lv_at hl 1 rfl) ?_
  refine lv_lload_n hx hb d_V_delete_29 rfl (lv_at hl 2 rfl) ?_
  refine lv_lload hx hb d_V_delete_30 (lv_at hl 3 rfl) ?_
  refine jfI (rnV (As := [.int (nI w), .long a, .long b]) (rest := []) hx hb hml hown hE hK (hN _ _ hS) hP hD (v_countSeen l D dA H.size h ad x PS w a b hps (show x.npc ≤ 32 from by omega) (show x.nsc ≤ 64 from by omega) h7 (show w < 256 from by omega)) (q0 := 17) rfl rfl w1336 w1335 w1337 w1338 w583 rfl rfl ⟨⟨by decide, by decide⟩, rfl⟩ ⟨(Nat.le_of_ble_eq_true rfl), (Nat.le_of_ble_eq_true rfl)⟩ rfl hl.1 rfl (Nat.le_of_ble_eq_true rfl) d_V_delete_32 ⟨(show 0 + 0 + 0 + 0 ≤ 6 * (x.jcap - x.jN) by omega), (show 0 + 0 + 0 + 0 ≤ 12 * (x.jcap - x.jN) by omega)⟩) hP hD hS hA (fun r5 u6 H locs hp9 hP hD hS => ?_)
  have hP : va_P D vwCl (VW dA h ad x) H := hP
  have hD : va_D A (VW dA h ad x) := hD
  replace hp9 : nI (sumN x.npc (x.soN PS w a b)) = r5 := Eq.symm hp9
  subst hp9
  refine lv_istore hx hb d_V_delete_35 hl (by decide) rfl (fun ls hl => ?_)
  have hl : lv_has ls 8 [(6, .int (nI (sumN x.npc (x.soN PS w a b)))), (0, .ref h), (1, .int (nI w)), (2, .long a), (4, .long b)] := hl
  refine lv_iload hx hb d_V_delete_37 (lv_at hl 0 rfl) ?_
  refine lv_aload_n hx hb d_V_delete_39 rfl (lv_at hl 1 rfl) ?_
  refine gF (v := .ref (ad 1)) hx hb hown hE hK hP 0 rfl rfl layV 9 (by decide) w576 rfl d_V_delete_40 ?_
  refine lv_iload_n hx hb d_V_delete_43 rfl (lv_at hl 2 rfl) ?_
  refine lv_lload_n hx hb d_V_delete_44 rfl (lv_at hl 3 rfl) ?_
  refine lv_lload hx hb d_V_delete_45 (lv_at hl 4 rfl) ?_
  refine jfI (rnV (As := [.int (nI w), .long a, .long b]) (rest := [.int (nI (sumN x.npc (x.soN PS w a b)))]) hx hb hml hown hE hK (hN _ _ hS) hP hD (v_countWithin l D dA H.size h ad x w a b (show x.hsize ≤ x.hN from by omega) (show x.hN ≤ 65536 from by omega) (show w < 2 ^ 31 from by omega) hh7) (q0 := 9) rfl rfl w1356 w1355 w1357 w1358 w578 rfl rfl ⟨⟨by decide, by decide⟩, rfl⟩ ⟨(Nat.le_of_ble_eq_true rfl), (Nat.le_of_ble_eq_true rfl)⟩ rfl hl.1 rfl (Nat.le_of_ble_eq_true rfl) d_V_delete_47 ⟨(show 0 + 0 + 0 + 0 + 0 ≤ 6 * (x.jcap - x.jN) by omega), (show 0 + 0 + 0 + 0 + 0 ≤ 12 * (x.jcap - x.jN) by omega)⟩) hP hD hS hA (fun r7 u8 H locs hp9 hP hD hS => ?_)
  have hP : va_P D vwCl (VW dA h ad x) H := hP
  have hD : va_D A (VW dA h ad x) := hD
  replace hp9 : nI (cnt x.hsize (x.hW w a b)) = r7 := Eq.symm hp9
  subst hp9
  refine lv_iadd hx hb d_V_delete_50 (tpi (y := nI ((sumN x.npc (x.soN PS w a b)) + (cnt x.hsize (x.hW w a b)))) (nI_add (sumN x.npc (x.soN PS w a b)) (cnt x.hsize (x.hW w a b))) ?_)
  refine lv_istore hx hb d_V_delete_51 hl (by decide) rfl (fun ls hl => ?_)
  have hl : lv_has ls 8 [(7, .int (nI ((sumN x.npc (x.soN PS w a b)) + (cnt x.hsize (x.hW w a b))))), (6, .int (nI (sumN x.npc (x.soN PS w a b)))), (0, .ref h), (1, .int (nI w)), (2, .long a), (4, .long b)] := hl
  have so := so_le (w := w) (a := a) (b := b) hps hpn
  have sw := cnt_le x.hsize (x.hW w a b)
  refine lv_iload hx hb d_V_delete_53 (lv_at hl 0 rfl) ?_
  refine lv_if_ne hx hb d_V_delete_55 (tgt := 60) rfl (fun g9 => ?_) (fun g9 => ?_)
  rotate_left
  · have g9 := (nI_eq (a := (sumN x.npc (x.soN PS w a b)) + (cnt x.hsize (x.hW w a b))) (b := 0) (by omega) (by decide)).mp g9; exfalso; omega
  have g9 := mt (nI_eq (a := (sumN x.npc (x.soN PS w a b)) + (cnt x.hsize (x.hW w a b))) (b := 0) (by omega) (by decide)).mpr g9
  refine lv_iload hx hb d_V_delete_60 (lv_at hl 1 rfl) ?_
  refine lv_if_le hx hb d_V_delete_62 (tgt := 77) rfl (fun h9 => absurd h9 (mt (nI_leI (a := sumN x.npc (x.soN PS w a b)) (b := 0) (by omega) (by omega)).mp (Nat.not_le.mpr hs))) (fun _ => ?_)
  refine lv_aload_n hx hb d_V_delete_65 rfl (lv_at hl 2 rfl) ?_
  refine gF (v := .ref (ad 3)) hx hb hown hE hK hP 0 rfl rfl layV 11 (by decide) w297 rfl d_V_delete_66 ?_
  refine gFN (v := .int (nI x.nsc)) hx hb hown hE hK hP 17 rfl rfl layH 6 (by decide) w642 rfl d_V_delete_69 ?_
  refine lv_bipush (v := 64) hx hb d_V_delete_72 (by decide) ?_
  refine lv_icmp_ge hx hb d_V_delete_74 (tgt := 88) rfl (fun h9 => absurd h9 (mt (nI_leI (a := 64) (b := x.nsc) (by omega) (by omega)).mp (Nat.not_le.mpr hs2))) (fun _ => ?_)
  refine lv_aload_n hx hb d_V_delete_77 rfl (lv_at hl 2 rfl) ?_
  refine gF (v := .ref (ad 0)) hx hb hown hE hK hP 0 rfl rfl layV 8 (by decide) w312 rfl d_V_delete_78 ?_
  refine lv_iconst (v := 1) hx hb d_V_delete_81 (by decide) ?_
  refine jfI (rnV (As := [.int 1]) (rest := []) hx hb hml hown hE hK (hN _ _ hS) hP hD (v_jhasRoom l D dA H.size h ad x 1 (show x.jfill + 1 < 2 ^ 31 from by omega) (show x.jblock + 1 < 2 ^ 31 from by omega) (show x.jlimit < 2 ^ 31 from by omega)) (q0 := 2) rfl rfl w1163 w1162 w1164 w1165 w556 rfl rfl ⟨⟨by decide, by decide⟩, rfl⟩ ⟨(Nat.le_of_ble_eq_true rfl), (Nat.le_of_ble_eq_true rfl)⟩ rfl hl.1 rfl (Nat.le_of_ble_eq_true rfl) d_V_delete_82 ⟨(show 0 + 0 + 0 + 0 + 0 + 0 ≤ 6 * (x.jcap - x.jN) by omega), (show 0 + 0 + 0 + 0 + 0 + 0 ≤ 12 * (x.jcap - x.jN) by omega)⟩) hP hD hS hA (fun r10 u11 H locs hp9 hP hD hS => ?_)
  have hP : va_P D vwCl (VW dA h ad x) H := hP
  have hD : va_D A (VW dA h ad x) := hD
  replace hp9 : bI (x.room 1) = r10 := Eq.symm hp9
  subst hp9
  refine lv_if_ne hx hb d_V_delete_85 (tgt := 96) rfl (fun _ => ?_) (fun h9 => absurd h9 (by rw [hro]; decide))
  refine lv_aload_n hx hb d_V_delete_96 rfl (lv_at hl 2 rfl) ?_
  refine lv_iconst (v := 2) hx hb d_V_delete_97 (by decide) ?_
  refine lv_iload_n hx hb d_V_delete_98 rfl (lv_at hl 3 rfl) ?_
  refine lv_iconst (v := 1) hx hb d_V_delete_99 (by decide) ?_
  refine lv_lload_n hx hb d_V_delete_100 rfl (lv_at hl 4 rfl) ?_
  refine lv_lload hx hb d_V_delete_101 (lv_at hl 5 rfl) ?_
  refine jfV (rnV (As := [.int 2, .int (nI w), .int 1, .long a, .long b]) (rest := []) hx hb hml hown hE hK (hN _ _ hS) hP hD (v_writeRecord l D dA H.size h ad x 2 w 1 a b (show x.jsize ≤ x.jN from by omega) (show 0 < x.jN from by omega) (show x.jN ≤ 65536 from by omega) (show x.jfill + 1 < 2 ^ 31 from by omega) hcr) (q0 := 0) rfl rfl w1133 w1132 w1134 w1135 w277 rfl rfl ⟨⟨by decide, by decide⟩, rfl⟩ ⟨(Nat.le_of_ble_eq_true rfl), (Nat.le_of_ble_eq_true rfl)⟩ rfl hl.1 rfl (Nat.le_of_ble_eq_true rfl) d_V_delete_103 ⟨(show 0 + 0 + 0 + 0 + 0 + 0 + (6 * (x.jcap - x.jN)) ≤ 6 * (x.jcap - x.jN) by omega), (show 0 + 0 + 0 + 0 + 0 + 0 + (12 * (x.jcap - x.jN)) ≤ 12 * (x.jcap - x.jN) by omega)⟩) hP hD hS hA (fun u13 H locs hp9 hP hD hS => ?_)
  obtain ⟨y14, h9u⟩ : ∃ z9, z9 = u13 := ⟨_, rfl⟩
  subst h9u
  have hP : va_P D vwCl (VW dA h ad y14) H := hP
  have hD : va_D A (VW dA h ad y14) := hD
  have f_e_15 := hp9
  obtain ⟨ja, eja⟩ := f_e_15
  have hjk : y14 = x.jkS y14 := by rw [eja]; exact wrF_jk x ja 2 w 1 a b
  have q_nP : y14.nP = x.nP := (congrArg VS.nP hjk).trans (rfl : (x.jkS y14).nP = x.nP)
  have q_npc : y14.npc = x.npc := (congrArg VS.npc hjk).trans (rfl : (x.jkS y14).npc = x.npc)
  have q_pl : y14.pl = x.pl := (congrArg VS.pl hjk).trans (rfl : (x.jkS y14).pl = x.pl)
  have q_nsc : y14.nsc = x.nsc := (congrArg VS.nsc hjk).trans (rfl : (x.jkS y14).nsc = x.nsc)
  have q_nsO : y14.nsO = x.nsO := (congrArg VS.nsO hjk).trans (rfl : (x.jkS y14).nsO = x.nsO)
  have q_hsize : y14.hsize = x.hsize := (congrArg VS.hsize hjk).trans (rfl : (x.jkS y14).hsize = x.hsize)
  have q_hN : y14.hN = x.hN := (congrArg VS.hN hjk).trans (rfl : (x.jkS y14).hN = x.hN)
  have q_hO : y14.hO = x.hO := (congrArg VS.hO hjk).trans (rfl : (x.jkS y14).hO = x.hO)
  have q_soN : y14.soN = x.soN := (congrArg VS.soN hjk).trans (rfl : (x.jkS y14).soN = x.soN)
  refine lv_aload_n hx hb d_V_delete_106 rfl (lv_at hl 2 rfl) ?_
  refine lv_iload_n hx hb d_V_delete_107 rfl (lv_at hl 3 rfl) ?_
  refine lv_lload_n hx hb d_V_delete_108 rfl (lv_at hl 4 rfl) ?_
  refine lv_lload hx hb d_V_delete_109 (lv_at hl 5 rfl) ?_
  refine jfV (rnV (As := [.int (nI w), .long a, .long b]) (rest := []) hx hb hml hown hE hK (hN _ _ hS) hP hD (v_letGo_1 l D dA H.size h ad y14 PS w a b (by rw [q_nP, q_npc, q_pl]; exact hps) (by rw [q_npc]; exact hpn) (by rw [q_nsc]; exact h1) (by rw [q_nsc, q_nsO]; exact h7) (by rw [q_hsize, q_hN]; exact h0) (by rw [q_hN]; exact h9) (show w < 256 from by omega) (by rw [q_hsize, q_hO]; exact hh7) (by rw [q_npc, q_soN]; exact hs) (by rw [q_nsc]; exact hs2)) (q0 := 0) rfl rfl w1360 w1359 w1361 w1362 w277 rfl rfl ⟨⟨by decide, by decide⟩, rfl⟩ ⟨(Nat.le_of_ble_eq_true rfl), (Nat.le_of_ble_eq_true rfl)⟩ rfl hl.1 rfl (Nat.le_of_ble_eq_true rfl) d_V_delete_111 ⟨(show 0 + 0 + 0 + 0 + 0 + 0 + (6 * (x.jcap - x.jN)) + 0 ≤ 6 * (x.jcap - x.jN) by omega), (show 0 + 0 + 0 + 0 + 0 + 0 + (12 * (x.jcap - x.jN)) + 0 ≤ 12 * (x.jcap - x.jN) by omega)⟩) hP hD hS hA (fun u17 H locs hp9 hP hD hS => ?_)
  have hP : va_P D vwCl (VW dA h ad (VS.s_nsc (VS.s_nsT (VS.s_nsF (VS.s_nsO (VS.s_hsize (VS.s_hV (VS.s_hT (VS.s_hO y14 (tdT (y14.hWn w a b) y14.hO y14.hsize)) (tdT (y14.hWn w a b) y14.hT y14.hsize)) (tdT (y14.hWn w a b) y14.hV y14.hsize)) (cnt y14.hsize (y14.hWn w a b))) (va_up y14.nsO y14.nsc w)) (va_up y14.nsF y14.nsc (maxL a y14.nhor))) (va_up y14.nsT y14.nsc (minL b (y14.nlast w)))) (y14.nsc + 1))) H := hP
  have hD : va_D A (VW dA h ad (VS.s_nsc (VS.s_nsT (VS.s_nsF (VS.s_nsO (VS.s_hsize (VS.s_hV (VS.s_hT (VS.s_hO y14 (tdT (y14.hWn w a b) y14.hO y14.hsize)) (tdT (y14.hWn w a b) y14.hT y14.hsize)) (tdT (y14.hWn w a b) y14.hV y14.hsize)) (cnt y14.hsize (y14.hWn w a b))) (va_up y14.nsO y14.nsc w)) (va_up y14.nsF y14.nsc (maxL a y14.nhor))) (va_up y14.nsT y14.nsc (minL b (y14.nlast w)))) (y14.nsc + 1))) := hD
  refine lv_iload hx hb d_V_delete_114 (lv_at hl 0 rfl) ?_
  exact rfI hx hb hr hlk hS (VS.s_nsc (VS.s_nsT (VS.s_nsF (VS.s_nsO (VS.s_hsize (VS.s_hV (VS.s_hT (VS.s_hO y14 (tdT (y14.hWn w a b) y14.hO y14.hsize)) (tdT (y14.hWn w a b) y14.hT y14.hsize)) (tdT (y14.hWn w a b) y14.hV y14.hsize)) (cnt y14.hsize (y14.hWn w a b))) (va_up y14.nsO y14.nsc w)) (va_up y14.nsF y14.nsc (maxL a y14.nhor))) (va_up y14.nsT y14.nsc (minL b (y14.nlast w)))) (y14.nsc + 1)) ⟨rfl, ja, by rw [← eja]; rfl⟩ hP hD (show 0 + 0 + 0 + 0 + 0 + 0 + (6 * (x.jcap - x.jN)) + 0 ≤ 6 * (x.jcap - x.jN) by omega) (show 0 + 0 + 0 + 0 + 0 + 0 + (12 * (x.jcap - x.jN)) + 0 ≤ 12 * (x.jcap - x.jN) by omega) d_V_delete_116
end
section
def VS.adS (x : VS) : VS := VS.s_nlast (VS.s_nser x (x.nser + 1)) (va_up x.nlast x.nser (-1))
theorem d_V_doAgain_0 : decode prog_1_method_19_code 0 = .ok (.aload_n 0, 1) := by decide +kernel
theorem d_V_doAgain_1 : decode prog_1_method_19_code 1 = .ok (.getfield 16, 3) := by decide +kernel
theorem d_V_doAgain_4 : decode prog_1_method_19_code 4 = .ok (.getfield 159, 3) := by decide +kernel
theorem d_V_doAgain_7 : decode prog_1_method_19_code 7 = .ok (.iload_n 1, 1) := by decide +kernel
theorem d_V_doAgain_8 : decode prog_1_method_19_code 8 = .ok (.iaload, 1) := by decide +kernel
theorem d_V_doAgain_9 : decode prog_1_method_19_code 9 = .ok (.istore_n 2, 1) := by decide +kernel
theorem d_V_doAgain_10 : decode prog_1_method_19_code 10 = .ok (.aload_n 0, 1) := by decide +kernel
theorem d_V_doAgain_11 : decode prog_1_method_19_code 11 = .ok (.getfield 16, 3) := by decide +kernel
theorem d_V_doAgain_14 : decode prog_1_method_19_code 14 = .ok (.getfield 163, 3) := by decide +kernel
theorem d_V_doAgain_17 : decode prog_1_method_19_code 17 = .ok (.iload_n 1, 1) := by decide +kernel
theorem d_V_doAgain_18 : decode prog_1_method_19_code 18 = .ok (.iaload, 1) := by decide +kernel
theorem d_V_doAgain_19 : decode prog_1_method_19_code 19 = .ok (.lookupswitch 61 #[(0, 25), (1, 35)], 25) := by decide +kernel
theorem d_V_doAgain_44 : decode prog_1_method_19_code 44 = .ok (.aload_n 0, 1) := by decide +kernel
theorem d_V_doAgain_45 : decode prog_1_method_19_code 45 = .ok (.getfield 33, 3) := by decide +kernel
theorem d_V_doAgain_48 : decode prog_1_method_19_code 48 = .ok (.invokevirtual 166, 3) := by decide +kernel
theorem d_V_doAgain_51 : decode prog_1_method_19_code 51 = .ok (.goto 52, 3) := by decide +kernel
theorem d_V_doAgain_103 : decode prog_1_method_19_code 103 = .ok (.return_, 1) := by decide +kernel
theorem w1363 : Cond.fieldLinkNest "SeriesVault" 159 "SeriesVault$Journal" "owners" "[I" "SeriesVault" ∈ aW := aw_of (tb_1 (List.mem_of_getElem? (i := 55) rfl)) rfl
theorem w1364 : Cond.fieldLinkNest "SeriesVault" 163 "SeriesVault$Journal" "kinds" "[I" "SeriesVault" ∈ aW := aw_of (tb_1 (List.mem_of_getElem? (i := 53) rfl)) rfl
set_option maxHeartbeats 4000000 in
set_option maxRecDepth 100000 in
theorem v_doAgain_0 (l : Launch) (D : va_G) (dA : Nat → ClassId) (sz : Nat) (h : Nat) (ad : Nat → Nat) (x : VS) (i : Nat) (hi : i < x.jsize) (hj1 : x.jsize ≤ x.jN) (hj2 : x.jN ≤ 65536) (hk : x.jK i = 0) (hs : x.nser < 256) : Met l ⟨"SeriesVault", "doAgain", "(I)V"⟩ [Cond.code ⟨"SeriesVault", "doAgain", "(I)V"⟩ prog_1_method_19_code 3 none] { frames := 2, cells := 0, slots := 0, locals := 20 } (pC D dA [.ref h, .int (nI i)] (VW dA h ad x) sz) (va_Qv (fun (u9 : Unit) => True) (fun (u9 : Unit) t9 => bW D (va_A (VW dA h ad x) sz) (VW dA h ad (VS.s_nlast (VS.s_nser x (x.nser + 1)) (va_up x.nlast x.nser (-1)))) t9) (va_A (VW dA h ad x) sz)) 0 0 (va_A (VW dA h ad x) sz) := by
  refine mkC (y := ⟨"SeriesVault", "doAgain", "(I)V"⟩) (cc := prog_1_method_19_code) (maxL := 3) (av := [.ref h, .int (nI i)]) (ws := VW dA h ad x) (sz := sz) (Qc := fun A => va_Qv (fun (u9 : Unit) => True) (fun (u9 : Unit) t9 => bW D A (VW dA h ad (VS.s_nlast (VS.s_nser x (x.nser + 1)) (va_up x.nlast x.nser (-1)))) t9) A) (by decide) (Nat.le_of_ble_eq_true rfl) ?_
  intro A p e s m below meth c ls hsz hB
  obtain ⟨hx, hb, hr, hml, hown, hin, hlk, hE, hK, hP, hD, hS, hA, hN, hl⟩ := hB
  have hown : s.vm.findClass "SeriesVault" = some m.cls := hown
  have hl : lv_has ls 3 [(0, .ref h), (1, .int (nI i))] := hl
  obtain ⟨H, hH⟩ : ∃ z, z = s.heap := ⟨_, rfl⟩
  have hP : va_P D vwCl (VW dA h ad x) H := by rw [hH]; exact hP
  have hS : va_S A s.heap H [] := by rw [hH]; exact hS
  rw [← hH]
  refine lv_aload_n hx hb d_V_doAgain_0 rfl (lv_at hl 0 rfl) ?_
  refine gF (v := .ref (ad 0)) hx hb hown hE hK hP 0 rfl rfl layV 8 (by decide) w312 rfl d_V_doAgain_1 ?_
  refine gFN (v := .ref (x.jA 1)) hx hb hown hE hK hP 2 rfl rfl layJ 1 (by decide) w1363 rfl d_V_doAgain_4 ?_
  refine lv_iload_n hx hb d_V_doAgain_7 rfl (lv_at hl 1 rfl) ?_
  refine nild (f := (fun z9 => nI (x.jO z9))) (n := x.jN) hx hb hK hP 4 1 rfl rfl (i) (by omega) (by omega) d_V_doAgain_8 ?_
  refine lv_istore_n hx hb d_V_doAgain_9 rfl hl (by decide) rfl (fun ls hl => ?_)
  have hl : lv_has ls 3 [(2, .int (nI (x.jO i))), (0, .ref h), (1, .int (nI i))] := hl
  refine lv_aload_n hx hb d_V_doAgain_10 rfl (lv_at hl 1 rfl) ?_
  refine gF (v := .ref (ad 0)) hx hb hown hE hK hP 0 rfl rfl layV 8 (by decide) w312 rfl d_V_doAgain_11 ?_
  refine gFN (v := .ref (x.jA 0)) hx hb hown hE hK hP 2 rfl rfl layJ 0 (by decide) w1364 rfl d_V_doAgain_14 ?_
  refine lv_iload_n hx hb d_V_doAgain_17 rfl (lv_at hl 2 rfl) ?_
  refine nild (f := (fun z9 => nI (x.jK z9))) (n := x.jN) hx hb hK hP 3 1 rfl rfl (i) (by omega) (by omega) d_V_doAgain_18 ?_
  refine tpi (y := 0) (by rw [hk]; rfl) ?_
  refine lv_lookup (x := 0) (off := 25) (tgt := 44) hx hb d_V_doAgain_19 (by decide) (by decide) rfl ?_
  refine lv_aload_n hx hb d_V_doAgain_44 rfl (lv_at hl 1 rfl) ?_
  refine gF (v := .ref (ad 3)) hx hb hown hE hK hP 0 rfl rfl layV 11 (by decide) w297 rfl d_V_doAgain_45 ?_
  refine jfV (rnV (As := []) (rest := []) hx hb hml hown hE hK (hN _ _ hS) hP hD (v_addSeries l D dA H.size h ad x (show x.nser < 256 from by omega)) (q0 := 17) rfl rfl w1332 w1331 w1333 w1334 w583 rfl rfl ⟨⟨by decide, by decide⟩, rfl⟩ ⟨(Nat.le_of_ble_eq_true rfl), (Nat.le_of_ble_eq_true rfl)⟩ rfl hl.1 rfl (Nat.le_of_ble_eq_true rfl) d_V_doAgain_48 ⟨(Nat.le_of_ble_eq_true rfl), (Nat.le_of_ble_eq_true rfl)⟩) hP hD hS hA (fun u2 H locs hp9 hP hD hS => ?_)
  have hP : va_P D vwCl (VW dA h ad (VS.s_nlast (VS.s_nser x (x.nser + 1)) (va_up x.nlast x.nser (-1)))) H := hP
  have hD : va_D A (VW dA h ad (VS.s_nlast (VS.s_nser x (x.nser + 1)) (va_up x.nlast x.nser (-1)))) := hD
  refine lv_goto hx hb d_V_doAgain_51 (tgt := 103) rfl ?_
  exact rfV hx hb hr hlk hS () trivial hP hD (Nat.le_of_ble_eq_true rfl) (Nat.le_of_ble_eq_true rfl) d_V_doAgain_103
theorem d_V_doAgain_54 : decode prog_1_method_19_code 54 = .ok (.aload_n 0, 1) := by decide +kernel
theorem d_V_doAgain_55 : decode prog_1_method_19_code 55 = .ok (.iload_n 2, 1) := by decide +kernel
theorem d_V_doAgain_56 : decode prog_1_method_19_code 56 = .ok (.aload_n 0, 1) := by decide +kernel
theorem d_V_doAgain_57 : decode prog_1_method_19_code 57 = .ok (.getfield 16, 3) := by decide +kernel
theorem d_V_doAgain_60 : decode prog_1_method_19_code 60 = .ok (.getfield 169, 3) := by decide +kernel
theorem d_V_doAgain_63 : decode prog_1_method_19_code 63 = .ok (.iload_n 1, 1) := by decide +kernel
theorem d_V_doAgain_64 : decode prog_1_method_19_code 64 = .ok (.laload, 1) := by decide +kernel
theorem d_V_doAgain_65 : decode prog_1_method_19_code 65 = .ok (.aload_n 0, 1) := by decide +kernel
theorem d_V_doAgain_66 : decode prog_1_method_19_code 66 = .ok (.getfield 16, 3) := by decide +kernel
theorem d_V_doAgain_69 : decode prog_1_method_19_code 69 = .ok (.getfield 173, 3) := by decide +kernel
theorem d_V_doAgain_72 : decode prog_1_method_19_code 72 = .ok (.iload_n 1, 1) := by decide +kernel
theorem d_V_doAgain_73 : decode prog_1_method_19_code 73 = .ok (.laload, 1) := by decide +kernel
theorem d_V_doAgain_74 : decode prog_1_method_19_code 74 = .ok (.invokevirtual 176, 3) := by decide +kernel
theorem d_V_doAgain_77 : decode prog_1_method_19_code 77 = .ok (.goto 26, 3) := by decide +kernel
theorem w1365 : Cond.fieldLinkNest "SeriesVault" 169 "SeriesVault$Journal" "firsts" "[J" "SeriesVault" ∈ aW := aw_of (tb_1 (List.mem_of_getElem? (i := 59) rfl)) rfl
theorem w1366 : Cond.fieldLinkNest "SeriesVault" 173 "SeriesVault$Journal" "seconds" "[J" "SeriesVault" ∈ aW := aw_of (tb_1 (List.mem_of_getElem? (i := 61) rfl)) rfl
set_option maxHeartbeats 4000000 in
set_option maxRecDepth 100000 in
theorem v_doAgain_1 (l : Launch) (D : va_G) (dA : Nat → ClassId) (sz : Nat) (h : Nat) (ad : Nat → Nat) (x : VS) (i : Nat) (hi : i < x.jsize) (hj1 : x.jsize ≤ x.jN) (hj2 : x.jN ≤ 65536) (hk : x.jK i = 1) (hw : x.jO i < 256) (hs1 : x.hsize ≤ x.hN) (hs2 : 0 < x.hN) (hs3 : x.hN ≤ 32768) : Met l ⟨"SeriesVault", "doAgain", "(I)V"⟩ [Cond.code ⟨"SeriesVault", "doAgain", "(I)V"⟩ prog_1_method_19_code 3 none] { frames := 4, cells := 3 * (x.cmcap (x.jF i) - x.hN), slots := 6 * (x.cmcap (x.jF i) - x.hN), locals := 112 } (pC D dA [.ref h, .int (nI i)] (VW dA h ad x) sz) (va_Qv (fun (u9 : VS) => ∃ pa : Nat → Nat, u9 = x.cmF pa (x.jO i) (x.jF i) (x.jS i)) (fun (u9 : VS) t9 => bW D (va_A (VW dA h ad x) sz) (VW dA h ad u9) t9) (va_A (VW dA h ad x) sz)) (3 * (x.cmcap (x.jF i) - x.hN)) (6 * (x.cmcap (x.jF i) - x.hN)) (va_A (VW dA h ad x) sz) := by
  refine mkC (y := ⟨"SeriesVault", "doAgain", "(I)V"⟩) (cc := prog_1_method_19_code) (maxL := 3) (av := [.ref h, .int (nI i)]) (ws := VW dA h ad x) (sz := sz) (Qc := fun A => va_Qv (fun (u9 : VS) => ∃ pa : Nat → Nat, u9 = x.cmF pa (x.jO i) (x.jF i) (x.jS i)) (fun (u9 : VS) t9 => bW D A (VW dA h ad u9) t9) A) (by decide) (Nat.le_of_ble_eq_true rfl) ?_
  intro A p e s m below meth c ls hsz hB
  obtain ⟨hx, hb, hr, hml, hown, hin, hlk, hE, hK, hP, hD, hS, hA, hN, hl⟩ := hB
  have hown : s.vm.findClass "SeriesVault" = some m.cls := hown
  have hl : lv_has ls 3 [(0, .ref h), (1, .int (nI i))] := hl
  obtain ⟨H, hH⟩ : ∃ z, z = s.heap := ⟨_, rfl⟩
  have hP : va_P D vwCl (VW dA h ad x) H := by rw [hH]; exact hP
  have hS : va_S A s.heap H [] := by rw [hH]; exact hS
  rw [← hH]
  refine lv_aload_n hx hb d_V_doAgain_0 rfl (lv_at hl 0 rfl) ?_
  refine gF (v := .ref (ad 0)) hx hb hown hE hK hP 0 rfl rfl layV 8 (by decide) w312 rfl d_V_doAgain_1 ?_
  refine gFN (v := .ref (x.jA 1)) hx hb hown hE hK hP 2 rfl rfl layJ 1 (by decide) w1363 rfl d_V_doAgain_4 ?_
  refine lv_iload_n hx hb d_V_doAgain_7 rfl (lv_at hl 1 rfl) ?_
  refine nild (f := (fun z9 => nI (x.jO z9))) (n := x.jN) hx hb hK hP 4 1 rfl rfl (i) (by omega) (by omega) d_V_doAgain_8 ?_
  refine lv_istore_n hx hb d_V_doAgain_9 rfl hl (by decide) rfl (fun ls hl => ?_)
  have hl : lv_has ls 3 [(2, .int (nI (x.jO i))), (0, .ref h), (1, .int (nI i))] := hl
  refine lv_aload_n hx hb d_V_doAgain_10 rfl (lv_at hl 1 rfl) ?_
  refine gF (v := .ref (ad 0)) hx hb hown hE hK hP 0 rfl rfl layV 8 (by decide) w312 rfl d_V_doAgain_11 ?_
  refine gFN (v := .ref (x.jA 0)) hx hb hown hE hK hP 2 rfl rfl layJ 0 (by decide) w1364 rfl d_V_doAgain_14 ?_
  refine lv_iload_n hx hb d_V_doAgain_17 rfl (lv_at hl 2 rfl) ?_
  refine nild (f := (fun z9 => nI (x.jK z9))) (n := x.jN) hx hb hK hP 3 1 rfl rfl (i) (by omega) (by omega) d_V_doAgain_18 ?_
  refine tpi (y := 1) (by rw [hk]; rfl) ?_
  refine lv_lookup (x := 1) (off := 35) (tgt := 54) hx hb d_V_doAgain_19 (by decide) (by decide) rfl ?_
  refine lv_aload_n hx hb d_V_doAgain_54 rfl (lv_at hl 1 rfl) ?_
  refine lv_iload_n hx hb d_V_doAgain_55 rfl (lv_at hl 0 rfl) ?_
  refine lv_aload_n hx hb d_V_doAgain_56 rfl (lv_at hl 1 rfl) ?_
  refine gF (v := .ref (ad 0)) hx hb hown hE hK hP 0 rfl rfl layV 8 (by decide) w312 rfl d_V_doAgain_57 ?_
  refine gFN (v := .ref (x.jA 4)) hx hb hown hE hK hP 2 rfl rfl layJ 4 (by decide) w1365 rfl d_V_doAgain_60 ?_
  refine lv_iload_n hx hb d_V_doAgain_63 rfl (lv_at hl 2 rfl) ?_
  refine nlld (f := x.jF) (n := x.jN) hx hb hK hP 7 2 rfl rfl (i) (by omega) (by omega) d_V_doAgain_64 ?_
  refine lv_aload_n hx hb d_V_doAgain_65 rfl (lv_at hl 1 rfl) ?_
  refine gF (v := .ref (ad 0)) hx hb hown hE hK hP 0 rfl rfl layV 8 (by decide) w312 rfl d_V_doAgain_66 ?_
  refine gFN (v := .ref (x.jA 5)) hx hb hown hE hK hP 2 rfl rfl layJ 5 (by decide) w1366 rfl d_V_doAgain_69 ?_
  refine lv_iload_n hx hb d_V_doAgain_72 rfl (lv_at hl 2 rfl) ?_
  refine nlld (f := x.jS) (n := x.jN) hx hb hK hP 8 2 rfl rfl (i) (by omega) (by omega) d_V_doAgain_73 ?_
  refine jfV (rnV (As := [.int (nI (x.jO i)), .long (x.jF i), .long (x.jS i)]) (rest := []) hx hb hml hown hE hK (hN _ _ hS) hP hD (v_comePoint l D dA H.size h ad x (x.jO i) (x.jF i) (x.jS i) hw hs1 hs2 hs3) (q0 := 0) rfl rfl w1137 w1136 w1138 w1139 w277 rfl rfl ⟨⟨by decide, by decide⟩, rfl⟩ ⟨(Nat.le_of_ble_eq_true rfl), (Nat.le_of_ble_eq_true rfl)⟩ rfl hl.1 rfl (Nat.le_of_ble_eq_true rfl) d_V_doAgain_74 ⟨(show 0 + (3 * (x.cmcap (x.jF i) - x.hN)) ≤ 3 * (x.cmcap (x.jF i) - x.hN) by omega), (show 0 + (6 * (x.cmcap (x.jF i) - x.hN)) ≤ 6 * (x.cmcap (x.jF i) - x.hN) by omega)⟩) hP hD hS hA (fun u2 H locs hp9 hP hD hS => ?_)
  obtain ⟨y3, h9u⟩ : ∃ z9, z9 = u2 := ⟨_, rfl⟩
  subst h9u
  have hP : va_P D vwCl (VW dA h ad y3) H := hP
  have hD : va_D A (VW dA h ad y3) := hD
  have f_e_4 := hp9
  refine lv_goto hx hb d_V_doAgain_77 (tgt := 103) rfl ?_
  exact rfV hx hb hr hlk hS y3 f_e_4 hP hD (show 0 + (3 * (x.cmcap (x.jF i) - x.hN)) ≤ 3 * (x.cmcap (x.jF i) - x.hN) by omega) (show 0 + (6 * (x.cmcap (x.jF i) - x.hN)) ≤ 6 * (x.cmcap (x.jF i) - x.hN) by omega) d_V_doAgain_103
theorem d_V_doAgain_80 : decode prog_1_method_19_code 80 = .ok (.aload_n 0, 1) := by decide +kernel
theorem d_V_doAgain_81 : decode prog_1_method_19_code 81 = .ok (.iload_n 2, 1) := by decide +kernel
theorem d_V_doAgain_82 : decode prog_1_method_19_code 82 = .ok (.aload_n 0, 1) := by decide +kernel
theorem d_V_doAgain_83 : decode prog_1_method_19_code 83 = .ok (.getfield 16, 3) := by decide +kernel
theorem d_V_doAgain_86 : decode prog_1_method_19_code 86 = .ok (.getfield 169, 3) := by decide +kernel
theorem d_V_doAgain_89 : decode prog_1_method_19_code 89 = .ok (.iload_n 1, 1) := by decide +kernel
theorem d_V_doAgain_90 : decode prog_1_method_19_code 90 = .ok (.laload, 1) := by decide +kernel
theorem d_V_doAgain_91 : decode prog_1_method_19_code 91 = .ok (.aload_n 0, 1) := by decide +kernel
theorem d_V_doAgain_92 : decode prog_1_method_19_code 92 = .ok (.getfield 16, 3) := by decide +kernel
theorem d_V_doAgain_95 : decode prog_1_method_19_code 95 = .ok (.getfield 173, 3) := by decide +kernel
theorem d_V_doAgain_98 : decode prog_1_method_19_code 98 = .ok (.iload_n 1, 1) := by decide +kernel
theorem d_V_doAgain_99 : decode prog_1_method_19_code 99 = .ok (.laload, 1) := by decide +kernel
theorem d_V_doAgain_100 : decode prog_1_method_19_code 100 = .ok (.invokevirtual 180, 3) := by decide +kernel
set_option maxHeartbeats 4000000 in
set_option maxRecDepth 100000 in
theorem v_doAgain_20 (l : Launch) (D : va_G) (dA : Nat → ClassId) (sz : Nat) (h : Nat) (ad : Nat → Nat) (x : VS) (PS : Nat → PT) (i : Nat) (hi : i < x.jsize) (hj1 : x.jsize ≤ x.jN) (hj2 : x.jN ≤ 65536) (hps : psOk dA x.nP x.npc x.pl PS) (hpn : x.npc ≤ 32) (h1 : x.nsc ≤ 64) (h7 : ∀ q : Nat, q < x.nsc → x.nsO q < 2 ^ 31) (h0 : x.hsize ≤ x.hN) (h9 : x.hN ≤ 65536) (hw : x.jO i < 256) (hh7 : ∀ q : Nat, q < x.hsize → x.hO q < 2 ^ 31) (hk : x.jK i = 2) (hz : sumN x.npc (x.soN PS (x.jO i) (x.jF i) (x.jS i)) = 0) : Met l ⟨"SeriesVault", "doAgain", "(I)V"⟩ [Cond.code ⟨"SeriesVault", "doAgain", "(I)V"⟩ prog_1_method_19_code 3 none] { frames := 6, cells := 0, slots := 0, locals := 128 } (pC D dA [.ref h, .int (nI i)] (VW dA h ad x) sz) (va_Qv (fun (u9 : Unit) => True) (fun (u9 : Unit) t9 => bW D (va_A (VW dA h ad x) sz) (VW dA h ad (VS.s_hsize (VS.s_hV (VS.s_hT (VS.s_hO x (tdT (x.hWn (x.jO i) (x.jF i) (x.jS i)) x.hO x.hsize)) (tdT (x.hWn (x.jO i) (x.jF i) (x.jS i)) x.hT x.hsize)) (tdT (x.hWn (x.jO i) (x.jF i) (x.jS i)) x.hV x.hsize)) (cnt x.hsize (x.hWn (x.jO i) (x.jF i) (x.jS i))))) t9) (va_A (VW dA h ad x) sz)) 0 0 (va_A (VW dA h ad x) sz) := by
  refine mkC (y := ⟨"SeriesVault", "doAgain", "(I)V"⟩) (cc := prog_1_method_19_code) (maxL := 3) (av := [.ref h, .int (nI i)]) (ws := VW dA h ad x) (sz := sz) (Qc := fun A => va_Qv (fun (u9 : Unit) => True) (fun (u9 : Unit) t9 => bW D A (VW dA h ad (VS.s_hsize (VS.s_hV (VS.s_hT (VS.s_hO x (tdT (x.hWn (x.jO i) (x.jF i) (x.jS i)) x.hO x.hsize)) (tdT (x.hWn (x.jO i) (x.jF i) (x.jS i)) x.hT x.hsize)) (tdT (x.hWn (x.jO i) (x.jF i) (x.jS i)) x.hV x.hsize)) (cnt x.hsize (x.hWn (x.jO i) (x.jF i) (x.jS i))))) t9) A) (by decide) (Nat.le_of_ble_eq_true rfl) ?_
  intro A p e s m below meth c ls hsz hB
  obtain ⟨hx, hb, hr, hml, hown, hin, hlk, hE, hK, hP, hD, hS, hA, hN, hl⟩ := hB
  have hown : s.vm.findClass "SeriesVault" = some m.cls := hown
  have hl : lv_has ls 3 [(0, .ref h), (1, .int (nI i))] := hl
  obtain ⟨H, hH⟩ : ∃ z, z = s.heap := ⟨_, rfl⟩
  have hP : va_P D vwCl (VW dA h ad x) H := by rw [hH]; exact hP
  have hS : va_S A s.heap H [] := by rw [hH]; exact hS
  rw [← hH]
  refine lv_aload_n hx hb d_V_doAgain_0 rfl (lv_at hl 0 rfl) ?_
  refine gF (v := .ref (ad 0)) hx hb hown hE hK hP 0 rfl rfl layV 8 (by decide) w312 rfl d_V_doAgain_1 ?_
  refine gFN (v := .ref (x.jA 1)) hx hb hown hE hK hP 2 rfl rfl layJ 1 (by decide) w1363 rfl d_V_doAgain_4 ?_
  refine lv_iload_n hx hb d_V_doAgain_7 rfl (lv_at hl 1 rfl) ?_
  refine nild (f := (fun z9 => nI (x.jO z9))) (n := x.jN) hx hb hK hP 4 1 rfl rfl (i) (by omega) (by omega) d_V_doAgain_8 ?_
  refine lv_istore_n hx hb d_V_doAgain_9 rfl hl (by decide) rfl (fun ls hl => ?_)
  have hl : lv_has ls 3 [(2, .int (nI (x.jO i))), (0, .ref h), (1, .int (nI i))] := hl
  refine lv_aload_n hx hb d_V_doAgain_10 rfl (lv_at hl 1 rfl) ?_
  refine gF (v := .ref (ad 0)) hx hb hown hE hK hP 0 rfl rfl layV 8 (by decide) w312 rfl d_V_doAgain_11 ?_
  refine gFN (v := .ref (x.jA 0)) hx hb hown hE hK hP 2 rfl rfl layJ 0 (by decide) w1364 rfl d_V_doAgain_14 ?_
  refine lv_iload_n hx hb d_V_doAgain_17 rfl (lv_at hl 2 rfl) ?_
  refine nild (f := (fun z9 => nI (x.jK z9))) (n := x.jN) hx hb hK hP 3 1 rfl rfl (i) (by omega) (by omega) d_V_doAgain_18 ?_
  refine tpi (y := 2) (by rw [hk]; rfl) ?_
  refine lv_lookup (x := 2) (off := 61) (tgt := 80) hx hb d_V_doAgain_19 (by decide) (by decide) rfl ?_
  refine lv_aload_n hx hb d_V_doAgain_80 rfl (lv_at hl 1 rfl) ?_
  refine lv_iload_n hx hb d_V_doAgain_81 rfl (lv_at hl 0 rfl) ?_
  refine lv_aload_n hx hb d_V_doAgain_82 rfl (lv_at hl 1 rfl) ?_
  refine gF (v := .ref (ad 0)) hx hb hown hE hK hP 0 rfl rfl layV 8 (by decide) w312 rfl d_V_doAgain_83 ?_
  refine gFN (v := .ref (x.jA 4)) hx hb hown hE hK hP 2 rfl rfl layJ 4 (by decide) w1365 rfl d_V_doAgain_86 ?_
  refine lv_iload_n hx hb d_V_doAgain_89 rfl (lv_at hl 2 rfl) ?_
  refine nlld (f := x.jF) (n := x.jN) hx hb hK hP 7 2 rfl rfl (i) (by omega) (by omega) d_V_doAgain_90 ?_
  refine lv_aload_n hx hb d_V_doAgain_91 rfl (lv_at hl 1 rfl) ?_
  refine gF (v := .ref (ad 0)) hx hb hown hE hK hP 0 rfl rfl layV 8 (by decide) w312 rfl d_V_doAgain_92 ?_
  refine gFN (v := .ref (x.jA 5)) hx hb hown hE hK hP 2 rfl rfl layJ 5 (by decide) w1366 rfl d_V_doAgain_95 ?_
  refine lv_iload_n hx hb d_V_doAgain_98 rfl (lv_at hl 2 rfl) ?_
  refine nlld (f := x.jS) (n := x.jN) hx hb hK hP 8 2 rfl rfl (i) (by omega) (by omega) d_V_doAgain_99 ?_
  refine jfV (rnV (As := [.int (nI (x.jO i)), .long (x.jF i), .long (x.jS i)]) (rest := []) hx hb hml hown hE hK (hN _ _ hS) hP hD (v_letGo_0 l D dA H.size h ad x PS (x.jO i) (x.jF i) (x.jS i) hps hpn h1 h7 h0 h9 hw hh7 hz) (q0 := 0) rfl rfl w1360 w1359 w1361 w1362 w277 rfl rfl ⟨⟨by decide, by decide⟩, rfl⟩ ⟨(Nat.le_of_ble_eq_true rfl), (Nat.le_of_ble_eq_true rfl)⟩ rfl hl.1 rfl (Nat.le_of_ble_eq_true rfl) d_V_doAgain_100 ⟨(Nat.le_of_ble_eq_true rfl), (Nat.le_of_ble_eq_true rfl)⟩) hP hD hS hA (fun u2 H locs hp9 hP hD hS => ?_)
  have hP : va_P D vwCl (VW dA h ad (VS.s_hsize (VS.s_hV (VS.s_hT (VS.s_hO x (tdT (x.hWn (x.jO i) (x.jF i) (x.jS i)) x.hO x.hsize)) (tdT (x.hWn (x.jO i) (x.jF i) (x.jS i)) x.hT x.hsize)) (tdT (x.hWn (x.jO i) (x.jF i) (x.jS i)) x.hV x.hsize)) (cnt x.hsize (x.hWn (x.jO i) (x.jF i) (x.jS i))))) H := hP
  have hD : va_D A (VW dA h ad (VS.s_hsize (VS.s_hV (VS.s_hT (VS.s_hO x (tdT (x.hWn (x.jO i) (x.jF i) (x.jS i)) x.hO x.hsize)) (tdT (x.hWn (x.jO i) (x.jF i) (x.jS i)) x.hT x.hsize)) (tdT (x.hWn (x.jO i) (x.jF i) (x.jS i)) x.hV x.hsize)) (cnt x.hsize (x.hWn (x.jO i) (x.jF i) (x.jS i))))) := hD
  exact rfV hx hb hr hlk hS () trivial hP hD (Nat.le_of_ble_eq_true rfl) (Nat.le_of_ble_eq_true rfl) d_V_doAgain_103
set_option maxHeartbeats 4000000 in
set_option maxRecDepth 100000 in
theorem v_doAgain_21 (l : Launch) (D : va_G) (dA : Nat → ClassId) (sz : Nat) (h : Nat) (ad : Nat → Nat) (x : VS) (PS : Nat → PT) (i : Nat) (hi : i < x.jsize) (hj1 : x.jsize ≤ x.jN) (hj2 : x.jN ≤ 65536) (hps : psOk dA x.nP x.npc x.pl PS) (hpn : x.npc ≤ 32) (h1 : x.nsc ≤ 64) (h7 : ∀ q : Nat, q < x.nsc → x.nsO q < 2 ^ 31) (h0 : x.hsize ≤ x.hN) (h9 : x.hN ≤ 65536) (hw : x.jO i < 256) (hh7 : ∀ q : Nat, q < x.hsize → x.hO q < 2 ^ 31) (hk : x.jK i = 2) (hz : 0 < sumN x.npc (x.soN PS (x.jO i) (x.jF i) (x.jS i))) (hsc : x.nsc < 64) : Met l ⟨"SeriesVault", "doAgain", "(I)V"⟩ [Cond.code ⟨"SeriesVault", "doAgain", "(I)V"⟩ prog_1_method_19_code 3 none] { frames := 6, cells := 0, slots := 0, locals := 128 } (pC D dA [.ref h, .int (nI i)] (VW dA h ad x) sz) (va_Qv (fun (u9 : Unit) => True) (fun (u9 : Unit) t9 => bW D (va_A (VW dA h ad x) sz) (VW dA h ad (VS.s_nsc (VS.s_nsT (VS.s_nsF (VS.s_nsO (VS.s_hsize (VS.s_hV (VS.s_hT (VS.s_hO x (tdT (x.hWn (x.jO i) (x.jF i) (x.jS i)) x.hO x.hsize)) (tdT (x.hWn (x.jO i) (x.jF i) (x.jS i)) x.hT x.hsize)) (tdT (x.hWn (x.jO i) (x.jF i) (x.jS i)) x.hV x.hsize)) (cnt x.hsize (x.hWn (x.jO i) (x.jF i) (x.jS i)))) (va_up x.nsO x.nsc (x.jO i))) (va_up x.nsF x.nsc (maxL (x.jF i) x.nhor))) (va_up x.nsT x.nsc (minL (x.jS i) (x.nlast (x.jO i))))) (x.nsc + 1))) t9) (va_A (VW dA h ad x) sz)) 0 0 (va_A (VW dA h ad x) sz) := by
  refine mkC (y := ⟨"SeriesVault", "doAgain", "(I)V"⟩) (cc := prog_1_method_19_code) (maxL := 3) (av := [.ref h, .int (nI i)]) (ws := VW dA h ad x) (sz := sz) (Qc := fun A => va_Qv (fun (u9 : Unit) => True) (fun (u9 : Unit) t9 => bW D A (VW dA h ad (VS.s_nsc (VS.s_nsT (VS.s_nsF (VS.s_nsO (VS.s_hsize (VS.s_hV (VS.s_hT (VS.s_hO x (tdT (x.hWn (x.jO i) (x.jF i) (x.jS i)) x.hO x.hsize)) (tdT (x.hWn (x.jO i) (x.jF i) (x.jS i)) x.hT x.hsize)) (tdT (x.hWn (x.jO i) (x.jF i) (x.jS i)) x.hV x.hsize)) (cnt x.hsize (x.hWn (x.jO i) (x.jF i) (x.jS i)))) (va_up x.nsO x.nsc (x.jO i))) (va_up x.nsF x.nsc (maxL (x.jF i) x.nhor))) (va_up x.nsT x.nsc (minL (x.jS i) (x.nlast (x.jO i))))) (x.nsc + 1))) t9) A) (by decide) (Nat.le_of_ble_eq_true rfl) ?_
  intro A p e s m below meth c ls hsz hB
  obtain ⟨hx, hb, hr, hml, hown, hin, hlk, hE, hK, hP, hD, hS, hA, hN, hl⟩ := hB
  have hown : s.vm.findClass "SeriesVault" = some m.cls := hown
  have hl : lv_has ls 3 [(0, .ref h), (1, .int (nI i))] := hl
  obtain ⟨H, hH⟩ : ∃ z, z = s.heap := ⟨_, rfl⟩
  have hP : va_P D vwCl (VW dA h ad x) H := by rw [hH]; exact hP
  have hS : va_S A s.heap H [] := by rw [hH]; exact hS
  rw [← hH]
  refine lv_aload_n hx hb d_V_doAgain_0 rfl (lv_at hl 0 rfl) ?_
  refine gF (v := .ref (ad 0)) hx hb hown hE hK hP 0 rfl rfl layV 8 (by decide) w312 rfl d_V_doAgain_1 ?_
  refine gFN (v := .ref (x.jA 1)) hx hb hown hE hK hP 2 rfl rfl layJ 1 (by decide) w1363 rfl d_V_doAgain_4 ?_
  refine lv_iload_n hx hb d_V_doAgain_7 rfl (lv_at hl 1 rfl) ?_
  refine nild (f := (fun z9 => nI (x.jO z9))) (n := x.jN) hx hb hK hP 4 1 rfl rfl (i) (by omega) (by omega) d_V_doAgain_8 ?_
  refine lv_istore_n hx hb d_V_doAgain_9 rfl hl (by decide) rfl (fun ls hl => ?_)
  have hl : lv_has ls 3 [(2, .int (nI (x.jO i))), (0, .ref h), (1, .int (nI i))] := hl
  refine lv_aload_n hx hb d_V_doAgain_10 rfl (lv_at hl 1 rfl) ?_
  refine gF (v := .ref (ad 0)) hx hb hown hE hK hP 0 rfl rfl layV 8 (by decide) w312 rfl d_V_doAgain_11 ?_
  refine gFN (v := .ref (x.jA 0)) hx hb hown hE hK hP 2 rfl rfl layJ 0 (by decide) w1364 rfl d_V_doAgain_14 ?_
  refine lv_iload_n hx hb d_V_doAgain_17 rfl (lv_at hl 2 rfl) ?_
  refine nild (f := (fun z9 => nI (x.jK z9))) (n := x.jN) hx hb hK hP 3 1 rfl rfl (i) (by omega) (by omega) d_V_doAgain_18 ?_
  refine tpi (y := 2) (by rw [hk]; rfl) ?_
  refine lv_lookup (x := 2) (off := 61) (tgt := 80) hx hb d_V_doAgain_19 (by decide) (by decide) rfl ?_
  refine lv_aload_n hx hb d_V_doAgain_80 rfl (lv_at hl 1 rfl) ?_
  refine lv_iload_n hx hb d_V_doAgain_81 rfl (lv_at hl 0 rfl) ?_
  refine lv_aload_n hx hb d_V_doAgain_82 rfl (lv_at hl 1 rfl) ?_
  refine gF (v := .ref (ad 0)) hx hb hown hE hK hP 0 rfl rfl layV 8 (by decide) w312 rfl d_V_doAgain_83 ?_
  refine gFN (v := .ref (x.jA 4)) hx hb hown hE hK hP 2 rfl rfl layJ 4 (by decide) w1365 rfl d_V_doAgain_86 ?_
  refine lv_iload_n hx hb d_V_doAgain_89 rfl (lv_at hl 2 rfl) ?_
  refine nlld (f := x.jF) (n := x.jN) hx hb hK hP 7 2 rfl rfl (i) (by omega) (by omega) d_V_doAgain_90 ?_
  refine lv_aload_n hx hb d_V_doAgain_91 rfl (lv_at hl 1 rfl) ?_
  refine gF (v := .ref (ad 0)) hx hb hown hE hK hP 0 rfl rfl layV 8 (by decide) w312 rfl d_V_doAgain_92 ?_
  refine gFN (v := .ref (x.jA 5)) hx hb hown hE hK hP 2 rfl rfl layJ 5 (by decide) w1366 rfl d_V_doAgain_95 ?_
  refine lv_iload_n hx hb d_V_doAgain_98 rfl (lv_at hl 2 rfl) ?_
  refine nlld (f := x.jS) (n := x.jN) hx hb hK hP 8 2 rfl rfl (i) (by omega) (by omega) d_V_doAgain_99 ?_
  refine jfV (rnV (As := [.int (nI (x.jO i)), .long (x.jF i), .long (x.jS i)]) (rest := []) hx hb hml hown hE hK (hN _ _ hS) hP hD (v_letGo_1 l D dA H.size h ad x PS (x.jO i) (x.jF i) (x.jS i) hps hpn h1 h7 h0 h9 hw hh7 hz hsc) (q0 := 0) rfl rfl w1360 w1359 w1361 w1362 w277 rfl rfl ⟨⟨by decide, by decide⟩, rfl⟩ ⟨(Nat.le_of_ble_eq_true rfl), (Nat.le_of_ble_eq_true rfl)⟩ rfl hl.1 rfl (Nat.le_of_ble_eq_true rfl) d_V_doAgain_100 ⟨(Nat.le_of_ble_eq_true rfl), (Nat.le_of_ble_eq_true rfl)⟩) hP hD hS hA (fun u2 H locs hp9 hP hD hS => ?_)
  have hP : va_P D vwCl (VW dA h ad (VS.s_nsc (VS.s_nsT (VS.s_nsF (VS.s_nsO (VS.s_hsize (VS.s_hV (VS.s_hT (VS.s_hO x (tdT (x.hWn (x.jO i) (x.jF i) (x.jS i)) x.hO x.hsize)) (tdT (x.hWn (x.jO i) (x.jF i) (x.jS i)) x.hT x.hsize)) (tdT (x.hWn (x.jO i) (x.jF i) (x.jS i)) x.hV x.hsize)) (cnt x.hsize (x.hWn (x.jO i) (x.jF i) (x.jS i)))) (va_up x.nsO x.nsc (x.jO i))) (va_up x.nsF x.nsc (maxL (x.jF i) x.nhor))) (va_up x.nsT x.nsc (minL (x.jS i) (x.nlast (x.jO i))))) (x.nsc + 1))) H := hP
  have hD : va_D A (VW dA h ad (VS.s_nsc (VS.s_nsT (VS.s_nsF (VS.s_nsO (VS.s_hsize (VS.s_hV (VS.s_hT (VS.s_hO x (tdT (x.hWn (x.jO i) (x.jF i) (x.jS i)) x.hO x.hsize)) (tdT (x.hWn (x.jO i) (x.jF i) (x.jS i)) x.hT x.hsize)) (tdT (x.hWn (x.jO i) (x.jF i) (x.jS i)) x.hV x.hsize)) (cnt x.hsize (x.hWn (x.jO i) (x.jF i) (x.jS i)))) (va_up x.nsO x.nsc (x.jO i))) (va_up x.nsF x.nsc (maxL (x.jF i) x.nhor))) (va_up x.nsT x.nsc (minL (x.jS i) (x.nlast (x.jO i))))) (x.nsc + 1))) := hD
  exact rfV hx hb hr hlk hS () trivial hP hD (Nat.le_of_ble_eq_true rfl) (Nat.le_of_ble_eq_true rfl) d_V_doAgain_103
set_option maxHeartbeats 4000000 in
set_option maxRecDepth 100000 in
theorem v_retain_i (l : Launch) (htr : l.stackTraces = false) (D : va_G) (dA : Nat → ClassId) (sz : Nat) (h : Nat) (ad : Nat → Nat) (x : VS) (PS : Nat → PT) (a : Int64) (ho : x.powered = true) (t1 : isTm a = true) (t2 : x.nhor < a) (hps : psOk dA x.nP x.npc x.pl PS) (hpn : x.npc ≤ 32) (h1 : x.nsc ≤ 64) (h7 : ∀ q : Nat, q < x.nsc → x.nsO q < 2 ^ 31) (h0 : x.hsize ≤ x.hN) (h9 : x.hN ≤ 65536) (hc2 : x.jch = true) (hc : x.cutLeft = 0) : mX l ⟨"SeriesVault", "retain", "(J)I"⟩ [Cond.code ⟨"SeriesVault", "retain", "(J)I"⟩ prog_1_method_41_code 4 (some FieldType.int)] { frames := 8, cells := 1, slots := 6, locals := 121 } (pC D dA [.ref h, .long a] (VW dA h ad x) sz) "java/lang/IllegalStateException" (fun st9 t9 => va_F (va_A (VW dA h ad x) sz) st9 t9 ∧ bW D (va_A (VW dA h ad x) sz) (VW dA h ad (VS.s_cutLeft (VS.s_powered x false) (-1))) t9) 1 6 (va_A (VW dA h ad x) sz) := by
  refine mkX (y := ⟨"SeriesVault", "retain", "(J)I"⟩) (cc := prog_1_method_41_code) (maxL := 4) (av := [.ref h, .long a]) (ws := VW dA h ad x) (sz := sz) (B := fun A => (fun st9 t9 => va_F A st9 t9 ∧ bW D A (VW dA h ad (VS.s_cutLeft (VS.s_powered x false) (-1))) t9)) (by decide) (Nat.le_of_ble_eq_true rfl) ?_
  intro A p e s m below meth c ls hsz hno hB
  obtain ⟨hx, hb, hr, hml, hown, hin, hlk, hE, hK, hP, hD, hS, hA, hN, hl⟩ := hB
  have hown : s.vm.findClass "SeriesVault" = some m.cls := hown
  have hl : lv_has ls 4 [(0, .ref h), (1, .long a)] := hl
  obtain ⟨H, hH⟩ : ∃ z, z = s.heap := ⟨_, rfl⟩
  have hP : va_P D vwCl (VW dA h ad x) H := by rw [hH]; exact hP
  have hS : va_S A s.heap H [] := by rw [hH]; exact hS
  rw [← hH]
  refine lv_aload_n hx hb d_V_retain_0 rfl (lv_at hl 0 rfl) ?_
  refine jfV (rnV (As := []) (rest := []) hx hb hml hown hE hK (hN _ _ hS) hP hD (v_checkPower l D dA H.size h ad x ho) (q0 := 0) rfl rfl w278 w276 w279 w280 w277 rfl rfl ⟨⟨by decide, by decide⟩, rfl⟩ ⟨(Nat.le_of_ble_eq_true rfl), (Nat.le_of_ble_eq_true rfl)⟩ rfl hl.1 rfl (Nat.le_of_ble_eq_true rfl) d_V_retain_1 ⟨(Nat.le_of_ble_eq_true rfl), (Nat.le_of_ble_eq_true rfl)⟩) hP hD hS hA (fun u2 H locs hp9 hP hD hS => ?_)
  have hP : va_P D vwCl (VW dA h ad x) H := hP
  have hD : va_D A (VW dA h ad x) := hD
  refine lv_lload_n hx hb d_V_retain_4 rfl (lv_at hl 1 rfl) ?_
  have hPc := hP.sub (ws' := []) [] rfl
  have hDc := hD.sub (ws' := []) [] (by decide) rfl
  refine jpI (rnS (As := [.long a]) (rest := []) hx hb hml hown hE hK (hN _ _ hS) hPc hDc (v_isTime l D dA H.size a) w693 w692 w694 w277 rfl rfl ⟨⟨by decide, by decide⟩, rfl⟩ ⟨(Nat.le_of_ble_eq_true rfl), (Nat.le_of_ble_eq_true rfl)⟩ rfl hl.1 rfl (Nat.le_of_ble_eq_true rfl) d_V_retain_5 ⟨(Nat.le_of_ble_eq_true rfl), (Nat.le_of_ble_eq_true rfl)⟩) hP hD hS hA (fun r3 u9 H locs hp9 hP hD hS => ?_)
  have hP : va_P D vwCl (VW dA h ad x) H := hP
  have hD : va_D A (VW dA h ad x) := hD
  replace hp9 : bI (isTm a) = r3 := Eq.symm hp9
  subst hp9
  refine lv_if_eq hx hb d_V_retain_8 (tgt := 23) rfl (fun h9 => absurd h9 (by rw [t1]; decide)) (fun _ => ?_)
  refine lv_lload_n hx hb d_V_retain_11 rfl (lv_at hl 1 rfl) ?_
  refine lv_aload_n hx hb d_V_retain_12 rfl (lv_at hl 0 rfl) ?_
  refine gF (v := .ref (ad 3)) hx hb hown hE hK hP 0 rfl rfl layV 11 (by decide) w297 rfl d_V_retain_13 ?_
  refine gFN (v := .long x.nhor) hx hb hown hE hK hP 17 rfl rfl layH 7 (by decide) w710 rfl d_V_retain_16 ?_
  refine W.lcmp hx hb d_V_retain_19 ?_
  refine lv_if_ge hx hb d_V_retain_20 (tgt := 31) rfl (fun _ => ?_) (fun h9 => absurd ((lg_cmp_ge _ _).mpr (Int64.le_of_lt t2)) h9)
  refine lv_lload_n hx hb d_V_retain_31 rfl (lv_at hl 1 rfl) ?_
  refine lv_aload_n hx hb d_V_retain_32 rfl (lv_at hl 0 rfl) ?_
  refine gF (v := .ref (ad 3)) hx hb hown hE hK hP 0 rfl rfl layV 11 (by decide) w297 rfl d_V_retain_33 ?_
  refine gFN (v := .long x.nhor) hx hb hown hE hK hP 17 rfl rfl layH 7 (by decide) w710 rfl d_V_retain_36 ?_
  refine W.lcmp hx hb d_V_retain_39 ?_
  refine lv_if_ne hx hb d_V_retain_40 (tgt := 45) rfl (fun _ => ?_) (fun h9 => absurd h9 (mt (lg_cmp_eq _ _).mp (fun z => absurd t2 (by rw [z]; exact fun q => Int64.lt_irrefl q))))
  refine lv_aload_n hx hb d_V_retain_45 rfl (lv_at hl 0 rfl) ?_
  refine gF (v := .ref (ad 3)) hx hb hown hE hK hP 0 rfl rfl layV 11 (by decide) w297 rfl d_V_retain_46 ?_
  refine lv_lload_n hx hb d_V_retain_49 rfl (lv_at hl 1 rfl) ?_
  refine jfI (rnV (As := [.long a]) (rest := []) hx hb hml hown hE hK (hN _ _ hS) hP hD (v_countSeenBelow l D dA H.size h ad x PS a hps (show x.npc ≤ 32 from by omega) (show x.nsc ≤ 64 from by omega) h7) (q0 := 17) rfl rfl w633 w731 w634 w635 w583 rfl rfl ⟨⟨by decide, by decide⟩, rfl⟩ ⟨(Nat.le_of_ble_eq_true rfl), (Nat.le_of_ble_eq_true rfl)⟩ rfl hl.1 rfl (Nat.le_of_ble_eq_true rfl) d_V_retain_50 ⟨(Nat.le_of_ble_eq_true rfl), (Nat.le_of_ble_eq_true rfl)⟩) hP hD hS hA (fun r5 u6 H locs hp9 hP hD hS => ?_)
  have hP : va_P D vwCl (VW dA h ad x) H := hP
  have hD : va_D A (VW dA h ad x) := hD
  replace hp9 : nI (sumN x.npc (x.sbN PS (a - 1))) = r5 := Eq.symm hp9
  subst hp9
  refine lv_aload_n hx hb d_V_retain_53 rfl (lv_at hl 0 rfl) ?_
  refine gF (v := .ref (ad 1)) hx hb hown hE hK hP 0 rfl rfl layV 9 (by decide) w576 rfl d_V_retain_54 ?_
  refine lv_lload_n hx hb d_V_retain_57 rfl (lv_at hl 1 rfl) ?_
  refine jfI (rnV (As := [.long a]) (rest := [.int (nI (sumN x.npc (x.sbN PS (a - 1))))]) hx hb hml hown hE hK (hN _ _ hS) hP hD (v_countBelow l D dA H.size h ad x a (show x.hsize ≤ x.hN from by omega) (show x.hN ≤ 65536 from by omega)) (q0 := 9) rfl rfl w733 w732 w734 w735 w578 rfl rfl ⟨⟨by decide, by decide⟩, rfl⟩ ⟨(Nat.le_of_ble_eq_true rfl), (Nat.le_of_ble_eq_true rfl)⟩ rfl hl.1 rfl (Nat.le_of_ble_eq_true rfl) d_V_retain_58 ⟨(Nat.le_of_ble_eq_true rfl), (Nat.le_of_ble_eq_true rfl)⟩) hP hD hS hA (fun r7 u8 H locs hp9 hP hD hS => ?_)
  have hP : va_P D vwCl (VW dA h ad x) H := hP
  have hD : va_D A (VW dA h ad x) := hD
  replace hp9 : nI (cnt x.hsize (x.hBl a)) = r7 := Eq.symm hp9
  subst hp9
  refine lv_iadd hx hb d_V_retain_61 (tpi (y := nI ((sumN x.npc (x.sbN PS (a - 1))) + (cnt x.hsize (x.hBl a)))) (nI_add (sumN x.npc (x.sbN PS (a - 1))) (cnt x.hsize (x.hBl a))) ?_)
  refine lv_istore_n hx hb d_V_retain_62 rfl hl (by decide) rfl (fun ls hl => ?_)
  have hl : lv_has ls 4 [(3, .int (nI ((sumN x.npc (x.sbN PS (a - 1))) + (cnt x.hsize (x.hBl a))))), (0, .ref h), (1, .long a)] := hl
  refine lv_aload_n hx hb d_V_retain_63 rfl (lv_at hl 1 rfl) ?_
  refine xfV (w1 := VW dA h ad (VS.s_cutLeft (VS.s_powered x false) (-1))) (As := []) (rest := []) hx hb hml hown hE hK (hN _ _ hS) (v_writeJournalBlock_x l htr D dA H.size h ad x hc2 hc) (q0 := 0) rfl rfl w315 w314 w316 w317 w277 rfl rfl ⟨⟨by decide, by decide⟩, rfl⟩ ⟨(Nat.le_of_ble_eq_true rfl), (Nat.le_of_ble_eq_true rfl)⟩ rfl hl.1 rfl (Nat.le_of_ble_eq_true rfl) d_V_retain_64 ⟨(Nat.le_of_ble_eq_true rfl), (Nat.le_of_ble_eq_true rfl)⟩ hP hD hS hA (fun xa9 ce H locs hP hD hS hce hcv hcl => ?_)
  exact xOut hno hlk hce hcv hcl (fun t ht => xEndV hP hD hS t (by rw [ht]; exact Nat.le_refl _) (fun q _ => by rw [ht])) hS.2.2 (Nat.le_of_ble_eq_true rfl) (Nat.le_of_ble_eq_true rfl)
set_option maxHeartbeats 4000000 in
set_option maxRecDepth 100000 in
theorem v_retain_j (l : Launch) (htr : l.stackTraces = false) (D : va_G) (dA : Nat → ClassId) (sz : Nat) (h : Nat) (ad : Nat → Nat) (x : VS) (PS : Nat → PT) (a : Int64) (ho : x.powered = true) (t1 : isTm a = true) (t2 : x.nhor < a) (hps : psOk dA x.nP x.npc x.pl PS) (hpn : x.npc ≤ 32) (h1 : x.nsc ≤ 64) (h7 : ∀ q : Nat, q < x.nsc → x.nsO q < 2 ^ 31) (h0 : x.hsize ≤ x.hN) (h9 : x.hN ≤ 65536) (hc2 : x.jch = false) (hc : x.cutLeft = 0) : mX l ⟨"SeriesVault", "retain", "(J)I"⟩ [Cond.code ⟨"SeriesVault", "retain", "(J)I"⟩ prog_1_method_41_code 4 (some FieldType.int)] { frames := 7, cells := 1, slots := 6, locals := 101 } (pC D dA [.ref h, .long a] (VW dA h ad x) sz) "java/lang/IllegalStateException" (fun st9 t9 => va_F (va_A (VW dA h ad x) sz) st9 t9 ∧ bW D (va_A (VW dA h ad x) sz) (VW dA h ad (VS.s_cutLeft (VS.s_powered x false) (-1))) t9) 1 6 (va_A (VW dA h ad x) sz) := by
  refine mkX (y := ⟨"SeriesVault", "retain", "(J)I"⟩) (cc := prog_1_method_41_code) (maxL := 4) (av := [.ref h, .long a]) (ws := VW dA h ad x) (sz := sz) (B := fun A => (fun st9 t9 => va_F A st9 t9 ∧ bW D A (VW dA h ad (VS.s_cutLeft (VS.s_powered x false) (-1))) t9)) (by decide) (Nat.le_of_ble_eq_true rfl) ?_
  intro A p e s m below meth c ls hsz hno hB
  obtain ⟨hx, hb, hr, hml, hown, hin, hlk, hE, hK, hP, hD, hS, hA, hN, hl⟩ := hB
  have hown : s.vm.findClass "SeriesVault" = some m.cls := hown
  have hl : lv_has ls 4 [(0, .ref h), (1, .long a)] := hl
  obtain ⟨H, hH⟩ : ∃ z, z = s.heap := ⟨_, rfl⟩
  have hP : va_P D vwCl (VW dA h ad x) H := by rw [hH]; exact hP
  have hS : va_S A s.heap H [] := by rw [hH]; exact hS
  rw [← hH]
  refine lv_aload_n hx hb d_V_retain_0 rfl (lv_at hl 0 rfl) ?_
  refine jfV (rnV (As := []) (rest := []) hx hb hml hown hE hK (hN _ _ hS) hP hD (v_checkPower l D dA H.size h ad x ho) (q0 := 0) rfl rfl w278 w276 w279 w280 w277 rfl rfl ⟨⟨by decide, by decide⟩, rfl⟩ ⟨(Nat.le_of_ble_eq_true rfl), (Nat.le_of_ble_eq_true rfl)⟩ rfl hl.1 rfl (Nat.le_of_ble_eq_true rfl) d_V_retain_1 ⟨(Nat.le_of_ble_eq_true rfl), (Nat.le_of_ble_eq_true rfl)⟩) hP hD hS hA (fun u2 H locs hp9 hP hD hS => ?_)
  have hP : va_P D vwCl (VW dA h ad x) H := hP
  have hD : va_D A (VW dA h ad x) := hD
  refine lv_lload_n hx hb d_V_retain_4 rfl (lv_at hl 1 rfl) ?_
  have hPc := hP.sub (ws' := []) [] rfl
  have hDc := hD.sub (ws' := []) [] (by decide) rfl
  refine jpI (rnS (As := [.long a]) (rest := []) hx hb hml hown hE hK (hN _ _ hS) hPc hDc (v_isTime l D dA H.size a) w693 w692 w694 w277 rfl rfl ⟨⟨by decide, by decide⟩, rfl⟩ ⟨(Nat.le_of_ble_eq_true rfl), (Nat.le_of_ble_eq_true rfl)⟩ rfl hl.1 rfl (Nat.le_of_ble_eq_true rfl) d_V_retain_5 ⟨(Nat.le_of_ble_eq_true rfl), (Nat.le_of_ble_eq_true rfl)⟩) hP hD hS hA (fun r3 u9 H locs hp9 hP hD hS => ?_)
  have hP : va_P D vwCl (VW dA h ad x) H := hP
  have hD : va_D A (VW dA h ad x) := hD
  replace hp9 : bI (isTm a) = r3 := Eq.symm hp9
  subst hp9
  refine lv_if_eq hx hb d_V_retain_8 (tgt := 23) rfl (fun h9 => absurd h9 (by rw [t1]; decide)) (fun _ => ?_)
  refine lv_lload_n hx hb d_V_retain_11 rfl (lv_at hl 1 rfl) ?_
  refine lv_aload_n hx hb d_V_retain_12 rfl (lv_at hl 0 rfl) ?_
  refine gF (v := .ref (ad 3)) hx hb hown hE hK hP 0 rfl rfl layV 11 (by decide) w297 rfl d_V_retain_13 ?_
  refine gFN (v := .long x.nhor) hx hb hown hE hK hP 17 rfl rfl layH 7 (by decide) w710 rfl d_V_retain_16 ?_
  refine W.lcmp hx hb d_V_retain_19 ?_
  refine lv_if_ge hx hb d_V_retain_20 (tgt := 31) rfl (fun _ => ?_) (fun h9 => absurd ((lg_cmp_ge _ _).mpr (Int64.le_of_lt t2)) h9)
  refine lv_lload_n hx hb d_V_retain_31 rfl (lv_at hl 1 rfl) ?_
  refine lv_aload_n hx hb d_V_retain_32 rfl (lv_at hl 0 rfl) ?_
  refine gF (v := .ref (ad 3)) hx hb hown hE hK hP 0 rfl rfl layV 11 (by decide) w297 rfl d_V_retain_33 ?_
  refine gFN (v := .long x.nhor) hx hb hown hE hK hP 17 rfl rfl layH 7 (by decide) w710 rfl d_V_retain_36 ?_
  refine W.lcmp hx hb d_V_retain_39 ?_
  refine lv_if_ne hx hb d_V_retain_40 (tgt := 45) rfl (fun _ => ?_) (fun h9 => absurd h9 (mt (lg_cmp_eq _ _).mp (fun z => absurd t2 (by rw [z]; exact fun q => Int64.lt_irrefl q))))
  refine lv_aload_n hx hb d_V_retain_45 rfl (lv_at hl 0 rfl) ?_
  refine gF (v := .ref (ad 3)) hx hb hown hE hK hP 0 rfl rfl layV 11 (by decide) w297 rfl d_V_retain_46 ?_
  refine lv_lload_n hx hb d_V_retain_49 rfl (lv_at hl 1 rfl) ?_
  refine jfI (rnV (As := [.long a]) (rest := []) hx hb hml hown hE hK (hN _ _ hS) hP hD (v_countSeenBelow l D dA H.size h ad x PS a hps (show x.npc ≤ 32 from by omega) (show x.nsc ≤ 64 from by omega) h7) (q0 := 17) rfl rfl w633 w731 w634 w635 w583 rfl rfl ⟨⟨by decide, by decide⟩, rfl⟩ ⟨(Nat.le_of_ble_eq_true rfl), (Nat.le_of_ble_eq_true rfl)⟩ rfl hl.1 rfl (Nat.le_of_ble_eq_true rfl) d_V_retain_50 ⟨(Nat.le_of_ble_eq_true rfl), (Nat.le_of_ble_eq_true rfl)⟩) hP hD hS hA (fun r5 u6 H locs hp9 hP hD hS => ?_)
  have hP : va_P D vwCl (VW dA h ad x) H := hP
  have hD : va_D A (VW dA h ad x) := hD
  replace hp9 : nI (sumN x.npc (x.sbN PS (a - 1))) = r5 := Eq.symm hp9
  subst hp9
  refine lv_aload_n hx hb d_V_retain_53 rfl (lv_at hl 0 rfl) ?_
  refine gF (v := .ref (ad 1)) hx hb hown hE hK hP 0 rfl rfl layV 9 (by decide) w576 rfl d_V_retain_54 ?_
  refine lv_lload_n hx hb d_V_retain_57 rfl (lv_at hl 1 rfl) ?_
  refine jfI (rnV (As := [.long a]) (rest := [.int (nI (sumN x.npc (x.sbN PS (a - 1))))]) hx hb hml hown hE hK (hN _ _ hS) hP hD (v_countBelow l D dA H.size h ad x a (show x.hsize ≤ x.hN from by omega) (show x.hN ≤ 65536 from by omega)) (q0 := 9) rfl rfl w733 w732 w734 w735 w578 rfl rfl ⟨⟨by decide, by decide⟩, rfl⟩ ⟨(Nat.le_of_ble_eq_true rfl), (Nat.le_of_ble_eq_true rfl)⟩ rfl hl.1 rfl (Nat.le_of_ble_eq_true rfl) d_V_retain_58 ⟨(Nat.le_of_ble_eq_true rfl), (Nat.le_of_ble_eq_true rfl)⟩) hP hD hS hA (fun r7 u8 H locs hp9 hP hD hS => ?_)
  have hP : va_P D vwCl (VW dA h ad x) H := hP
  have hD : va_D A (VW dA h ad x) := hD
  replace hp9 : nI (cnt x.hsize (x.hBl a)) = r7 := Eq.symm hp9
  subst hp9
  refine lv_iadd hx hb d_V_retain_61 (tpi (y := nI ((sumN x.npc (x.sbN PS (a - 1))) + (cnt x.hsize (x.hBl a)))) (nI_add (sumN x.npc (x.sbN PS (a - 1))) (cnt x.hsize (x.hBl a))) ?_)
  refine lv_istore_n hx hb d_V_retain_62 rfl hl (by decide) rfl (fun ls hl => ?_)
  have hl : lv_has ls 4 [(3, .int (nI ((sumN x.npc (x.sbN PS (a - 1))) + (cnt x.hsize (x.hBl a))))), (0, .ref h), (1, .long a)] := hl
  refine lv_aload_n hx hb d_V_retain_63 rfl (lv_at hl 1 rfl) ?_
  refine jfI (rnV (As := []) (rest := []) hx hb hml hown hE hK (hN _ _ hS) hP hD (v_writeJournalBlock_0 l D dA H.size h ad x hc2) (q0 := 0) rfl rfl w315 w314 w316 w317 w277 rfl rfl ⟨⟨by decide, by decide⟩, rfl⟩ ⟨(Nat.le_of_ble_eq_true rfl), (Nat.le_of_ble_eq_true rfl)⟩ rfl hl.1 rfl (Nat.le_of_ble_eq_true rfl) d_V_retain_64 ⟨(Nat.le_of_ble_eq_true rfl), (Nat.le_of_ble_eq_true rfl)⟩) hP hD hS hA (fun r9 u10 H locs hp9 hP hD hS => ?_)
  have hP : va_P D vwCl (VW dA h ad x) H := hP
  have hD : va_D A (VW dA h ad x) := hD
  replace hp9 : bI false = r9 := Eq.symm hp9
  subst hp9
  refine lv_pop hx hb d_V_retain_67 rfl ?_
  refine lv_aload_n hx hb d_V_retain_68 rfl (lv_at hl 1 rfl) ?_
  refine xfV (w1 := VW dA h ad (VS.s_cutLeft (VS.s_powered x false) (-1))) (As := []) (rest := []) hx hb hml hown hE hK (hN _ _ hS) (v_writeBlock_x l htr D dA H.size h ad x hc) (q0 := 0) rfl rfl w737 w736 w738 w739 w277 rfl rfl ⟨⟨by decide, by decide⟩, rfl⟩ ⟨(Nat.le_of_ble_eq_true rfl), (Nat.le_of_ble_eq_true rfl)⟩ rfl hl.1 rfl (Nat.le_of_ble_eq_true rfl) d_V_retain_69 ⟨(Nat.le_of_ble_eq_true rfl), (Nat.le_of_ble_eq_true rfl)⟩ hP hD hS hA (fun xa11 ce H locs hP hD hS hce hcv hcl => ?_)
  exact xOut hno hlk hce hcv hcl (fun t ht => xEndV hP hD hS t (by rw [ht]; exact Nat.le_refl _) (fun q _ => by rw [ht])) hS.2.2 (Nat.le_of_ble_eq_true rfl) (Nat.le_of_ble_eq_true rfl)
set_option maxHeartbeats 4000000 in
set_option maxRecDepth 100000 in
theorem v_retain_k (l : Launch) (htr : l.stackTraces = false) (D : va_G) (dA : Nat → ClassId) (sz : Nat) (h : Nat) (ad : Nat → Nat) (x : VS) (PS : Nat → PT) (a : Int64) (ho : x.powered = true) (t1 : isTm a = true) (t2 : x.nhor < a) (hps : psOk dA x.nP x.npc x.pl PS) (hpn : x.npc ≤ 32) (h1 : x.nsc ≤ 64) (h7 : ∀ q : Nat, q < x.nsc → x.nsO q < 2 ^ 31) (h0 : x.hsize ≤ x.hN) (h9 : x.hN ≤ 65536) (hc2 : x.jch = true) (hc : ¬ x.cutLeft = 0) (hc3 : cutF x.cutLeft = 0) : mX l ⟨"SeriesVault", "retain", "(J)I"⟩ [Cond.code ⟨"SeriesVault", "retain", "(J)I"⟩ prog_1_method_41_code 4 (some FieldType.int)] { frames := 7, cells := 1, slots := 6, locals := 101 } (pC D dA [.ref h, .long a] (VW dA h ad x) sz) "java/lang/IllegalStateException" (fun st9 t9 => va_F (va_A (VW dA h ad x) sz) st9 t9 ∧ bW D (va_A (VW dA h ad x) sz) (VW dA h ad (VS.s_jch (VS.s_jkept (VS.s_writes (VS.s_cutLeft (VS.s_powered x false) (-1)) (x.writes + 1)) x.jsize) false)) t9) 1 6 (va_A (VW dA h ad x) sz) := by
  refine mkX (y := ⟨"SeriesVault", "retain", "(J)I"⟩) (cc := prog_1_method_41_code) (maxL := 4) (av := [.ref h, .long a]) (ws := VW dA h ad x) (sz := sz) (B := fun A => (fun st9 t9 => va_F A st9 t9 ∧ bW D A (VW dA h ad (VS.s_jch (VS.s_jkept (VS.s_writes (VS.s_cutLeft (VS.s_powered x false) (-1)) (x.writes + 1)) x.jsize) false)) t9)) (by decide) (Nat.le_of_ble_eq_true rfl) ?_
  intro A p e s m below meth c ls hsz hno hB
  obtain ⟨hx, hb, hr, hml, hown, hin, hlk, hE, hK, hP, hD, hS, hA, hN, hl⟩ := hB
  have hown : s.vm.findClass "SeriesVault" = some m.cls := hown
  have hl : lv_has ls 4 [(0, .ref h), (1, .long a)] := hl
  obtain ⟨H, hH⟩ : ∃ z, z = s.heap := ⟨_, rfl⟩
  have hP : va_P D vwCl (VW dA h ad x) H := by rw [hH]; exact hP
  have hS : va_S A s.heap H [] := by rw [hH]; exact hS
  rw [← hH]
  refine lv_aload_n hx hb d_V_retain_0 rfl (lv_at hl 0 rfl) ?_
  refine jfV (rnV (As := []) (rest := []) hx hb hml hown hE hK (hN _ _ hS) hP hD (v_checkPower l D dA H.size h ad x ho) (q0 := 0) rfl rfl w278 w276 w279 w280 w277 rfl rfl ⟨⟨by decide, by decide⟩, rfl⟩ ⟨(Nat.le_of_ble_eq_true rfl), (Nat.le_of_ble_eq_true rfl)⟩ rfl hl.1 rfl (Nat.le_of_ble_eq_true rfl) d_V_retain_1 ⟨(Nat.le_of_ble_eq_true rfl), (Nat.le_of_ble_eq_true rfl)⟩) hP hD hS hA (fun u2 H locs hp9 hP hD hS => ?_)
  have hP : va_P D vwCl (VW dA h ad x) H := hP
  have hD : va_D A (VW dA h ad x) := hD
  refine lv_lload_n hx hb d_V_retain_4 rfl (lv_at hl 1 rfl) ?_
  have hPc := hP.sub (ws' := []) [] rfl
  have hDc := hD.sub (ws' := []) [] (by decide) rfl
  refine jpI (rnS (As := [.long a]) (rest := []) hx hb hml hown hE hK (hN _ _ hS) hPc hDc (v_isTime l D dA H.size a) w693 w692 w694 w277 rfl rfl ⟨⟨by decide, by decide⟩, rfl⟩ ⟨(Nat.le_of_ble_eq_true rfl), (Nat.le_of_ble_eq_true rfl)⟩ rfl hl.1 rfl (Nat.le_of_ble_eq_true rfl) d_V_retain_5 ⟨(Nat.le_of_ble_eq_true rfl), (Nat.le_of_ble_eq_true rfl)⟩) hP hD hS hA (fun r3 u9 H locs hp9 hP hD hS => ?_)
  have hP : va_P D vwCl (VW dA h ad x) H := hP
  have hD : va_D A (VW dA h ad x) := hD
  replace hp9 : bI (isTm a) = r3 := Eq.symm hp9
  subst hp9
  refine lv_if_eq hx hb d_V_retain_8 (tgt := 23) rfl (fun h9 => absurd h9 (by rw [t1]; decide)) (fun _ => ?_)
  refine lv_lload_n hx hb d_V_retain_11 rfl (lv_at hl 1 rfl) ?_
  refine lv_aload_n hx hb d_V_retain_12 rfl (lv_at hl 0 rfl) ?_
  refine gF (v := .ref (ad 3)) hx hb hown hE hK hP 0 rfl rfl layV 11 (by decide) w297 rfl d_V_retain_13 ?_
  refine gFN (v := .long x.nhor) hx hb hown hE hK hP 17 rfl rfl layH 7 (by decide) w710 rfl d_V_retain_16 ?_
  refine W.lcmp hx hb d_V_retain_19 ?_
  refine lv_if_ge hx hb d_V_retain_20 (tgt := 31) rfl (fun _ => ?_) (fun h9 => absurd ((lg_cmp_ge _ _).mpr (Int64.le_of_lt t2)) h9)
  refine lv_lload_n hx hb d_V_retain_31 rfl (lv_at hl 1 rfl) ?_
  refine lv_aload_n hx hb d_V_retain_32 rfl (lv_at hl 0 rfl) ?_
  refine gF (v := .ref (ad 3)) hx hb hown hE hK hP 0 rfl rfl layV 11 (by decide) w297 rfl d_V_retain_33 ?_
  refine gFN (v := .long x.nhor) hx hb hown hE hK hP 17 rfl rfl layH 7 (by decide) w710 rfl d_V_retain_36 ?_
  refine W.lcmp hx hb d_V_retain_39 ?_
  refine lv_if_ne hx hb d_V_retain_40 (tgt := 45) rfl (fun _ => ?_) (fun h9 => absurd h9 (mt (lg_cmp_eq _ _).mp (fun z => absurd t2 (by rw [z]; exact fun q => Int64.lt_irrefl q))))
  refine lv_aload_n hx hb d_V_retain_45 rfl (lv_at hl 0 rfl) ?_
  refine gF (v := .ref (ad 3)) hx hb hown hE hK hP 0 rfl rfl layV 11 (by decide) w297 rfl d_V_retain_46 ?_
  refine lv_lload_n hx hb d_V_retain_49 rfl (lv_at hl 1 rfl) ?_
  refine jfI (rnV (As := [.long a]) (rest := []) hx hb hml hown hE hK (hN _ _ hS) hP hD (v_countSeenBelow l D dA H.size h ad x PS a hps (show x.npc ≤ 32 from by omega) (show x.nsc ≤ 64 from by omega) h7) (q0 := 17) rfl rfl w633 w731 w634 w635 w583 rfl rfl ⟨⟨by decide, by decide⟩, rfl⟩ ⟨(Nat.le_of_ble_eq_true rfl), (Nat.le_of_ble_eq_true rfl)⟩ rfl hl.1 rfl (Nat.le_of_ble_eq_true rfl) d_V_retain_50 ⟨(Nat.le_of_ble_eq_true rfl), (Nat.le_of_ble_eq_true rfl)⟩) hP hD hS hA (fun r5 u6 H locs hp9 hP hD hS => ?_)
  have hP : va_P D vwCl (VW dA h ad x) H := hP
  have hD : va_D A (VW dA h ad x) := hD
  replace hp9 : nI (sumN x.npc (x.sbN PS (a - 1))) = r5 := Eq.symm hp9
  subst hp9
  refine lv_aload_n hx hb d_V_retain_53 rfl (lv_at hl 0 rfl) ?_
  refine gF (v := .ref (ad 1)) hx hb hown hE hK hP 0 rfl rfl layV 9 (by decide) w576 rfl d_V_retain_54 ?_
  refine lv_lload_n hx hb d_V_retain_57 rfl (lv_at hl 1 rfl) ?_
  refine jfI (rnV (As := [.long a]) (rest := [.int (nI (sumN x.npc (x.sbN PS (a - 1))))]) hx hb hml hown hE hK (hN _ _ hS) hP hD (v_countBelow l D dA H.size h ad x a (show x.hsize ≤ x.hN from by omega) (show x.hN ≤ 65536 from by omega)) (q0 := 9) rfl rfl w733 w732 w734 w735 w578 rfl rfl ⟨⟨by decide, by decide⟩, rfl⟩ ⟨(Nat.le_of_ble_eq_true rfl), (Nat.le_of_ble_eq_true rfl)⟩ rfl hl.1 rfl (Nat.le_of_ble_eq_true rfl) d_V_retain_58 ⟨(Nat.le_of_ble_eq_true rfl), (Nat.le_of_ble_eq_true rfl)⟩) hP hD hS hA (fun r7 u8 H locs hp9 hP hD hS => ?_)
  have hP : va_P D vwCl (VW dA h ad x) H := hP
  have hD : va_D A (VW dA h ad x) := hD
  replace hp9 : nI (cnt x.hsize (x.hBl a)) = r7 := Eq.symm hp9
  subst hp9
  refine lv_iadd hx hb d_V_retain_61 (tpi (y := nI ((sumN x.npc (x.sbN PS (a - 1))) + (cnt x.hsize (x.hBl a)))) (nI_add (sumN x.npc (x.sbN PS (a - 1))) (cnt x.hsize (x.hBl a))) ?_)
  refine lv_istore_n hx hb d_V_retain_62 rfl hl (by decide) rfl (fun ls hl => ?_)
  have hl : lv_has ls 4 [(3, .int (nI ((sumN x.npc (x.sbN PS (a - 1))) + (cnt x.hsize (x.hBl a))))), (0, .ref h), (1, .long a)] := hl
  refine lv_aload_n hx hb d_V_retain_63 rfl (lv_at hl 1 rfl) ?_
  refine jfI (rnV (As := []) (rest := []) hx hb hml hown hE hK (hN _ _ hS) hP hD (v_writeJournalBlock_1 l D dA H.size h ad x hc2 hc) (q0 := 0) rfl rfl w315 w314 w316 w317 w277 rfl rfl ⟨⟨by decide, by decide⟩, rfl⟩ ⟨(Nat.le_of_ble_eq_true rfl), (Nat.le_of_ble_eq_true rfl)⟩ rfl hl.1 rfl (Nat.le_of_ble_eq_true rfl) d_V_retain_64 ⟨(Nat.le_of_ble_eq_true rfl), (Nat.le_of_ble_eq_true rfl)⟩) hP hD hS hA (fun r9 u10 H locs hp9 hP hD hS => ?_)
  have hP : va_P D vwCl (VW dA h ad (VS.s_jch (VS.s_jkept (VS.s_writes (VS.s_cutLeft x (cutF x.cutLeft)) (x.writes + 1)) x.jsize) false)) H := hP
  have hD : va_D A (VW dA h ad (VS.s_jch (VS.s_jkept (VS.s_writes (VS.s_cutLeft x (cutF x.cutLeft)) (x.writes + 1)) x.jsize) false)) := hD
  replace hp9 : bI true = r9 := Eq.symm hp9
  subst hp9
  refine lv_pop hx hb d_V_retain_67 rfl ?_
  refine lv_aload_n hx hb d_V_retain_68 rfl (lv_at hl 1 rfl) ?_
  refine xfV (w1 := VW dA h ad (VS.s_jch (VS.s_jkept (VS.s_writes (VS.s_cutLeft (VS.s_powered x false) (-1)) (x.writes + 1)) x.jsize) false)) (As := []) (rest := []) hx hb hml hown hE hK (hN _ _ hS) (v_writeBlock_x l htr D dA H.size h ad (VS.s_jch (VS.s_jkept (VS.s_writes (VS.s_cutLeft x (cutF x.cutLeft)) (x.writes + 1)) x.jsize) false) hc3) (q0 := 0) rfl rfl w737 w736 w738 w739 w277 rfl rfl ⟨⟨by decide, by decide⟩, rfl⟩ ⟨(Nat.le_of_ble_eq_true rfl), (Nat.le_of_ble_eq_true rfl)⟩ rfl hl.1 rfl (Nat.le_of_ble_eq_true rfl) d_V_retain_69 ⟨(Nat.le_of_ble_eq_true rfl), (Nat.le_of_ble_eq_true rfl)⟩ hP hD hS hA (fun xa11 ce H locs hP hD hS hce hcv hcl => ?_)
  exact xOut hno hlk hce hcv hcl (fun t ht => xEndV hP hD hS t (by rw [ht]; exact Nat.le_refl _) (fun q _ => by rw [ht])) hS.2.2 (Nat.le_of_ble_eq_true rfl) (Nat.le_of_ble_eq_true rfl)
def VS.mhS (x : VS) (PS : Nat → PT) (a : Int64) : VS := VS.s_nhor (VS.s_npc (VS.s_nP (VS.s_hsize (VS.s_hV (VS.s_hT (VS.s_hO x (tdT (x.hAb a) x.hO x.hsize)) (tdT (x.hAb a) x.hT x.hsize)) (tdT (x.hAb a) x.hV x.hsize)) (cnt x.hsize (x.hAb a))) (tdT (mhC PS a) x.nP x.npc)) (cnt x.npc (mhC PS a))) a
def VS.kmS (x : VS) (PS : Nat → PT) : VS := VS.s_shor (VS.s_ssc (VS.s_ssT (VS.s_ssF (VS.s_ssO (VS.s_spc (VS.s_sP (VS.s_nsc (VS.s_nsP (VS.s_nsT (VS.s_nsF (VS.s_nsO x (tdT (x.esC PS) x.nsO x.nsc)) (tdT (x.esC PS) x.nsF x.nsc)) (tdT (x.esC PS) x.nsT x.nsc)) (x.esG PS)) (cnt x.nsc (x.esC PS))) (va_cpy x.nP x.sP 0 0 x.npc)) x.npc) (va_cpy (tdT (x.esC PS) x.nsO x.nsc) x.ssO 0 0 (cnt x.nsc (x.esC PS)))) (va_cpy (tdT (x.esC PS) x.nsF x.nsc) x.ssF 0 0 (cnt x.nsc (x.esC PS)))) (va_cpy (tdT (x.esC PS) x.nsT x.nsc) x.ssT 0 0 (cnt x.nsc (x.esC PS)))) (cnt x.nsc (x.esC PS))) x.nhor
def VS.wb1 (x : VS) : VS := VS.s_writes (VS.s_cutLeft x (cutF x.cutLeft)) (x.writes + 1)
theorem ps_td {dA : Nat → ClassId} {nP : Nat → Option Nat} {pl : va_W} {PS : Nat → PT} (c : Nat → Bool) : ∀ {n : Nat}, psOk dA nP n pl PS → psOk dA (tdT c nP n) (cnt n c) pl (tdT c PS n)
  | 0, _ => fun k hk => absurd hk (Nat.not_lt_zero k)
  | n + 1, h => by
    have ih := ps_td c (n := n) (fun k hk => h k (by omega))
    intro k hk
    cases hc : c n with
    | false => rw [cnt_f hc] at hk; rw [tdT_f hc, tdT_f hc]; exact ih k hk
    | true =>
      rw [cnt_t hc] at hk
      rw [tdT_t hc rfl, tdT_t hc rfl]
      by_cases e : k = cnt n c
      · subst e
        rw [va_up_self, va_up_self]
        exact h n (by omega)
      · rw [va_up_ne _ _ e, va_up_ne _ _ e]
        exact ih k (by omega)
set_option maxHeartbeats 4000000 in
set_option maxRecDepth 100000 in
theorem v_retain_1 (l : Launch) (D : va_G) (dA : Nat → ClassId) (sz : Nat) (h : Nat) (ad : Nat → Nat) (x : VS) (PS : Nat → PT) (a : Int64) (ho : x.powered = true) (t1 : isTm a = true) (t2 : x.nhor < a) (hps : psOk dA x.nP x.npc x.pl PS) (hpn : x.npc ≤ 32) (h1 : x.nsc ≤ 64) (h7 : ∀ q : Nat, q < x.nsc → x.nsO q < 2 ^ 31) (h0 : x.hsize ≤ x.hN) (h9 : x.hN ≤ 65536) (hw : x.jch = false ∨ ¬ x.cutLeft = 0) (hc4 : ¬ x.wjS.cutLeft = 0) : Met l ⟨"SeriesVault", "retain", "(J)I"⟩ [Cond.code ⟨"SeriesVault", "retain", "(J)I"⟩ prog_1_method_41_code 4 (some FieldType.int)] { frames := 5, cells := 0, slots := 0, locals := 95 } (pC D dA [.ref h, .long a] (VW dA h ad x) sz) (va_Qi (fun (r9 : Int32) (u9 : VS) => r9 = nI (sumN x.npc (x.sbN PS (a - 1)) + cnt x.hsize (x.hBl a)) ∧ u9 = ((x.wjS.wb1).mhS PS a).kmS (tdT (mhC PS a) PS x.npc)) (fun (u9 : VS) t9 => bW D (va_A (VW dA h ad x) sz) (VW dA h ad u9) t9) (va_A (VW dA h ad x) sz)) 0 0 (va_A (VW dA h ad x) sz) := by
  refine mkC (y := ⟨"SeriesVault", "retain", "(J)I"⟩) (cc := prog_1_method_41_code) (maxL := 4) (av := [.ref h, .long a]) (ws := VW dA h ad x) (sz := sz) (Qc := fun A => va_Qi (fun (r9 : Int32) (u9 : VS) => r9 = nI (sumN x.npc (x.sbN PS (a - 1)) + cnt x.hsize (x.hBl a)) ∧ u9 = ((x.wjS.wb1).mhS PS a).kmS (tdT (mhC PS a) PS x.npc)) (fun (u9 : VS) t9 => bW D A (VW dA h ad u9) t9) A) (by decide) (Nat.le_of_ble_eq_true rfl) ?_
  intro A p e s m below meth c ls hsz hB
  obtain ⟨hx, hb, hr, hml, hown, hin, hlk, hE, hK, hP, hD, hS, hA, hN, hl⟩ := hB
  have hown : s.vm.findClass "SeriesVault" = some m.cls := hown
  have hl : lv_has ls 4 [(0, .ref h), (1, .long a)] := hl
  obtain ⟨H, hH⟩ : ∃ z, z = s.heap := ⟨_, rfl⟩
  have hP : va_P D vwCl (VW dA h ad x) H := by rw [hH]; exact hP
  have hS : va_S A s.heap H [] := by rw [hH]; exact hS
  rw [← hH]
  refine lv_aload_n hx hb d_V_retain_0 rfl (lv_at hl 0 rfl) ?_
  refine jfV (rnV (As := []) (rest := []) hx hb hml hown hE hK (hN _ _ hS) hP hD (v_checkPower l D dA H.size h ad x ho) (q0 := 0) rfl rfl w278 w276 w279 w280 w277 rfl rfl ⟨⟨by decide, by decide⟩, rfl⟩ ⟨(Nat.le_of_ble_eq_true rfl), (Nat.le_of_ble_eq_true rfl)⟩ rfl hl.1 rfl (Nat.le_of_ble_eq_true rfl) d_V_retain_1 ⟨(Nat.le_of_ble_eq_true rfl), (Nat.le_of_ble_eq_true rfl)⟩) hP hD hS hA (fun u2 H locs hp9 hP hD hS => ?_)
  have hP : va_P D vwCl (VW dA h ad x) H := hP
  have hD : va_D A (VW dA h ad x) := hD
  refine lv_lload_n hx hb d_V_retain_4 rfl (lv_at hl 1 rfl) ?_
  have hPc := hP.sub (ws' := []) [] rfl
  have hDc := hD.sub (ws' := []) [] (by decide) rfl
  refine jpI (rnS (As := [.long a]) (rest := []) hx hb hml hown hE hK (hN _ _ hS) hPc hDc (v_isTime l D dA H.size a) w693 w692 w694 w277 rfl rfl ⟨⟨by decide, by decide⟩, rfl⟩ ⟨(Nat.le_of_ble_eq_true rfl), (Nat.le_of_ble_eq_true rfl)⟩ rfl hl.1 rfl (Nat.le_of_ble_eq_true rfl) d_V_retain_5 ⟨(Nat.le_of_ble_eq_true rfl), (Nat.le_of_ble_eq_true rfl)⟩) hP hD hS hA (fun r3 u9 H locs hp9 hP hD hS => ?_)
  have hP : va_P D vwCl (VW dA h ad x) H := hP
  have hD : va_D A (VW dA h ad x) := hD
  replace hp9 : bI (isTm a) = r3 := Eq.symm hp9
  subst hp9
  refine lv_if_eq hx hb d_V_retain_8 (tgt := 23) rfl (fun h9 => absurd h9 (by rw [t1]; decide)) (fun _ => ?_)
  refine lv_lload_n hx hb d_V_retain_11 rfl (lv_at hl 1 rfl) ?_
  refine lv_aload_n hx hb d_V_retain_12 rfl (lv_at hl 0 rfl) ?_
  refine gF (v := .ref (ad 3)) hx hb hown hE hK hP 0 rfl rfl layV 11 (by decide) w297 rfl d_V_retain_13 ?_
  refine gFN (v := .long x.nhor) hx hb hown hE hK hP 17 rfl rfl layH 7 (by decide) w710 rfl d_V_retain_16 ?_
  refine W.lcmp hx hb d_V_retain_19 ?_
  refine lv_if_ge hx hb d_V_retain_20 (tgt := 31) rfl (fun _ => ?_) (fun h9 => absurd ((lg_cmp_ge _ _).mpr (Int64.le_of_lt t2)) h9)
  refine lv_lload_n hx hb d_V_retain_31 rfl (lv_at hl 1 rfl) ?_
  refine lv_aload_n hx hb d_V_retain_32 rfl (lv_at hl 0 rfl) ?_
  refine gF (v := .ref (ad 3)) hx hb hown hE hK hP 0 rfl rfl layV 11 (by decide) w297 rfl d_V_retain_33 ?_
  refine gFN (v := .long x.nhor) hx hb hown hE hK hP 17 rfl rfl layH 7 (by decide) w710 rfl d_V_retain_36 ?_
  refine W.lcmp hx hb d_V_retain_39 ?_
  refine lv_if_ne hx hb d_V_retain_40 (tgt := 45) rfl (fun _ => ?_) (fun h9 => absurd h9 (mt (lg_cmp_eq _ _).mp (fun z => absurd t2 (by rw [z]; exact fun q => Int64.lt_irrefl q))))
  refine lv_aload_n hx hb d_V_retain_45 rfl (lv_at hl 0 rfl) ?_
  refine gF (v := .ref (ad 3)) hx hb hown hE hK hP 0 rfl rfl layV 11 (by decide) w297 rfl d_V_retain_46 ?_
  refine lv_lload_n hx hb d_V_retain_49 rfl (lv_at hl 1 rfl) ?_
  refine jfI (rnV (As := [.long a]) (rest := []) hx hb hml hown hE hK (hN _ _ hS) hP hD (v_countSeenBelow l D dA H.size h ad x PS a hps (show x.npc ≤ 32 from by omega) (show x.nsc ≤ 64 from by omega) h7) (q0 := 17) rfl rfl w633 w731 w634 w635 w583 rfl rfl ⟨⟨by decide, by decide⟩, rfl⟩ ⟨(Nat.le_of_ble_eq_true rfl), (Nat.le_of_ble_eq_true rfl)⟩ rfl hl.1 rfl (Nat.le_of_ble_eq_true rfl) d_V_retain_50 ⟨(Nat.le_of_ble_eq_true rfl), (Nat.le_of_ble_eq_true rfl)⟩) hP hD hS hA (fun r5 u6 H locs hp9 hP hD hS => ?_)
  have hP : va_P D vwCl (VW dA h ad x) H := hP
  have hD : va_D A (VW dA h ad x) := hD
  replace hp9 : nI (sumN x.npc (x.sbN PS (a - 1))) = r5 := Eq.symm hp9
  subst hp9
  refine lv_aload_n hx hb d_V_retain_53 rfl (lv_at hl 0 rfl) ?_
  refine gF (v := .ref (ad 1)) hx hb hown hE hK hP 0 rfl rfl layV 9 (by decide) w576 rfl d_V_retain_54 ?_
  refine lv_lload_n hx hb d_V_retain_57 rfl (lv_at hl 1 rfl) ?_
  refine jfI (rnV (As := [.long a]) (rest := [.int (nI (sumN x.npc (x.sbN PS (a - 1))))]) hx hb hml hown hE hK (hN _ _ hS) hP hD (v_countBelow l D dA H.size h ad x a (show x.hsize ≤ x.hN from by omega) (show x.hN ≤ 65536 from by omega)) (q0 := 9) rfl rfl w733 w732 w734 w735 w578 rfl rfl ⟨⟨by decide, by decide⟩, rfl⟩ ⟨(Nat.le_of_ble_eq_true rfl), (Nat.le_of_ble_eq_true rfl)⟩ rfl hl.1 rfl (Nat.le_of_ble_eq_true rfl) d_V_retain_58 ⟨(Nat.le_of_ble_eq_true rfl), (Nat.le_of_ble_eq_true rfl)⟩) hP hD hS hA (fun r7 u8 H locs hp9 hP hD hS => ?_)
  have hP : va_P D vwCl (VW dA h ad x) H := hP
  have hD : va_D A (VW dA h ad x) := hD
  replace hp9 : nI (cnt x.hsize (x.hBl a)) = r7 := Eq.symm hp9
  subst hp9
  refine lv_iadd hx hb d_V_retain_61 (tpi (y := nI ((sumN x.npc (x.sbN PS (a - 1))) + (cnt x.hsize (x.hBl a)))) (nI_add (sumN x.npc (x.sbN PS (a - 1))) (cnt x.hsize (x.hBl a))) ?_)
  refine lv_istore_n hx hb d_V_retain_62 rfl hl (by decide) rfl (fun ls hl => ?_)
  have hl : lv_has ls 4 [(3, .int (nI ((sumN x.npc (x.sbN PS (a - 1))) + (cnt x.hsize (x.hBl a))))), (0, .ref h), (1, .long a)] := hl
  refine lv_aload_n hx hb d_V_retain_63 rfl (lv_at hl 1 rfl) ?_
  refine jfI (rnV (As := []) (rest := []) hx hb hml hown hE hK (hN _ _ hS) hP hD (v_wjb l D dA H.size h ad x hw) (q0 := 0) rfl rfl w315 w314 w316 w317 w277 rfl rfl ⟨⟨by decide, by decide⟩, rfl⟩ ⟨(Nat.le_of_ble_eq_true rfl), (Nat.le_of_ble_eq_true rfl)⟩ rfl hl.1 rfl (Nat.le_of_ble_eq_true rfl) d_V_retain_64 ⟨(Nat.le_of_ble_eq_true rfl), (Nat.le_of_ble_eq_true rfl)⟩) hP hD hS hA (fun r9 u10 H locs hp9 hP hD hS => ?_)
  obtain ⟨y11, h9u⟩ : ∃ z9, z9 = u10 := ⟨_, rfl⟩
  subst h9u
  have hP : va_P D vwCl (VW dA h ad y11) H := hP
  have hD : va_D A (VW dA h ad y11) := hD
  obtain ⟨hp9, f_e_12⟩ := hp9
  replace hp9 : bI x.jch = r9 := Eq.symm hp9
  subst hp9
  refine lv_pop hx hb d_V_retain_67 rfl ?_
  have hwj := f_e_12
  have hjk : y11 = x.jkS y11 := by rw [hwj]; exact wjS_jk x
  have q_nP : y11.nP = x.nP := (congrArg VS.nP hjk).trans (rfl : (x.jkS y11).nP = x.nP)
  have q_npc : y11.npc = x.npc := (congrArg VS.npc hjk).trans (rfl : (x.jkS y11).npc = x.npc)
  have q_pl : y11.pl = x.pl := (congrArg VS.pl hjk).trans (rfl : (x.jkS y11).pl = x.pl)
  have q_nsc : y11.nsc = x.nsc := (congrArg VS.nsc hjk).trans (rfl : (x.jkS y11).nsc = x.nsc)
  have q_nsO : y11.nsO = x.nsO := (congrArg VS.nsO hjk).trans (rfl : (x.jkS y11).nsO = x.nsO)
  have q_hsize : y11.hsize = x.hsize := (congrArg VS.hsize hjk).trans (rfl : (x.jkS y11).hsize = x.hsize)
  have q_hN : y11.hN = x.hN := (congrArg VS.hN hjk).trans (rfl : (x.jkS y11).hN = x.hN)
  have q_hO : y11.hO = x.hO := (congrArg VS.hO hjk).trans (rfl : (x.jkS y11).hO = x.hO)
  have q_hT : y11.hT = x.hT := (congrArg VS.hT hjk).trans (rfl : (x.jkS y11).hT = x.hT)
  refine lv_aload_n hx hb d_V_retain_68 rfl (lv_at hl 1 rfl) ?_
  refine jfV (rnV (As := []) (rest := []) hx hb hml hown hE hK (hN _ _ hS) hP hD (v_writeBlock l D dA H.size h ad y11 (by rw [hwj]; exact hc4)) (q0 := 0) rfl rfl w737 w736 w738 w739 w277 rfl rfl ⟨⟨by decide, by decide⟩, rfl⟩ ⟨(Nat.le_of_ble_eq_true rfl), (Nat.le_of_ble_eq_true rfl)⟩ rfl hl.1 rfl (Nat.le_of_ble_eq_true rfl) d_V_retain_69 ⟨(Nat.le_of_ble_eq_true rfl), (Nat.le_of_ble_eq_true rfl)⟩) hP hD hS hA (fun u14 H locs hp9 hP hD hS => ?_)
  have hP : va_P D vwCl (VW dA h ad (VS.s_writes (VS.s_cutLeft y11 (cutF y11.cutLeft)) (y11.writes + 1))) H := hP
  have hD : va_D A (VW dA h ad (VS.s_writes (VS.s_cutLeft y11 (cutF y11.cutLeft)) (y11.writes + 1))) := hD
  refine lv_aload_n hx hb d_V_retain_72 rfl (lv_at hl 1 rfl) ?_
  refine gF (v := .ref (ad 3)) hx hb hown hE hK hP 0 rfl rfl layV 11 (by decide) w297 rfl d_V_retain_73 ?_
  refine lv_lload_n hx hb d_V_retain_76 rfl (lv_at hl 2 rfl) ?_
  refine jfV (rnV (As := [.long a]) (rest := []) hx hb hml hown hE hK (hN _ _ hS) hP hD (v_moveHorizon l D dA H.size h ad (VS.s_writes (VS.s_cutLeft y11 (cutF y11.cutLeft)) (y11.writes + 1)) PS a (by rw [q_nP, q_npc, q_pl]; exact hps) (by rw [q_npc]; exact hpn)) (q0 := 17) rfl rfl w741 w740 w742 w743 w583 rfl rfl ⟨⟨by decide, by decide⟩, rfl⟩ ⟨(Nat.le_of_ble_eq_true rfl), (Nat.le_of_ble_eq_true rfl)⟩ rfl hl.1 rfl (Nat.le_of_ble_eq_true rfl) d_V_retain_77 ⟨(Nat.le_of_ble_eq_true rfl), (Nat.le_of_ble_eq_true rfl)⟩) hP hD hS hA (fun u16 H locs hp9 hP hD hS => ?_)
  have hP : va_P D vwCl (VW dA h ad (VS.s_nhor (VS.s_npc (VS.s_nP (VS.s_writes (VS.s_cutLeft y11 (cutF y11.cutLeft)) (y11.writes + 1)) (tdT (mhC PS a) y11.nP y11.npc)) (cnt y11.npc (mhC PS a))) a)) H := hP
  have hD : va_D A (VW dA h ad (VS.s_nhor (VS.s_npc (VS.s_nP (VS.s_writes (VS.s_cutLeft y11 (cutF y11.cutLeft)) (y11.writes + 1)) (tdT (mhC PS a) y11.nP y11.npc)) (cnt y11.npc (mhC PS a))) a)) := hD
  refine lv_aload_n hx hb d_V_retain_80 rfl (lv_at hl 1 rfl) ?_
  refine gF (v := .ref (ad 1)) hx hb hown hE hK hP 0 rfl rfl layV 9 (by decide) w576 rfl d_V_retain_81 ?_
  refine lv_lload_n hx hb d_V_retain_84 rfl (lv_at hl 2 rfl) ?_
  refine jfV (rnV (As := [.long a]) (rest := []) hx hb hml hown hE hK (hN _ _ hS) hP hD (v_dropBelow l D dA H.size h ad (VS.s_nhor (VS.s_npc (VS.s_nP (VS.s_writes (VS.s_cutLeft y11 (cutF y11.cutLeft)) (y11.writes + 1)) (tdT (mhC PS a) y11.nP y11.npc)) (cnt y11.npc (mhC PS a))) a) a (by rw [q_hsize, q_hN]; exact h0) (by rw [q_hN]; exact h9)) (q0 := 9) rfl rfl w745 w744 w746 w747 w578 rfl rfl ⟨⟨by decide, by decide⟩, rfl⟩ ⟨(Nat.le_of_ble_eq_true rfl), (Nat.le_of_ble_eq_true rfl)⟩ rfl hl.1 rfl (Nat.le_of_ble_eq_true rfl) d_V_retain_85 ⟨(Nat.le_of_ble_eq_true rfl), (Nat.le_of_ble_eq_true rfl)⟩) hP hD hS hA (fun u18 H locs hp9 hP hD hS => ?_)
  have hP : va_P D vwCl (VW dA h ad (VS.s_nhor (VS.s_npc (VS.s_nP (VS.s_hsize (VS.s_hV (VS.s_hT (VS.s_hO (VS.s_writes (VS.s_cutLeft y11 (cutF y11.cutLeft)) (y11.writes + 1)) (tdT (y11.hAb a) y11.hO y11.hsize)) (tdT (y11.hAb a) y11.hT y11.hsize)) (tdT (y11.hAb a) y11.hV y11.hsize)) (cnt y11.hsize (y11.hAb a))) (tdT (mhC PS a) y11.nP y11.npc)) (cnt y11.npc (mhC PS a))) a)) H := hP
  have hD : va_D A (VW dA h ad (VS.s_nhor (VS.s_npc (VS.s_nP (VS.s_hsize (VS.s_hV (VS.s_hT (VS.s_hO (VS.s_writes (VS.s_cutLeft y11 (cutF y11.cutLeft)) (y11.writes + 1)) (tdT (y11.hAb a) y11.hO y11.hsize)) (tdT (y11.hAb a) y11.hT y11.hsize)) (tdT (y11.hAb a) y11.hV y11.hsize)) (cnt y11.hsize (y11.hAb a))) (tdT (mhC PS a) y11.nP y11.npc)) (cnt y11.npc (mhC PS a))) a)) := hD
  refine lv_aload_n hx hb d_V_retain_88 rfl (lv_at hl 1 rfl) ?_
  refine jfV (rnV (As := []) (rest := []) hx hb hml hown hE hK (hN _ _ hS) hP hD (v_keepManifest l D dA H.size h ad (VS.s_nhor (VS.s_npc (VS.s_nP (VS.s_hsize (VS.s_hV (VS.s_hT (VS.s_hO (VS.s_writes (VS.s_cutLeft y11 (cutF y11.cutLeft)) (y11.writes + 1)) (tdT (y11.hAb a) y11.hO y11.hsize)) (tdT (y11.hAb a) y11.hT y11.hsize)) (tdT (y11.hAb a) y11.hV y11.hsize)) (cnt y11.hsize (y11.hAb a))) (tdT (mhC PS a) y11.nP y11.npc)) (cnt y11.npc (mhC PS a))) a) (tdT (mhC PS a) PS x.npc) (by rw [q_nP, q_npc, q_pl]; exact ps_td _ hps) (by rw [q_npc]; exact Nat.le_trans (cnt_le _ _) hpn) (by rw [q_nsc]; exact h1) (by rw [q_nsc, q_nsO]; exact h7)) (q0 := 0) rfl rfl w749 w748 w750 w751 w277 rfl rfl ⟨⟨by decide, by decide⟩, rfl⟩ ⟨(Nat.le_of_ble_eq_true rfl), (Nat.le_of_ble_eq_true rfl)⟩ rfl hl.1 rfl (Nat.le_of_ble_eq_true rfl) d_V_retain_89 ⟨(Nat.le_of_ble_eq_true rfl), (Nat.le_of_ble_eq_true rfl)⟩) hP hD hS hA (fun u20 H locs hp9 hP hD hS => ?_)
  have hP : va_P D vwCl (VW dA h ad (VS.s_shor (VS.s_ssc (VS.s_ssT (VS.s_ssF (VS.s_ssO (VS.s_spc (VS.s_sP (VS.s_nhor (VS.s_nsc (VS.s_nsP (VS.s_nsT (VS.s_nsF (VS.s_nsO (VS.s_npc (VS.s_nP (VS.s_hsize (VS.s_hV (VS.s_hT (VS.s_hO (VS.s_writes (VS.s_cutLeft y11 (cutF y11.cutLeft)) (y11.writes + 1)) (tdT (y11.hAb a) y11.hO y11.hsize)) (tdT (y11.hAb a) y11.hT y11.hsize)) (tdT (y11.hAb a) y11.hV y11.hsize)) (cnt y11.hsize (y11.hAb a))) (tdT (mhC PS a) y11.nP y11.npc)) (cnt y11.npc (mhC PS a))) (tdT ((VS.s_nhor (VS.s_npc (VS.s_nP (VS.s_hsize (VS.s_hV (VS.s_hT (VS.s_hO (VS.s_writes (VS.s_cutLeft y11 (cutF y11.cutLeft)) (y11.writes + 1)) (tdT (y11.hAb a) y11.hO y11.hsize)) (tdT (y11.hAb a) y11.hT y11.hsize)) (tdT (y11.hAb a) y11.hV y11.hsize)) (cnt y11.hsize (y11.hAb a))) (tdT (mhC PS a) y11.nP y11.npc)) (cnt y11.npc (mhC PS a))) a).esC (tdT (mhC PS a) PS x.npc)) y11.nsO y11.nsc)) (tdT ((VS.s_nhor (VS.s_npc (VS.s_nP (VS.s_hsize (VS.s_hV (VS.s_hT (VS.s_hO (VS.s_writes (VS.s_cutLeft y11 (cutF y11.cutLeft)) (y11.writes + 1)) (tdT (y11.hAb a) y11.hO y11.hsize)) (tdT (y11.hAb a) y11.hT y11.hsize)) (tdT (y11.hAb a) y11.hV y11.hsize)) (cnt y11.hsize (y11.hAb a))) (tdT (mhC PS a) y11.nP y11.npc)) (cnt y11.npc (mhC PS a))) a).esC (tdT (mhC PS a) PS x.npc)) y11.nsF y11.nsc)) (tdT ((VS.s_nhor (VS.s_npc (VS.s_nP (VS.s_hsize (VS.s_hV (VS.s_hT (VS.s_hO (VS.s_writes (VS.s_cutLeft y11 (cutF y11.cutLeft)) (y11.writes + 1)) (tdT (y11.hAb a) y11.hO y11.hsize)) (tdT (y11.hAb a) y11.hT y11.hsize)) (tdT (y11.hAb a) y11.hV y11.hsize)) (cnt y11.hsize (y11.hAb a))) (tdT (mhC PS a) y11.nP y11.npc)) (cnt y11.npc (mhC PS a))) a).esC (tdT (mhC PS a) PS x.npc)) y11.nsT y11.nsc)) ((VS.s_nhor (VS.s_npc (VS.s_nP (VS.s_hsize (VS.s_hV (VS.s_hT (VS.s_hO (VS.s_writes (VS.s_cutLeft y11 (cutF y11.cutLeft)) (y11.writes + 1)) (tdT (y11.hAb a) y11.hO y11.hsize)) (tdT (y11.hAb a) y11.hT y11.hsize)) (tdT (y11.hAb a) y11.hV y11.hsize)) (cnt y11.hsize (y11.hAb a))) (tdT (mhC PS a) y11.nP y11.npc)) (cnt y11.npc (mhC PS a))) a).esG (tdT (mhC PS a) PS x.npc))) (cnt y11.nsc ((VS.s_nhor (VS.s_npc (VS.s_nP (VS.s_hsize (VS.s_hV (VS.s_hT (VS.s_hO (VS.s_writes (VS.s_cutLeft y11 (cutF y11.cutLeft)) (y11.writes + 1)) (tdT (y11.hAb a) y11.hO y11.hsize)) (tdT (y11.hAb a) y11.hT y11.hsize)) (tdT (y11.hAb a) y11.hV y11.hsize)) (cnt y11.hsize (y11.hAb a))) (tdT (mhC PS a) y11.nP y11.npc)) (cnt y11.npc (mhC PS a))) a).esC (tdT (mhC PS a) PS x.npc)))) a) (va_cpy (tdT (mhC PS a) y11.nP y11.npc) y11.sP 0 0 (cnt y11.npc (mhC PS a)))) (cnt y11.npc (mhC PS a))) (va_cpy (tdT ((VS.s_nhor (VS.s_npc (VS.s_nP (VS.s_hsize (VS.s_hV (VS.s_hT (VS.s_hO (VS.s_writes (VS.s_cutLeft y11 (cutF y11.cutLeft)) (y11.writes + 1)) (tdT (y11.hAb a) y11.hO y11.hsize)) (tdT (y11.hAb a) y11.hT y11.hsize)) (tdT (y11.hAb a) y11.hV y11.hsize)) (cnt y11.hsize (y11.hAb a))) (tdT (mhC PS a) y11.nP y11.npc)) (cnt y11.npc (mhC PS a))) a).esC (tdT (mhC PS a) PS x.npc)) y11.nsO y11.nsc) y11.ssO 0 0 (cnt y11.nsc ((VS.s_nhor (VS.s_npc (VS.s_nP (VS.s_hsize (VS.s_hV (VS.s_hT (VS.s_hO (VS.s_writes (VS.s_cutLeft y11 (cutF y11.cutLeft)) (y11.writes + 1)) (tdT (y11.hAb a) y11.hO y11.hsize)) (tdT (y11.hAb a) y11.hT y11.hsize)) (tdT (y11.hAb a) y11.hV y11.hsize)) (cnt y11.hsize (y11.hAb a))) (tdT (mhC PS a) y11.nP y11.npc)) (cnt y11.npc (mhC PS a))) a).esC (tdT (mhC PS a) PS x.npc))))) (va_cpy (tdT ((VS.s_nhor (VS.s_npc (VS.s_nP (VS.s_hsize (VS.s_hV (VS.s_hT (VS.s_hO (VS.s_writes (VS.s_cutLeft y11 (cutF y11.cutLeft)) (y11.writes + 1)) (tdT (y11.hAb a) y11.hO y11.hsize)) (tdT (y11.hAb a) y11.hT y11.hsize)) (tdT (y11.hAb a) y11.hV y11.hsize)) (cnt y11.hsize (y11.hAb a))) (tdT (mhC PS a) y11.nP y11.npc)) (cnt y11.npc (mhC PS a))) a).esC (tdT (mhC PS a) PS x.npc)) y11.nsF y11.nsc) y11.ssF 0 0 (cnt y11.nsc ((VS.s_nhor (VS.s_npc (VS.s_nP (VS.s_hsize (VS.s_hV (VS.s_hT (VS.s_hO (VS.s_writes (VS.s_cutLeft y11 (cutF y11.cutLeft)) (y11.writes + 1)) (tdT (y11.hAb a) y11.hO y11.hsize)) (tdT (y11.hAb a) y11.hT y11.hsize)) (tdT (y11.hAb a) y11.hV y11.hsize)) (cnt y11.hsize (y11.hAb a))) (tdT (mhC PS a) y11.nP y11.npc)) (cnt y11.npc (mhC PS a))) a).esC (tdT (mhC PS a) PS x.npc))))) (va_cpy (tdT ((VS.s_nhor (VS.s_npc (VS.s_nP (VS.s_hsize (VS.s_hV (VS.s_hT (VS.s_hO (VS.s_writes (VS.s_cutLeft y11 (cutF y11.cutLeft)) (y11.writes + 1)) (tdT (y11.hAb a) y11.hO y11.hsize)) (tdT (y11.hAb a) y11.hT y11.hsize)) (tdT (y11.hAb a) y11.hV y11.hsize)) (cnt y11.hsize (y11.hAb a))) (tdT (mhC PS a) y11.nP y11.npc)) (cnt y11.npc (mhC PS a))) a).esC (tdT (mhC PS a) PS x.npc)) y11.nsT y11.nsc) y11.ssT 0 0 (cnt y11.nsc ((VS.s_nhor (VS.s_npc (VS.s_nP (VS.s_hsize (VS.s_hV (VS.s_hT (VS.s_hO (VS.s_writes (VS.s_cutLeft y11 (cutF y11.cutLeft)) (y11.writes + 1)) (tdT (y11.hAb a) y11.hO y11.hsize)) (tdT (y11.hAb a) y11.hT y11.hsize)) (tdT (y11.hAb a) y11.hV y11.hsize)) (cnt y11.hsize (y11.hAb a))) (tdT (mhC PS a) y11.nP y11.npc)) (cnt y11.npc (mhC PS a))) a).esC (tdT (mhC PS a) PS x.npc))))) (cnt y11.nsc ((VS.s_nhor (VS.s_npc (VS.s_nP (VS.s_hsize (VS.s_hV (VS.s_hT (VS.s_hO (VS.s_writes (VS.s_cutLeft y11 (cutF y11.cutLeft)) (y11.writes + 1)) (tdT (y11.hAb a) y11.hO y11.hsize)) (tdT (y11.hAb a) y11.hT y11.hsize)) (tdT (y11.hAb a) y11.hV y11.hsize)) (cnt y11.hsize (y11.hAb a))) (tdT (mhC PS a) y11.nP y11.npc)) (cnt y11.npc (mhC PS a))) a).esC (tdT (mhC PS a) PS x.npc)))) a)) H := hP
  have hD : va_D A (VW dA h ad (VS.s_shor (VS.s_ssc (VS.s_ssT (VS.s_ssF (VS.s_ssO (VS.s_spc (VS.s_sP (VS.s_nhor (VS.s_nsc (VS.s_nsP (VS.s_nsT (VS.s_nsF (VS.s_nsO (VS.s_npc (VS.s_nP (VS.s_hsize (VS.s_hV (VS.s_hT (VS.s_hO (VS.s_writes (VS.s_cutLeft y11 (cutF y11.cutLeft)) (y11.writes + 1)) (tdT (y11.hAb a) y11.hO y11.hsize)) (tdT (y11.hAb a) y11.hT y11.hsize)) (tdT (y11.hAb a) y11.hV y11.hsize)) (cnt y11.hsize (y11.hAb a))) (tdT (mhC PS a) y11.nP y11.npc)) (cnt y11.npc (mhC PS a))) (tdT ((VS.s_nhor (VS.s_npc (VS.s_nP (VS.s_hsize (VS.s_hV (VS.s_hT (VS.s_hO (VS.s_writes (VS.s_cutLeft y11 (cutF y11.cutLeft)) (y11.writes + 1)) (tdT (y11.hAb a) y11.hO y11.hsize)) (tdT (y11.hAb a) y11.hT y11.hsize)) (tdT (y11.hAb a) y11.hV y11.hsize)) (cnt y11.hsize (y11.hAb a))) (tdT (mhC PS a) y11.nP y11.npc)) (cnt y11.npc (mhC PS a))) a).esC (tdT (mhC PS a) PS x.npc)) y11.nsO y11.nsc)) (tdT ((VS.s_nhor (VS.s_npc (VS.s_nP (VS.s_hsize (VS.s_hV (VS.s_hT (VS.s_hO (VS.s_writes (VS.s_cutLeft y11 (cutF y11.cutLeft)) (y11.writes + 1)) (tdT (y11.hAb a) y11.hO y11.hsize)) (tdT (y11.hAb a) y11.hT y11.hsize)) (tdT (y11.hAb a) y11.hV y11.hsize)) (cnt y11.hsize (y11.hAb a))) (tdT (mhC PS a) y11.nP y11.npc)) (cnt y11.npc (mhC PS a))) a).esC (tdT (mhC PS a) PS x.npc)) y11.nsF y11.nsc)) (tdT ((VS.s_nhor (VS.s_npc (VS.s_nP (VS.s_hsize (VS.s_hV (VS.s_hT (VS.s_hO (VS.s_writes (VS.s_cutLeft y11 (cutF y11.cutLeft)) (y11.writes + 1)) (tdT (y11.hAb a) y11.hO y11.hsize)) (tdT (y11.hAb a) y11.hT y11.hsize)) (tdT (y11.hAb a) y11.hV y11.hsize)) (cnt y11.hsize (y11.hAb a))) (tdT (mhC PS a) y11.nP y11.npc)) (cnt y11.npc (mhC PS a))) a).esC (tdT (mhC PS a) PS x.npc)) y11.nsT y11.nsc)) ((VS.s_nhor (VS.s_npc (VS.s_nP (VS.s_hsize (VS.s_hV (VS.s_hT (VS.s_hO (VS.s_writes (VS.s_cutLeft y11 (cutF y11.cutLeft)) (y11.writes + 1)) (tdT (y11.hAb a) y11.hO y11.hsize)) (tdT (y11.hAb a) y11.hT y11.hsize)) (tdT (y11.hAb a) y11.hV y11.hsize)) (cnt y11.hsize (y11.hAb a))) (tdT (mhC PS a) y11.nP y11.npc)) (cnt y11.npc (mhC PS a))) a).esG (tdT (mhC PS a) PS x.npc))) (cnt y11.nsc ((VS.s_nhor (VS.s_npc (VS.s_nP (VS.s_hsize (VS.s_hV (VS.s_hT (VS.s_hO (VS.s_writes (VS.s_cutLeft y11 (cutF y11.cutLeft)) (y11.writes + 1)) (tdT (y11.hAb a) y11.hO y11.hsize)) (tdT (y11.hAb a) y11.hT y11.hsize)) (tdT (y11.hAb a) y11.hV y11.hsize)) (cnt y11.hsize (y11.hAb a))) (tdT (mhC PS a) y11.nP y11.npc)) (cnt y11.npc (mhC PS a))) a).esC (tdT (mhC PS a) PS x.npc)))) a) (va_cpy (tdT (mhC PS a) y11.nP y11.npc) y11.sP 0 0 (cnt y11.npc (mhC PS a)))) (cnt y11.npc (mhC PS a))) (va_cpy (tdT ((VS.s_nhor (VS.s_npc (VS.s_nP (VS.s_hsize (VS.s_hV (VS.s_hT (VS.s_hO (VS.s_writes (VS.s_cutLeft y11 (cutF y11.cutLeft)) (y11.writes + 1)) (tdT (y11.hAb a) y11.hO y11.hsize)) (tdT (y11.hAb a) y11.hT y11.hsize)) (tdT (y11.hAb a) y11.hV y11.hsize)) (cnt y11.hsize (y11.hAb a))) (tdT (mhC PS a) y11.nP y11.npc)) (cnt y11.npc (mhC PS a))) a).esC (tdT (mhC PS a) PS x.npc)) y11.nsO y11.nsc) y11.ssO 0 0 (cnt y11.nsc ((VS.s_nhor (VS.s_npc (VS.s_nP (VS.s_hsize (VS.s_hV (VS.s_hT (VS.s_hO (VS.s_writes (VS.s_cutLeft y11 (cutF y11.cutLeft)) (y11.writes + 1)) (tdT (y11.hAb a) y11.hO y11.hsize)) (tdT (y11.hAb a) y11.hT y11.hsize)) (tdT (y11.hAb a) y11.hV y11.hsize)) (cnt y11.hsize (y11.hAb a))) (tdT (mhC PS a) y11.nP y11.npc)) (cnt y11.npc (mhC PS a))) a).esC (tdT (mhC PS a) PS x.npc))))) (va_cpy (tdT ((VS.s_nhor (VS.s_npc (VS.s_nP (VS.s_hsize (VS.s_hV (VS.s_hT (VS.s_hO (VS.s_writes (VS.s_cutLeft y11 (cutF y11.cutLeft)) (y11.writes + 1)) (tdT (y11.hAb a) y11.hO y11.hsize)) (tdT (y11.hAb a) y11.hT y11.hsize)) (tdT (y11.hAb a) y11.hV y11.hsize)) (cnt y11.hsize (y11.hAb a))) (tdT (mhC PS a) y11.nP y11.npc)) (cnt y11.npc (mhC PS a))) a).esC (tdT (mhC PS a) PS x.npc)) y11.nsF y11.nsc) y11.ssF 0 0 (cnt y11.nsc ((VS.s_nhor (VS.s_npc (VS.s_nP (VS.s_hsize (VS.s_hV (VS.s_hT (VS.s_hO (VS.s_writes (VS.s_cutLeft y11 (cutF y11.cutLeft)) (y11.writes + 1)) (tdT (y11.hAb a) y11.hO y11.hsize)) (tdT (y11.hAb a) y11.hT y11.hsize)) (tdT (y11.hAb a) y11.hV y11.hsize)) (cnt y11.hsize (y11.hAb a))) (tdT (mhC PS a) y11.nP y11.npc)) (cnt y11.npc (mhC PS a))) a).esC (tdT (mhC PS a) PS x.npc))))) (va_cpy (tdT ((VS.s_nhor (VS.s_npc (VS.s_nP (VS.s_hsize (VS.s_hV (VS.s_hT (VS.s_hO (VS.s_writes (VS.s_cutLeft y11 (cutF y11.cutLeft)) (y11.writes + 1)) (tdT (y11.hAb a) y11.hO y11.hsize)) (tdT (y11.hAb a) y11.hT y11.hsize)) (tdT (y11.hAb a) y11.hV y11.hsize)) (cnt y11.hsize (y11.hAb a))) (tdT (mhC PS a) y11.nP y11.npc)) (cnt y11.npc (mhC PS a))) a).esC (tdT (mhC PS a) PS x.npc)) y11.nsT y11.nsc) y11.ssT 0 0 (cnt y11.nsc ((VS.s_nhor (VS.s_npc (VS.s_nP (VS.s_hsize (VS.s_hV (VS.s_hT (VS.s_hO (VS.s_writes (VS.s_cutLeft y11 (cutF y11.cutLeft)) (y11.writes + 1)) (tdT (y11.hAb a) y11.hO y11.hsize)) (tdT (y11.hAb a) y11.hT y11.hsize)) (tdT (y11.hAb a) y11.hV y11.hsize)) (cnt y11.hsize (y11.hAb a))) (tdT (mhC PS a) y11.nP y11.npc)) (cnt y11.npc (mhC PS a))) a).esC (tdT (mhC PS a) PS x.npc))))) (cnt y11.nsc ((VS.s_nhor (VS.s_npc (VS.s_nP (VS.s_hsize (VS.s_hV (VS.s_hT (VS.s_hO (VS.s_writes (VS.s_cutLeft y11 (cutF y11.cutLeft)) (y11.writes + 1)) (tdT (y11.hAb a) y11.hO y11.hsize)) (tdT (y11.hAb a) y11.hT y11.hsize)) (tdT (y11.hAb a) y11.hV y11.hsize)) (cnt y11.hsize (y11.hAb a))) (tdT (mhC PS a) y11.nP y11.npc)) (cnt y11.npc (mhC PS a))) a).esC (tdT (mhC PS a) PS x.npc)))) a)) := hD
  refine lv_iload_n hx hb d_V_retain_92 rfl (lv_at hl 0 rfl) ?_
  exact rfI hx hb hr hlk hS (VS.s_shor (VS.s_ssc (VS.s_ssT (VS.s_ssF (VS.s_ssO (VS.s_spc (VS.s_sP (VS.s_nhor (VS.s_nsc (VS.s_nsP (VS.s_nsT (VS.s_nsF (VS.s_nsO (VS.s_npc (VS.s_nP (VS.s_hsize (VS.s_hV (VS.s_hT (VS.s_hO (VS.s_writes (VS.s_cutLeft y11 (cutF y11.cutLeft)) (y11.writes + 1)) (tdT (y11.hAb a) y11.hO y11.hsize)) (tdT (y11.hAb a) y11.hT y11.hsize)) (tdT (y11.hAb a) y11.hV y11.hsize)) (cnt y11.hsize (y11.hAb a))) (tdT (mhC PS a) y11.nP y11.npc)) (cnt y11.npc (mhC PS a))) (tdT ((VS.s_nhor (VS.s_npc (VS.s_nP (VS.s_hsize (VS.s_hV (VS.s_hT (VS.s_hO (VS.s_writes (VS.s_cutLeft y11 (cutF y11.cutLeft)) (y11.writes + 1)) (tdT (y11.hAb a) y11.hO y11.hsize)) (tdT (y11.hAb a) y11.hT y11.hsize)) (tdT (y11.hAb a) y11.hV y11.hsize)) (cnt y11.hsize (y11.hAb a))) (tdT (mhC PS a) y11.nP y11.npc)) (cnt y11.npc (mhC PS a))) a).esC (tdT (mhC PS a) PS x.npc)) y11.nsO y11.nsc)) (tdT ((VS.s_nhor (VS.s_npc (VS.s_nP (VS.s_hsize (VS.s_hV (VS.s_hT (VS.s_hO (VS.s_writes (VS.s_cutLeft y11 (cutF y11.cutLeft)) (y11.writes + 1)) (tdT (y11.hAb a) y11.hO y11.hsize)) (tdT (y11.hAb a) y11.hT y11.hsize)) (tdT (y11.hAb a) y11.hV y11.hsize)) (cnt y11.hsize (y11.hAb a))) (tdT (mhC PS a) y11.nP y11.npc)) (cnt y11.npc (mhC PS a))) a).esC (tdT (mhC PS a) PS x.npc)) y11.nsF y11.nsc)) (tdT ((VS.s_nhor (VS.s_npc (VS.s_nP (VS.s_hsize (VS.s_hV (VS.s_hT (VS.s_hO (VS.s_writes (VS.s_cutLeft y11 (cutF y11.cutLeft)) (y11.writes + 1)) (tdT (y11.hAb a) y11.hO y11.hsize)) (tdT (y11.hAb a) y11.hT y11.hsize)) (tdT (y11.hAb a) y11.hV y11.hsize)) (cnt y11.hsize (y11.hAb a))) (tdT (mhC PS a) y11.nP y11.npc)) (cnt y11.npc (mhC PS a))) a).esC (tdT (mhC PS a) PS x.npc)) y11.nsT y11.nsc)) ((VS.s_nhor (VS.s_npc (VS.s_nP (VS.s_hsize (VS.s_hV (VS.s_hT (VS.s_hO (VS.s_writes (VS.s_cutLeft y11 (cutF y11.cutLeft)) (y11.writes + 1)) (tdT (y11.hAb a) y11.hO y11.hsize)) (tdT (y11.hAb a) y11.hT y11.hsize)) (tdT (y11.hAb a) y11.hV y11.hsize)) (cnt y11.hsize (y11.hAb a))) (tdT (mhC PS a) y11.nP y11.npc)) (cnt y11.npc (mhC PS a))) a).esG (tdT (mhC PS a) PS x.npc))) (cnt y11.nsc ((VS.s_nhor (VS.s_npc (VS.s_nP (VS.s_hsize (VS.s_hV (VS.s_hT (VS.s_hO (VS.s_writes (VS.s_cutLeft y11 (cutF y11.cutLeft)) (y11.writes + 1)) (tdT (y11.hAb a) y11.hO y11.hsize)) (tdT (y11.hAb a) y11.hT y11.hsize)) (tdT (y11.hAb a) y11.hV y11.hsize)) (cnt y11.hsize (y11.hAb a))) (tdT (mhC PS a) y11.nP y11.npc)) (cnt y11.npc (mhC PS a))) a).esC (tdT (mhC PS a) PS x.npc)))) a) (va_cpy (tdT (mhC PS a) y11.nP y11.npc) y11.sP 0 0 (cnt y11.npc (mhC PS a)))) (cnt y11.npc (mhC PS a))) (va_cpy (tdT ((VS.s_nhor (VS.s_npc (VS.s_nP (VS.s_hsize (VS.s_hV (VS.s_hT (VS.s_hO (VS.s_writes (VS.s_cutLeft y11 (cutF y11.cutLeft)) (y11.writes + 1)) (tdT (y11.hAb a) y11.hO y11.hsize)) (tdT (y11.hAb a) y11.hT y11.hsize)) (tdT (y11.hAb a) y11.hV y11.hsize)) (cnt y11.hsize (y11.hAb a))) (tdT (mhC PS a) y11.nP y11.npc)) (cnt y11.npc (mhC PS a))) a).esC (tdT (mhC PS a) PS x.npc)) y11.nsO y11.nsc) y11.ssO 0 0 (cnt y11.nsc ((VS.s_nhor (VS.s_npc (VS.s_nP (VS.s_hsize (VS.s_hV (VS.s_hT (VS.s_hO (VS.s_writes (VS.s_cutLeft y11 (cutF y11.cutLeft)) (y11.writes + 1)) (tdT (y11.hAb a) y11.hO y11.hsize)) (tdT (y11.hAb a) y11.hT y11.hsize)) (tdT (y11.hAb a) y11.hV y11.hsize)) (cnt y11.hsize (y11.hAb a))) (tdT (mhC PS a) y11.nP y11.npc)) (cnt y11.npc (mhC PS a))) a).esC (tdT (mhC PS a) PS x.npc))))) (va_cpy (tdT ((VS.s_nhor (VS.s_npc (VS.s_nP (VS.s_hsize (VS.s_hV (VS.s_hT (VS.s_hO (VS.s_writes (VS.s_cutLeft y11 (cutF y11.cutLeft)) (y11.writes + 1)) (tdT (y11.hAb a) y11.hO y11.hsize)) (tdT (y11.hAb a) y11.hT y11.hsize)) (tdT (y11.hAb a) y11.hV y11.hsize)) (cnt y11.hsize (y11.hAb a))) (tdT (mhC PS a) y11.nP y11.npc)) (cnt y11.npc (mhC PS a))) a).esC (tdT (mhC PS a) PS x.npc)) y11.nsF y11.nsc) y11.ssF 0 0 (cnt y11.nsc ((VS.s_nhor (VS.s_npc (VS.s_nP (VS.s_hsize (VS.s_hV (VS.s_hT (VS.s_hO (VS.s_writes (VS.s_cutLeft y11 (cutF y11.cutLeft)) (y11.writes + 1)) (tdT (y11.hAb a) y11.hO y11.hsize)) (tdT (y11.hAb a) y11.hT y11.hsize)) (tdT (y11.hAb a) y11.hV y11.hsize)) (cnt y11.hsize (y11.hAb a))) (tdT (mhC PS a) y11.nP y11.npc)) (cnt y11.npc (mhC PS a))) a).esC (tdT (mhC PS a) PS x.npc))))) (va_cpy (tdT ((VS.s_nhor (VS.s_npc (VS.s_nP (VS.s_hsize (VS.s_hV (VS.s_hT (VS.s_hO (VS.s_writes (VS.s_cutLeft y11 (cutF y11.cutLeft)) (y11.writes + 1)) (tdT (y11.hAb a) y11.hO y11.hsize)) (tdT (y11.hAb a) y11.hT y11.hsize)) (tdT (y11.hAb a) y11.hV y11.hsize)) (cnt y11.hsize (y11.hAb a))) (tdT (mhC PS a) y11.nP y11.npc)) (cnt y11.npc (mhC PS a))) a).esC (tdT (mhC PS a) PS x.npc)) y11.nsT y11.nsc) y11.ssT 0 0 (cnt y11.nsc ((VS.s_nhor (VS.s_npc (VS.s_nP (VS.s_hsize (VS.s_hV (VS.s_hT (VS.s_hO (VS.s_writes (VS.s_cutLeft y11 (cutF y11.cutLeft)) (y11.writes + 1)) (tdT (y11.hAb a) y11.hO y11.hsize)) (tdT (y11.hAb a) y11.hT y11.hsize)) (tdT (y11.hAb a) y11.hV y11.hsize)) (cnt y11.hsize (y11.hAb a))) (tdT (mhC PS a) y11.nP y11.npc)) (cnt y11.npc (mhC PS a))) a).esC (tdT (mhC PS a) PS x.npc))))) (cnt y11.nsc ((VS.s_nhor (VS.s_npc (VS.s_nP (VS.s_hsize (VS.s_hV (VS.s_hT (VS.s_hO (VS.s_writes (VS.s_cutLeft y11 (cutF y11.cutLeft)) (y11.writes + 1)) (tdT (y11.hAb a) y11.hO y11.hsize)) (tdT (y11.hAb a) y11.hT y11.hsize)) (tdT (y11.hAb a) y11.hV y11.hsize)) (cnt y11.hsize (y11.hAb a))) (tdT (mhC PS a) y11.nP y11.npc)) (cnt y11.npc (mhC PS a))) a).esC (tdT (mhC PS a) PS x.npc)))) a) ⟨rfl, by rw [← hwj]; rfl⟩ hP hD (Nat.le_of_ble_eq_true rfl) (Nat.le_of_ble_eq_true rfl) d_V_retain_93
end
