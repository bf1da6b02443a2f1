def isDg (z : Int32) : Bool := !decide (z < 48) && !decide (57 < z)
def isLt (z : Int32) : Bool := (!decide (z < 97) && decide (z ≤ 122)) || ((!decide (z < 65) && decide (z ≤ 90)) || decide (z = 95))
/-- the byte at place k, 0 behind the end -/
def atI (f : Nat → Int32) (len k : Nat) : Int32 := if len ≤ k then 0 else f k &&& 255
def MS.atN (x : MS) (k : Nat) : Int32 := atI x.tape x.length k
def rkN (z : Int32) : Nat := if z = 43 ∨ z = 45 then 1 else if z = 42 ∨ z = 47 ∨ z = 37 then 2 else if z = 109 then 3 else 0
def MS.stB (x : MS) (a b c : Int32) : Bool := decide (x.atN x.frm = a) && (decide (x.atN (x.frm + 1) = b) && decide (x.atN (x.frm + 2) = c))
set_option maxHeartbeats 4000000 in
set_option maxRecDepth 100000 in
theorem k_names_0 (l : Launch) (D : va_G) (dA : Nat → ClassId) (sz : Nat) (h : Nat) (ad : Nat → Nat) (x : MS) (ht : x.isTable = false) : Met l ⟨"SeriesVaultModel", "names", "()I"⟩ [Cond.code ⟨"SeriesVaultModel", "names", "()I"⟩ prog_14_method_92_code 1 (some FieldType.int)] { frames := 1, cells := 0, slots := 0, locals := 0 } (pC D dA [.ref h] (MW dA h ad x) sz) (va_Qi (fun (r9 : Int32) (u9 : Unit) => r9 = (-1)) (fun (u9 : Unit) t9 => bW D (va_A (MW dA h ad x) sz) (MW dA h ad (MS.s_cod x 0)) t9) (va_A (MW dA h ad x) sz)) 0 0 (va_A (MW dA h ad x) sz) := by
  refine mkC (y := ⟨"SeriesVaultModel", "names", "()I"⟩) (cc := prog_14_method_92_code) (maxL := 1) (av := [.ref h]) (ws := MW dA h ad x) (sz := sz) (Qc := fun A => va_Qi (fun (r9 : Int32) (u9 : Unit) => r9 = (-1)) (fun (u9 : Unit) t9 => bW D A (MW dA h ad (MS.s_cod x 0)) t9) A) (by decide) (Nat.le_of_ble_eq_true rfl) ?_
  intro A p e s m below meth c ls hsz hB
  obtain ⟨hx, hb, hr, hml, hown, hin, hlk, hE, hK, hP, hD, hS, hA, hN, hl⟩ := hB
  have hown : s.vm.findClass "SeriesVaultModel" = some m.cls := hown
  have hl : lv_has ls 1 [(0, .ref h)] := hl
  obtain ⟨H, hH⟩ : ∃ z, z = s.heap := ⟨_, rfl⟩
  have hP : va_P D vwCl (MW dA h ad x) H := by rw [hH]; exact hP
  have hS : va_S A s.heap H [] := by rw [hH]; exact hS
  rw [← hH]
  refine lv_aload_n hx hb d_M_names_0 rfl (lv_at hl 0 rfl) ?_
  refine lv_iconst (v := 0) hx hb d_M_names_1 (by decide) ?_
  refine pF (v := .int 0) hx hb hown hE hK hP hD hS 0 rfl rfl layM tyM tokM nmM 0 (by decide) w319 rfl rfl rfl (Nat.le_of_ble_eq_true rfl) d_M_names_2 (fun H locs hP hD hS => ?_)
  have hP : va_P D vwCl (MW dA h ad (MS.s_cod x 0)) H := hP
  have hD : va_D A (MW dA h ad (MS.s_cod x 0)) := hD
  refine lv_aload_n hx hb d_M_names_5 rfl (lv_at hl 0 rfl) ?_
  refine gF (v := .int (bI x.isTable)) hx hb hown hE hK hP 0 rfl rfl layM 71 (by decide) w326 rfl d_M_names_6 ?_
  refine lv_if_eq hx hb d_M_names_9 (tgt := 19) rfl (fun _ => ?_) (fun h9 => absurd (by rw [ht]; decide) h9)
  refine lv_iconst (v := (-1)) hx hb d_M_names_19 (by decide) ?_
  exact rfI hx hb hr hlk hS () rfl hP hD (Nat.le_of_ble_eq_true rfl) (Nat.le_of_ble_eq_true rfl) d_M_names_20
theorem d_M_names_12 : decode prog_14_method_92_code 12 = .ok (.aload_n 0, 1) := by decide +kernel
theorem d_M_names_13 : decode prog_14_method_92_code 13 = .ok (.getfield 495, 3) := by decide +kernel
theorem d_M_names_16 : decode prog_14_method_92_code 16 = .ok (.goto 4, 3) := by decide +kernel
theorem w950 : Cond.fieldLink "SeriesVaultModel" 495 "SeriesVaultModel" "names" "I" ∈ aW := aw_of (tb_9 (List.mem_of_getElem? (i := 6) rfl)) rfl
set_option maxHeartbeats 4000000 in
set_option maxRecDepth 100000 in
theorem k_names (l : Launch) (D : va_G) (dA : Nat → ClassId) (sz : Nat) (h : Nat) (ad : Nat → Nat) (x : MS) (ht : x.isTable = true) : Met l ⟨"SeriesVaultModel", "names", "()I"⟩ [Cond.code ⟨"SeriesVaultModel", "names", "()I"⟩ prog_14_method_92_code 1 (some FieldType.int)] { frames := 1, cells := 0, slots := 0, locals := 0 } (pC D dA [.ref h] (MW dA h ad x) sz) (va_Qi (fun (r9 : Int32) (u9 : Unit) => r9 = nI x.names) (fun (u9 : Unit) t9 => bW D (va_A (MW dA h ad x) sz) (MW dA h ad (MS.s_cod x 0)) t9) (va_A (MW dA h ad x) sz)) 0 0 (va_A (MW dA h ad x) sz) := by
  refine mkC (y := ⟨"SeriesVaultModel", "names", "()I"⟩) (cc := prog_14_method_92_code) (maxL := 1) (av := [.ref h]) (ws := MW dA h ad x) (sz := sz) (Qc := fun A => va_Qi (fun (r9 : Int32) (u9 : Unit) => r9 = nI x.names) (fun (u9 : Unit) t9 => bW D A (MW dA h ad (MS.s_cod x 0)) t9) A) (by decide) (Nat.le_of_ble_eq_true rfl) ?_
  intro A p e s m below meth c ls hsz hB
  obtain ⟨hx, hb, hr, hml, hown, hin, hlk, hE, hK, hP, hD, hS, hA, hN, hl⟩ := hB
  have hown : s.vm.findClass "SeriesVaultModel" = some m.cls := hown
  have hl : lv_has ls 1 [(0, .ref h)] := hl
  obtain ⟨H, hH⟩ : ∃ z, z = s.heap := ⟨_, rfl⟩
  have hP : va_P D vwCl (MW dA h ad x) H := by rw [hH]; exact hP
  have hS : va_S A s.heap H [] := by rw [hH]; exact hS
  rw [← hH]
  refine lv_aload_n hx hb d_M_names_0 rfl (lv_at hl 0 rfl) ?_
  refine lv_iconst (v := 0) hx hb d_M_names_1 (by decide) ?_
  refine pF (v := .int 0) hx hb hown hE hK hP hD hS 0 rfl rfl layM tyM tokM nmM 0 (by decide) w319 rfl rfl rfl (Nat.le_of_ble_eq_true rfl) d_M_names_2 (fun H locs hP hD hS => ?_)
  have hP : va_P D vwCl (MW dA h ad (MS.s_cod x 0)) H := hP
  have hD : va_D A (MW dA h ad (MS.s_cod x 0)) := hD
  refine lv_aload_n hx hb d_M_names_5 rfl (lv_at hl 0 rfl) ?_
  refine gF (v := .int (bI x.isTable)) hx hb hown hE hK hP 0 rfl rfl layM 71 (by decide) w326 rfl d_M_names_6 ?_
  refine lv_if_eq hx hb d_M_names_9 (tgt := 19) rfl (fun h9 => absurd h9 (by rw [ht]; decide)) (fun _ => ?_)
  refine lv_aload_n hx hb d_M_names_12 rfl (lv_at hl 0 rfl) ?_
  refine gF (v := .int (nI x.names)) hx hb hown hE hK hP 0 rfl rfl layM 72 (by decide) w950 rfl d_M_names_13 ?_
  refine lv_goto hx hb d_M_names_16 (tgt := 20) rfl ?_
  exact rfI hx hb hr hlk hS () rfl hP hD (Nat.le_of_ble_eq_true rfl) (Nat.le_of_ble_eq_true rfl) d_M_names_20
theorem d_M_isRow_7 : decode prog_14_method_93_code 7 = .ok (.iload_n 1, 1) := by decide +kernel
theorem d_M_isRow_8 : decode prog_14_method_93_code 8 = .ok (.ifCond .lt 15, 3) := by decide +kernel
theorem d_M_isRow_11 : decode prog_14_method_93_code 11 = .ok (.iload_n 1, 1) := by decide +kernel
theorem d_M_isRow_12 : decode prog_14_method_93_code 12 = .ok (.aload_n 0, 1) := by decide +kernel
theorem d_M_isRow_13 : decode prog_14_method_93_code 13 = .ok (.getfield 498, 3) := by decide +kernel
theorem d_M_isRow_16 : decode prog_14_method_93_code 16 = .ok (.if_icmp .ge 7, 3) := by decide +kernel
theorem w951 : Cond.fieldLink "SeriesVaultModel" 498 "SeriesVaultModel" "rows" "I" ∈ aW := aw_of (tb_9 (List.mem_of_getElem? (i := 7) rfl)) rfl
set_option maxHeartbeats 4000000 in
set_option maxRecDepth 100000 in
theorem k_isRow_0 (l : Launch) (D : va_G) (dA : Nat → ClassId) (sz : Nat) (h : Nat) (ad : Nat → Nat) (x : MS) (z : Int32) (h0 : x.isTable = false ∨ z < 0 ∨ nI x.rows ≤ z) : Met l ⟨"SeriesVaultModel", "isRow", "(I)Z"⟩ [Cond.code ⟨"SeriesVaultModel", "isRow", "(I)Z"⟩ prog_14_method_93_code 2 (some FieldType.boolean)] { frames := 1, cells := 0, slots := 0, locals := 0 } (pC D dA [.ref h, .int z] (MW dA h ad x) sz) (va_Qi (fun (r9 : Int32) (u9 : Unit) => r9 = bI false) (fun (u9 : Unit) t9 => bW D (va_A (MW dA h ad x) sz) (MW dA h ad x) t9) (va_A (MW dA h ad x) sz)) 0 0 (va_A (MW dA h ad x) sz) := by
  refine mkC (y := ⟨"SeriesVaultModel", "isRow", "(I)Z"⟩) (cc := prog_14_method_93_code) (maxL := 2) (av := [.ref h, .int z]) (ws := MW dA h ad x) (sz := sz) (Qc := fun A => va_Qi (fun (r9 : Int32) (u9 : Unit) => r9 = bI false) (fun (u9 : Unit) t9 => bW D A (MW dA h ad x) t9) A) (by decide) (Nat.le_of_ble_eq_true rfl) ?_
  intro A p e s m below meth c ls hsz hB
  obtain ⟨hx, hb, hr, hml, hown, hin, hlk, hE, hK, hP, hD, hS, hA, hN, hl⟩ := hB
  have hown : s.vm.findClass "SeriesVaultModel" = some m.cls := hown
  have hl : lv_has ls 2 [(0, .ref h), (1, .int z)] := hl
  obtain ⟨H, hH⟩ : ∃ z, z = s.heap := ⟨_, rfl⟩
  have hP : va_P D vwCl (MW dA h ad x) H := by rw [hH]; exact hP
  have hS : va_S A s.heap H [] := by rw [hH]; exact hS
  rw [← hH]
  refine lv_aload_n hx hb d_M_isRow_0 rfl (lv_at hl 0 rfl) ?_
  refine gF (v := .int (bI x.isTable)) hx hb hown hE hK hP 0 rfl rfl layM 71 (by decide) w326 rfl d_M_isRow_1 ?_
  refine lv_if_eq hx hb d_M_isRow_4 (tgt := 23) rfl (fun g1 => ?_) (fun g1 => ?_)
  · have g1 := bI_0 g1
    refine lv_iconst (v := 0) hx hb d_M_isRow_23 (by decide) ?_
    exact rfZ hx hb hr (bI_nar false) hlk hS () rfl hP hD (Nat.le_of_ble_eq_true rfl) (Nat.le_of_ble_eq_true rfl) d_M_isRow_24
  · have g1 := bI_n0 g1
    refine lv_iload_n hx hb d_M_isRow_7 rfl (lv_at hl 1 rfl) ?_
    refine lv_if_lt hx hb d_M_isRow_8 (tgt := 23) rfl (fun g2 => ?_) (fun g2 => ?_)
    · have g2 := g2
      refine lv_iconst (v := 0) hx hb d_M_isRow_23 (by decide) ?_
      exact rfZ hx hb hr (bI_nar false) hlk hS () rfl hP hD (Nat.le_of_ble_eq_true rfl) (Nat.le_of_ble_eq_true rfl) d_M_isRow_24
    · have g2 := g2
      refine lv_iload_n hx hb d_M_isRow_11 rfl (lv_at hl 1 rfl) ?_
      refine lv_aload_n hx hb d_M_isRow_12 rfl (lv_at hl 0 rfl) ?_
      refine gF (v := .int (nI x.rows)) hx hb hown hE hK hP 0 rfl rfl layM 73 (by decide) w951 rfl d_M_isRow_13 ?_
      refine lv_icmp_ge hx hb d_M_isRow_16 (tgt := 23) rfl (fun _ => ?_) (fun h9 => absurd ((h0.resolve_left (by simp [*])).resolve_left (by assumption)) h9)
      refine lv_iconst (v := 0) hx hb d_M_isRow_23 (by decide) ?_
      exact rfZ hx hb hr (bI_nar false) hlk hS () rfl hP hD (Nat.le_of_ble_eq_true rfl) (Nat.le_of_ble_eq_true rfl) d_M_isRow_24
theorem d_M_isRow_19 : decode prog_14_method_93_code 19 = .ok (.iconst 1, 1) := by decide +kernel
theorem d_M_isRow_20 : decode prog_14_method_93_code 20 = .ok (.goto 4, 3) := by decide +kernel
set_option maxHeartbeats 4000000 in
set_option maxRecDepth 100000 in
theorem k_isRow (l : Launch) (D : va_G) (dA : Nat → ClassId) (sz : Nat) (h : Nat) (ad : Nat → Nat) (x : MS) (w : Nat) (ht : x.isTable = true) (hw : w < x.rows) (hr2 : x.rows ≤ 256) : Met l ⟨"SeriesVaultModel", "isRow", "(I)Z"⟩ [Cond.code ⟨"SeriesVaultModel", "isRow", "(I)Z"⟩ prog_14_method_93_code 2 (some FieldType.boolean)] { frames := 1, cells := 0, slots := 0, locals := 0 } (pC D dA [.ref h, .int (nI w)] (MW dA h ad x) sz) (va_Qi (fun (r9 : Int32) (u9 : Unit) => r9 = bI true) (fun (u9 : Unit) t9 => bW D (va_A (MW dA h ad x) sz) (MW dA h ad x) t9) (va_A (MW dA h ad x) sz)) 0 0 (va_A (MW dA h ad x) sz) := by
  refine mkC (y := ⟨"SeriesVaultModel", "isRow", "(I)Z"⟩) (cc := prog_14_method_93_code) (maxL := 2) (av := [.ref h, .int (nI w)]) (ws := MW dA h ad x) (sz := sz) (Qc := fun A => va_Qi (fun (r9 : Int32) (u9 : Unit) => r9 = bI true) (fun (u9 : Unit) t9 => bW D A (MW dA h ad x) t9) A) (by decide) (Nat.le_of_ble_eq_true rfl) ?_
  intro A p e s m below meth c ls hsz hB
  obtain ⟨hx, hb, hr, hml, hown, hin, hlk, hE, hK, hP, hD, hS, hA, hN, hl⟩ := hB
  have hown : s.vm.findClass "SeriesVaultModel" = some m.cls := hown
  have hl : lv_has ls 2 [(0, .ref h), (1, .int (nI w))] := hl
  obtain ⟨H, hH⟩ : ∃ z, z = s.heap := ⟨_, rfl⟩
  have hP : va_P D vwCl (MW dA h ad x) H := by rw [hH]; exact hP
  have hS : va_S A s.heap H [] := by rw [hH]; exact hS
  rw [← hH]
  refine lv_aload_n hx hb d_M_isRow_0 rfl (lv_at hl 0 rfl) ?_
  refine gF (v := .int (bI x.isTable)) hx hb hown hE hK hP 0 rfl rfl layM 71 (by decide) w326 rfl d_M_isRow_1 ?_
  refine lv_if_eq hx hb d_M_isRow_4 (tgt := 23) rfl (fun h9 => absurd h9 (by rw [ht]; decide)) (fun _ => ?_)
  refine lv_iload_n hx hb d_M_isRow_7 rfl (lv_at hl 1 rfl) ?_
  refine lv_if_lt hx hb d_M_isRow_8 (tgt := 23) rfl (fun h9 => absurd h9 (nI_pos (n := w) (by omega))) (fun _ => ?_)
  refine lv_iload_n hx hb d_M_isRow_11 rfl (lv_at hl 1 rfl) ?_
  refine lv_aload_n hx hb d_M_isRow_12 rfl (lv_at hl 0 rfl) ?_
  refine gF (v := .int (nI x.rows)) hx hb hown hE hK hP 0 rfl rfl layM 73 (by decide) w951 rfl d_M_isRow_13 ?_
  refine lv_icmp_ge hx hb d_M_isRow_16 (tgt := 23) rfl (fun h9 => absurd h9 (mt (nI_leI (a := x.rows) (b := w) (by omega) (by omega)).mp (Nat.not_le.mpr hw))) (fun _ => ?_)
  refine lv_iconst (v := 1) hx hb d_M_isRow_19 (by decide) ?_
  refine lv_goto hx hb d_M_isRow_20 (tgt := 24) rfl ?_
  exact rfZ hx hb hr (bI_nar true) hlk hS () rfl hP hD (Nat.le_of_ble_eq_true rfl) (Nat.le_of_ble_eq_true rfl) d_M_isRow_24
set_option maxHeartbeats 4000000 in
set_option maxRecDepth 100000 in
theorem k_text_1 (l : Launch) (D : va_G) (dA : Nat → ClassId) (sz : Nat) (h : Nat) (ad : Nat → Nat) (x : MS) (z : Int32) (k : Int32) (j : Int32) (h0 : x.isTable = false ∨ z < 0 ∨ nI x.rows ≤ z) : Met l ⟨"SeriesVaultModel", "text", "(III)I"⟩ [Cond.code ⟨"SeriesVaultModel", "text", "(III)I"⟩ prog_14_method_94_code 4 (some FieldType.int)] { frames := 2, cells := 0, slots := 0, locals := 21 } (pC D dA [.ref h, .int z, .int k, .int j] (MW dA h ad x) sz) (va_Qi (fun (r9 : Int32) (u9 : Unit) => r9 = 0) (fun (u9 : Unit) t9 => bW D (va_A (MW dA h ad x) sz) (MW dA h ad (MS.s_cod x 1)) t9) (va_A (MW dA h ad x) sz)) 0 0 (va_A (MW dA h ad x) sz) := by
  refine mkC (y := ⟨"SeriesVaultModel", "text", "(III)I"⟩) (cc := prog_14_method_94_code) (maxL := 4) (av := [.ref h, .int z, .int k, .int j]) (ws := MW dA h ad x) (sz := sz) (Qc := fun A => va_Qi (fun (r9 : Int32) (u9 : Unit) => r9 = 0) (fun (u9 : Unit) t9 => bW D A (MW dA h ad (MS.s_cod x 1)) t9) A) (by decide) (Nat.le_of_ble_eq_true rfl) ?_
  intro A p e s m below meth c ls hsz hB
  obtain ⟨hx, hb, hr, hml, hown, hin, hlk, hE, hK, hP, hD, hS, hA, hN, hl⟩ := hB
  have hown : s.vm.findClass "SeriesVaultModel" = some m.cls := hown
  have hl : lv_has ls 4 [(0, .ref h), (1, .int z), (2, .int k), (3, .int j)] := hl
  obtain ⟨H, hH⟩ : ∃ z, z = s.heap := ⟨_, rfl⟩
  have hP : va_P D vwCl (MW dA h ad x) H := by rw [hH]; exact hP
  have hS : va_S A s.heap H [] := by rw [hH]; exact hS
  rw [← hH]
  refine lv_aload_n hx hb d_M_text_0 rfl (lv_at hl 0 rfl) ?_
  refine lv_aload_n hx hb d_M_text_1 rfl (lv_at hl 0 rfl) ?_
  refine lv_iload_n hx hb d_M_text_2 rfl (lv_at hl 1 rfl) ?_
  refine jfI (rnV (As := [.int z]) (rest := [.ref h]) hx hb hml hown hE hK (hN _ _ hS) hP hD (k_isRow_0 l D dA H.size h ad x z h0) (q0 := 0) rfl rfl w329 w327 w330 w331 w328 rfl rfl ⟨⟨by decide, by decide⟩, rfl⟩ ⟨(Nat.le_of_ble_eq_true rfl), (Nat.le_of_ble_eq_true rfl)⟩ rfl hl.1 rfl (Nat.le_of_ble_eq_true rfl) d_M_text_3 ⟨(Nat.le_of_ble_eq_true rfl), (Nat.le_of_ble_eq_true rfl)⟩) hP hD hS hA (fun r1 u2 H locs hp9 hP hD hS => ?_)
  have hP : va_P D vwCl (MW dA h ad x) H := hP
  have hD : va_D A (MW dA h ad x) := hD
  replace hp9 : bI false = r1 := Eq.symm hp9
  subst hp9
  refine lv_if_eq hx hb d_M_text_6 (tgt := 13) rfl (fun _ => ?_) (fun h9 => absurd (by decide) h9)
  refine lv_iconst (v := 1) hx hb d_M_text_13 (by decide) ?_
  refine pF (v := .int 1) hx hb hown hE hK hP hD hS 0 rfl rfl layM tyM tokM nmM 0 (by decide) w319 rfl rfl rfl (Nat.le_of_ble_eq_true rfl) d_M_text_14 (fun H locs hP hD hS => ?_)
  have hP : va_P D vwCl (MW dA h ad (MS.s_cod x 1)) H := hP
  have hD : va_D A (MW dA h ad (MS.s_cod x 1)) := hD
  refine lv_aload_n hx hb d_M_text_17 rfl (lv_at hl 0 rfl) ?_
  refine gF (v := .int 1) hx hb hown hE hK hP 0 rfl rfl layM 0 (by decide) w319 rfl d_M_text_18 ?_
  refine lv_if_le hx hb d_M_text_21 (tgt := 28) rfl (fun h9 => absurd h9 (by decide)) (fun _ => ?_)
  refine lv_iconst (v := 0) hx hb d_M_text_24 (by decide) ?_
  refine lv_goto hx hb d_M_text_25 (tgt := 79) rfl ?_
  exact rfI hx hb hr hlk hS () rfl hP hD (Nat.le_of_ble_eq_true rfl) (Nat.le_of_ble_eq_true rfl) d_M_text_79
theorem d_M_text_9 : decode prog_14_method_94_code 9 = .ok (.iconst 0, 1) := by decide +kernel
theorem d_M_text_10 : decode prog_14_method_94_code 10 = .ok (.goto 4, 3) := by decide +kernel
theorem d_M_text_28 : decode prog_14_method_94_code 28 = .ok (.iload_n 2, 1) := by decide +kernel
theorem d_M_text_29 : decode prog_14_method_94_code 29 = .ok (.ifCond .lt 30, 3) := by decide +kernel
theorem d_M_text_59 : decode prog_14_method_94_code 59 = .ok (.iconst (-1), 1) := by decide +kernel
theorem d_M_text_60 : decode prog_14_method_94_code 60 = .ok (.goto 19, 3) := by decide +kernel
theorem d_M_text_32 : decode prog_14_method_94_code 32 = .ok (.iload_n 2, 1) := by decide +kernel
theorem d_M_text_33 : decode prog_14_method_94_code 33 = .ok (.aload_n 0, 1) := by decide +kernel
theorem d_M_text_34 : decode prog_14_method_94_code 34 = .ok (.getfield 495, 3) := by decide +kernel
theorem d_M_text_37 : decode prog_14_method_94_code 37 = .ok (.if_icmp .ge 22, 3) := by decide +kernel
set_option maxHeartbeats 4000000 in
set_option maxRecDepth 100000 in
theorem k_text_n (l : Launch) (D : va_G) (dA : Nat → ClassId) (sz : Nat) (h : Nat) (ad : Nat → Nat) (x : MS) (w : Nat) (k : Int32) (j : Int32) (ht : x.isTable = true) (hw : w < x.rows) (hr2 : x.rows ≤ 256) (h0 : k < 0 ∨ nI x.names ≤ k) : Met l ⟨"SeriesVaultModel", "text", "(III)I"⟩ [Cond.code ⟨"SeriesVaultModel", "text", "(III)I"⟩ prog_14_method_94_code 4 (some FieldType.int)] { frames := 2, cells := 0, slots := 0, locals := 21 } (pC D dA [.ref h, .int (nI w), .int k, .int j] (MW dA h ad x) sz) (va_Qi (fun (r9 : Int32) (u9 : Unit) => r9 = (-1)) (fun (u9 : Unit) t9 => bW D (va_A (MW dA h ad x) sz) (MW dA h ad (MS.s_cod x 0)) t9) (va_A (MW dA h ad x) sz)) 0 0 (va_A (MW dA h ad x) sz) := by
  refine mkC (y := ⟨"SeriesVaultModel", "text", "(III)I"⟩) (cc := prog_14_method_94_code) (maxL := 4) (av := [.ref h, .int (nI w), .int k, .int j]) (ws := MW dA h ad x) (sz := sz) (Qc := fun A => va_Qi (fun (r9 : Int32) (u9 : Unit) => r9 = (-1)) (fun (u9 : Unit) t9 => bW D A (MW dA h ad (MS.s_cod x 0)) t9) A) (by decide) (Nat.le_of_ble_eq_true rfl) ?_
  intro A p e s m below meth c ls hsz hB
  obtain ⟨hx, hb, hr, hml, hown, hin, hlk, hE, hK, hP, hD, hS, hA, hN, hl⟩ := hB
  have hown : s.vm.findClass "SeriesVaultModel" = some m.cls := hown
  have hl : lv_has ls 4 [(0, .ref h), (1, .int (nI w)), (2, .int k), (3, .int j)] := hl
  obtain ⟨H, hH⟩ : ∃ z, z = s.heap := ⟨_, rfl⟩
  have hP : va_P D vwCl (MW dA h ad x) H := by rw [hH]; exact hP
  have hS : va_S A s.heap H [] := by rw [hH]; exact hS
  rw [← hH]
  refine lv_aload_n hx hb d_M_text_0 rfl (lv_at hl 0 rfl) ?_
  refine lv_aload_n hx hb d_M_text_1 rfl (lv_at hl 0 rfl) ?_
  refine lv_iload_n hx hb d_M_text_2 rfl (lv_at hl 1 rfl) ?_
  refine jfI (rnV (As := [.int (nI w)]) (rest := [.ref h]) hx hb hml hown hE hK (hN _ _ hS) hP hD (k_isRow l D dA H.size h ad x w ht hw hr2) (q0 := 0) rfl rfl w329 w327 w330 w331 w328 rfl rfl ⟨⟨by decide, by decide⟩, rfl⟩ ⟨(Nat.le_of_ble_eq_true rfl), (Nat.le_of_ble_eq_true rfl)⟩ rfl hl.1 rfl (Nat.le_of_ble_eq_true rfl) d_M_text_3 ⟨(Nat.le_of_ble_eq_true rfl), (Nat.le_of_ble_eq_true rfl)⟩) hP hD hS hA (fun r1 u2 H locs hp9 hP hD hS => ?_)
  have hP : va_P D vwCl (MW dA h ad x) H := hP
  have hD : va_D A (MW dA h ad x) := hD
  replace hp9 : bI true = r1 := Eq.symm hp9
  subst hp9
  refine lv_if_eq hx hb d_M_text_6 (tgt := 13) rfl (fun h9 => absurd h9 (by decide)) (fun _ => ?_)
  refine lv_iconst (v := 0) hx hb d_M_text_9 (by decide) ?_
  refine lv_goto hx hb d_M_text_10 (tgt := 14) rfl ?_
  refine pF (v := .int 0) hx hb hown hE hK hP hD hS 0 rfl rfl layM tyM tokM nmM 0 (by decide) w319 rfl rfl rfl (Nat.le_of_ble_eq_true rfl) d_M_text_14 (fun H locs hP hD hS => ?_)
  have hP : va_P D vwCl (MW dA h ad (MS.s_cod x 0)) H := hP
  have hD : va_D A (MW dA h ad (MS.s_cod x 0)) := hD
  refine lv_aload_n hx hb d_M_text_17 rfl (lv_at hl 0 rfl) ?_
  refine gF (v := .int 0) hx hb hown hE hK hP 0 rfl rfl layM 0 (by decide) w319 rfl d_M_text_18 ?_
  refine lv_if_le hx hb d_M_text_21 (tgt := 28) rfl (fun _ => ?_) (fun h9 => absurd (by decide) h9)
  refine lv_iload_n hx hb d_M_text_28 rfl (lv_at hl 2 rfl) ?_
  refine lv_if_lt hx hb d_M_text_29 (tgt := 59) rfl (fun g3 => ?_) (fun g3 => ?_)
  · have g3 := g3
    refine lv_iconst (v := (-1)) hx hb d_M_text_59 (by decide) ?_
    refine lv_goto hx hb d_M_text_60 (tgt := 79) rfl ?_
    exact rfI hx hb hr hlk hS () rfl hP hD (Nat.le_of_ble_eq_true rfl) (Nat.le_of_ble_eq_true rfl) d_M_text_79
  · have g3 := g3
    refine lv_iload_n hx hb d_M_text_32 rfl (lv_at hl 2 rfl) ?_
    refine lv_aload_n hx hb d_M_text_33 rfl (lv_at hl 0 rfl) ?_
    refine gF (v := .int (nI x.names)) hx hb hown hE hK hP 0 rfl rfl layM 72 (by decide) w950 rfl d_M_text_34 ?_
    refine lv_icmp_ge hx hb d_M_text_37 (tgt := 59) rfl (fun _ => ?_) (fun h9 => absurd (h0.resolve_left (by assumption)) h9)
    refine lv_iconst (v := (-1)) hx hb d_M_text_59 (by decide) ?_
    refine lv_goto hx hb d_M_text_60 (tgt := 79) rfl ?_
    exact rfI hx hb hr hlk hS () rfl hP hD (Nat.le_of_ble_eq_true rfl) (Nat.le_of_ble_eq_true rfl) d_M_text_79
theorem d_M_text_40 : decode prog_14_method_94_code 40 = .ok (.iload_n 3, 1) := by decide +kernel
theorem d_M_text_41 : decode prog_14_method_94_code 41 = .ok (.ifCond .lt 18, 3) := by decide +kernel
theorem d_M_text_44 : decode prog_14_method_94_code 44 = .ok (.iload_n 3, 1) := by decide +kernel
theorem d_M_text_45 : decode prog_14_method_94_code 45 = .ok (.aload_n 0, 1) := by decide +kernel
theorem d_M_text_46 : decode prog_14_method_94_code 46 = .ok (.getfield 136, 3) := by decide +kernel
theorem d_M_text_49 : decode prog_14_method_94_code 49 = .ok (.bipush 6, 2) := by decide +kernel
theorem d_M_text_51 : decode prog_14_method_94_code 51 = .ok (.iload_n 1, 1) := by decide +kernel
theorem d_M_text_52 : decode prog_14_method_94_code 52 = .ok (.imul, 1) := by decide +kernel
theorem d_M_text_53 : decode prog_14_method_94_code 53 = .ok (.iload_n 2, 1) := by decide +kernel
theorem d_M_text_54 : decode prog_14_method_94_code 54 = .ok (.iadd, 1) := by decide +kernel
theorem d_M_text_55 : decode prog_14_method_94_code 55 = .ok (.iaload, 1) := by decide +kernel
theorem d_M_text_56 : decode prog_14_method_94_code 56 = .ok (.if_icmp .lt 7, 3) := by decide +kernel
set_option maxHeartbeats 4000000 in
set_option maxRecDepth 100000 in
theorem k_text_m (l : Launch) (D : va_G) (dA : Nat → ClassId) (sz : Nat) (h : Nat) (ad : Nat → Nat) (x : MS) (w : Nat) (k : Nat) (j : Int32) (ht : x.isTable = true) (hw : w < x.rows) (hr2 : x.rows ≤ 256) (hk : k < x.names) (hn : x.names ≤ 6) (h0 : j < 0 ∨ nI (x.rowLengths (6 * w + k)) ≤ j) : Met l ⟨"SeriesVaultModel", "text", "(III)I"⟩ [Cond.code ⟨"SeriesVaultModel", "text", "(III)I"⟩ prog_14_method_94_code 4 (some FieldType.int)] { frames := 2, cells := 0, slots := 0, locals := 21 } (pC D dA [.ref h, .int (nI w), .int (nI k), .int j] (MW dA h ad x) sz) (va_Qi (fun (r9 : Int32) (u9 : Unit) => r9 = (-1)) (fun (u9 : Unit) t9 => bW D (va_A (MW dA h ad x) sz) (MW dA h ad (MS.s_cod x 0)) t9) (va_A (MW dA h ad x) sz)) 0 0 (va_A (MW dA h ad x) sz) := by
  refine mkC (y := ⟨"SeriesVaultModel", "text", "(III)I"⟩) (cc := prog_14_method_94_code) (maxL := 4) (av := [.ref h, .int (nI w), .int (nI k), .int j]) (ws := MW dA h ad x) (sz := sz) (Qc := fun A => va_Qi (fun (r9 : Int32) (u9 : Unit) => r9 = (-1)) (fun (u9 : Unit) t9 => bW D A (MW dA h ad (MS.s_cod x 0)) t9) A) (by decide) (Nat.le_of_ble_eq_true rfl) ?_
  intro A p e s m below meth c ls hsz hB
  obtain ⟨hx, hb, hr, hml, hown, hin, hlk, hE, hK, hP, hD, hS, hA, hN, hl⟩ := hB
  have hown : s.vm.findClass "SeriesVaultModel" = some m.cls := hown
  have hl : lv_has ls 4 [(0, .ref h), (1, .int (nI w)), (2, .int (nI k)), (3, .int j)] := hl
  obtain ⟨H, hH⟩ : ∃ z, z = s.heap := ⟨_, rfl⟩
  have hP : va_P D vwCl (MW dA h ad x) H := by rw [hH]; exact hP
  have hS : va_S A s.heap H [] := by rw [hH]; exact hS
  rw [← hH]
  refine lv_aload_n hx hb d_M_text_0 rfl (lv_at hl 0 rfl) ?_
  refine lv_aload_n hx hb d_M_text_1 rfl (lv_at hl 0 rfl) ?_
  refine lv_iload_n hx hb d_M_text_2 rfl (lv_at hl 1 rfl) ?_
  refine jfI (rnV (As := [.int (nI w)]) (rest := [.ref h]) hx hb hml hown hE hK (hN _ _ hS) hP hD (k_isRow l D dA H.size h ad x w ht hw hr2) (q0 := 0) rfl rfl w329 w327 w330 w331 w328 rfl rfl ⟨⟨by decide, by decide⟩, rfl⟩ ⟨(Nat.le_of_ble_eq_true rfl), (Nat.le_of_ble_eq_true rfl)⟩ rfl hl.1 rfl (Nat.le_of_ble_eq_true rfl) d_M_text_3 ⟨(Nat.le_of_ble_eq_true rfl), (Nat.le_of_ble_eq_true rfl)⟩) hP hD hS hA (fun r1 u2 H locs hp9 hP hD hS => ?_)
  have hP : va_P D vwCl (MW dA h ad x) H := hP
  have hD : va_D A (MW dA h ad x) := hD
  replace hp9 : bI true = r1 := Eq.symm hp9
  subst hp9
  refine lv_if_eq hx hb d_M_text_6 (tgt := 13) rfl (fun h9 => absurd h9 (by decide)) (fun _ => ?_)
  refine lv_iconst (v := 0) hx hb d_M_text_9 (by decide) ?_
  refine lv_goto hx hb d_M_text_10 (tgt := 14) rfl ?_
  refine pF (v := .int 0) hx hb hown hE hK hP hD hS 0 rfl rfl layM tyM tokM nmM 0 (by decide) w319 rfl rfl rfl (Nat.le_of_ble_eq_true rfl) d_M_text_14 (fun H locs hP hD hS => ?_)
  have hP : va_P D vwCl (MW dA h ad (MS.s_cod x 0)) H := hP
  have hD : va_D A (MW dA h ad (MS.s_cod x 0)) := hD
  refine lv_aload_n hx hb d_M_text_17 rfl (lv_at hl 0 rfl) ?_
  refine gF (v := .int 0) hx hb hown hE hK hP 0 rfl rfl layM 0 (by decide) w319 rfl d_M_text_18 ?_
  refine lv_if_le hx hb d_M_text_21 (tgt := 28) rfl (fun _ => ?_) (fun h9 => absurd (by decide) h9)
  refine lv_iload_n hx hb d_M_text_28 rfl (lv_at hl 2 rfl) ?_
  refine lv_if_lt hx hb d_M_text_29 (tgt := 59) rfl (fun h9 => absurd h9 (nI_pos (n := k) (by omega))) (fun _ => ?_)
  refine lv_iload_n hx hb d_M_text_32 rfl (lv_at hl 2 rfl) ?_
  refine lv_aload_n hx hb d_M_text_33 rfl (lv_at hl 0 rfl) ?_
  refine gF (v := .int (nI x.names)) hx hb hown hE hK hP 0 rfl rfl layM 72 (by decide) w950 rfl d_M_text_34 ?_
  refine lv_icmp_ge hx hb d_M_text_37 (tgt := 59) rfl (fun h9 => absurd h9 (mt (nI_leI (a := x.names) (b := k) (by omega) (by omega)).mp (Nat.not_le.mpr hk))) (fun _ => ?_)
  refine lv_iload_n hx hb d_M_text_40 rfl (lv_at hl 3 rfl) ?_
  refine lv_if_lt hx hb d_M_text_41 (tgt := 59) rfl (fun g3 => ?_) (fun g3 => ?_)
  · have g3 := g3
    refine lv_iconst (v := (-1)) hx hb d_M_text_59 (by decide) ?_
    refine lv_goto hx hb d_M_text_60 (tgt := 79) rfl ?_
    exact rfI hx hb hr hlk hS () rfl hP hD (Nat.le_of_ble_eq_true rfl) (Nat.le_of_ble_eq_true rfl) d_M_text_79
  · have g3 := g3
    refine lv_iload_n hx hb d_M_text_44 rfl (lv_at hl 3 rfl) ?_
    refine lv_aload_n hx hb d_M_text_45 rfl (lv_at hl 0 rfl) ?_
    refine gF (v := .ref (ad 76)) hx hb hown hE hK hP 0 rfl rfl layM 76 (by decide) w536 rfl d_M_text_46 ?_
    refine lv_bipush (v := 6) hx hb d_M_text_49 (by decide) ?_
    refine lv_iload_n hx hb d_M_text_51 rfl (lv_at hl 1 rfl) ?_
    refine lv_imul hx hb d_M_text_52 (tpi (y := nI (6 * w)) (pk_mul (6) (w)) ?_)
    refine lv_iload_n hx hb d_M_text_53 rfl (lv_at hl 2 rfl) ?_
    refine lv_iadd hx hb d_M_text_54 (tpi (y := nI ((6 * w) + k)) (nI_add (6 * w) (k)) ?_)
    refine nild (f := (fun z9 => nI (x.rowLengths z9))) hx hb hK hP 36 1 rfl rfl ((6 * w) + k) (by omega) (by decide) d_M_text_55 ?_
    refine lv_icmp_lt hx hb d_M_text_56 (tgt := 63) rfl (fun h9 => absurd h9 (Int32.not_lt.mpr (h0.resolve_left (by assumption)))) (fun _ => ?_)
    refine lv_iconst (v := (-1)) hx hb d_M_text_59 (by decide) ?_
    refine lv_goto hx hb d_M_text_60 (tgt := 79) rfl ?_
    exact rfI hx hb hr hlk hS () rfl hP hD (Nat.le_of_ble_eq_true rfl) (Nat.le_of_ble_eq_true rfl) d_M_text_79
theorem d_M_text_63 : decode prog_14_method_94_code 63 = .ok (.aload_n 0, 1) := by decide +kernel
theorem d_M_text_64 : decode prog_14_method_94_code 64 = .ok (.getfield 133, 3) := by decide +kernel
theorem d_M_text_67 : decode prog_14_method_94_code 67 = .ok (.bipush 6, 2) := by decide +kernel
theorem d_M_text_69 : decode prog_14_method_94_code 69 = .ok (.iload_n 1, 1) := by decide +kernel
theorem d_M_text_70 : decode prog_14_method_94_code 70 = .ok (.imul, 1) := by decide +kernel
theorem d_M_text_71 : decode prog_14_method_94_code 71 = .ok (.iload_n 2, 1) := by decide +kernel
theorem d_M_text_72 : decode prog_14_method_94_code 72 = .ok (.iadd, 1) := by decide +kernel
theorem d_M_text_73 : decode prog_14_method_94_code 73 = .ok (.bipush 24, 2) := by decide +kernel
theorem d_M_text_75 : decode prog_14_method_94_code 75 = .ok (.imul, 1) := by decide +kernel
theorem d_M_text_76 : decode prog_14_method_94_code 76 = .ok (.iload_n 3, 1) := by decide +kernel
theorem d_M_text_77 : decode prog_14_method_94_code 77 = .ok (.iadd, 1) := by decide +kernel
theorem d_M_text_78 : decode prog_14_method_94_code 78 = .ok (.baload, 1) := by decide +kernel
set_option maxHeartbeats 4000000 in
set_option maxRecDepth 100000 in
theorem k_text_0 (l : Launch) (D : va_G) (dA : Nat → ClassId) (sz : Nat) (h : Nat) (ad : Nat → Nat) (x : MS) (w : Nat) (k : Nat) (j : Nat) (ht : x.isTable = true) (hw : w < x.rows) (hr2 : x.rows ≤ 256) (hk : k < x.names) (hn : x.names ≤ 6) (hj : j < x.rowLengths ((6 * w) + k)) (hj2 : x.rowLengths (6 * w + k) ≤ 24) : Met l ⟨"SeriesVaultModel", "text", "(III)I"⟩ [Cond.code ⟨"SeriesVaultModel", "text", "(III)I"⟩ prog_14_method_94_code 4 (some FieldType.int)] { frames := 2, cells := 0, slots := 0, locals := 21 } (pC D dA [.ref h, .int (nI w), .int (nI k), .int (nI j)] (MW dA h ad x) sz) (va_Qi (fun (r9 : Int32) (u9 : Unit) => r9 = x.rowTexts ((6 * w + k) * 24 + j)) (fun (u9 : Unit) t9 => bW D (va_A (MW dA h ad x) sz) (MW dA h ad (MS.s_cod x 0)) t9) (va_A (MW dA h ad x) sz)) 0 0 (va_A (MW dA h ad x) sz) := by
  refine mkC (y := ⟨"SeriesVaultModel", "text", "(III)I"⟩) (cc := prog_14_method_94_code) (maxL := 4) (av := [.ref h, .int (nI w), .int (nI k), .int (nI j)]) (ws := MW dA h ad x) (sz := sz) (Qc := fun A => va_Qi (fun (r9 : Int32) (u9 : Unit) => r9 = x.rowTexts ((6 * w + k) * 24 + j)) (fun (u9 : Unit) t9 => bW D A (MW dA h ad (MS.s_cod x 0)) t9) A) (by decide) (Nat.le_of_ble_eq_true rfl) ?_
  intro A p e s m below meth c ls hsz hB
  obtain ⟨hx, hb, hr, hml, hown, hin, hlk, hE, hK, hP, hD, hS, hA, hN, hl⟩ := hB
  have hown : s.vm.findClass "SeriesVaultModel" = some m.cls := hown
  have hl : lv_has ls 4 [(0, .ref h), (1, .int (nI w)), (2, .int (nI k)), (3, .int (nI j))] := hl
  obtain ⟨H, hH⟩ : ∃ z, z = s.heap := ⟨_, rfl⟩
  have hP : va_P D vwCl (MW dA h ad x) H := by rw [hH]; exact hP
  have hS : va_S A s.heap H [] := by rw [hH]; exact hS
  rw [← hH]
  refine lv_aload_n hx hb d_M_text_0 rfl (lv_at hl 0 rfl) ?_
  refine lv_aload_n hx hb d_M_text_1 rfl (lv_at hl 0 rfl) ?_
  refine lv_iload_n hx hb d_M_text_2 rfl (lv_at hl 1 rfl) ?_
  refine jfI (rnV (As := [.int (nI w)]) (rest := [.ref h]) hx hb hml hown hE hK (hN _ _ hS) hP hD (k_isRow l D dA H.size h ad x w ht hw hr2) (q0 := 0) rfl rfl w329 w327 w330 w331 w328 rfl rfl ⟨⟨by decide, by decide⟩, rfl⟩ ⟨(Nat.le_of_ble_eq_true rfl), (Nat.le_of_ble_eq_true rfl)⟩ rfl hl.1 rfl (Nat.le_of_ble_eq_true rfl) d_M_text_3 ⟨(Nat.le_of_ble_eq_true rfl), (Nat.le_of_ble_eq_true rfl)⟩) hP hD hS hA (fun r1 u2 H locs hp9 hP hD hS => ?_)
  have hP : va_P D vwCl (MW dA h ad x) H := hP
  have hD : va_D A (MW dA h ad x) := hD
  replace hp9 : bI true = r1 := Eq.symm hp9
  subst hp9
  refine lv_if_eq hx hb d_M_text_6 (tgt := 13) rfl (fun h9 => absurd h9 (by decide)) (fun _ => ?_)
  refine lv_iconst (v := 0) hx hb d_M_text_9 (by decide) ?_
  refine lv_goto hx hb d_M_text_10 (tgt := 14) rfl ?_
  refine pF (v := .int 0) hx hb hown hE hK hP hD hS 0 rfl rfl layM tyM tokM nmM 0 (by decide) w319 rfl rfl rfl (Nat.le_of_ble_eq_true rfl) d_M_text_14 (fun H locs hP hD hS => ?_)
  have hP : va_P D vwCl (MW dA h ad (MS.s_cod x 0)) H := hP
  have hD : va_D A (MW dA h ad (MS.s_cod x 0)) := hD
  refine lv_aload_n hx hb d_M_text_17 rfl (lv_at hl 0 rfl) ?_
  refine gF (v := .int 0) hx hb hown hE hK hP 0 rfl rfl layM 0 (by decide) w319 rfl d_M_text_18 ?_
  refine lv_if_le hx hb d_M_text_21 (tgt := 28) rfl (fun _ => ?_) (fun h9 => absurd (by decide) h9)
  refine lv_iload_n hx hb d_M_text_28 rfl (lv_at hl 2 rfl) ?_
  refine lv_if_lt hx hb d_M_text_29 (tgt := 59) rfl (fun h9 => absurd h9 (nI_pos (n := k) (by omega))) (fun _ => ?_)
  refine lv_iload_n hx hb d_M_text_32 rfl (lv_at hl 2 rfl) ?_
  refine lv_aload_n hx hb d_M_text_33 rfl (lv_at hl 0 rfl) ?_
  refine gF (v := .int (nI x.names)) hx hb hown hE hK hP 0 rfl rfl layM 72 (by decide) w950 rfl d_M_text_34 ?_
  refine lv_icmp_ge hx hb d_M_text_37 (tgt := 59) rfl (fun h9 => absurd h9 (mt (nI_leI (a := x.names) (b := k) (by omega) (by omega)).mp (Nat.not_le.mpr hk))) (fun _ => ?_)
  refine lv_iload_n hx hb d_M_text_40 rfl (lv_at hl 3 rfl) ?_
  refine lv_if_lt hx hb d_M_text_41 (tgt := 59) rfl (fun h9 => absurd h9 (nI_pos (n := j) (by omega))) (fun _ => ?_)
  refine lv_iload_n hx hb d_M_text_44 rfl (lv_at hl 3 rfl) ?_
  refine lv_aload_n hx hb d_M_text_45 rfl (lv_at hl 0 rfl) ?_
  refine gF (v := .ref (ad 76)) hx hb hown hE hK hP 0 rfl rfl layM 76 (by decide) w536 rfl d_M_text_46 ?_
  refine lv_bipush (v := 6) hx hb d_M_text_49 (by decide) ?_
  refine lv_iload_n hx hb d_M_text_51 rfl (lv_at hl 1 rfl) ?_
  refine lv_imul hx hb d_M_text_52 (tpi (y := nI (6 * w)) (pk_mul (6) (w)) ?_)
  refine lv_iload_n hx hb d_M_text_53 rfl (lv_at hl 2 rfl) ?_
  refine lv_iadd hx hb d_M_text_54 (tpi (y := nI ((6 * w) + k)) (nI_add (6 * w) (k)) ?_)
  refine nild (f := (fun z9 => nI (x.rowLengths z9))) hx hb hK hP 36 1 rfl rfl ((6 * w) + k) (by omega) (by decide) d_M_text_55 ?_
  refine lv_icmp_lt hx hb d_M_text_56 (tgt := 63) rfl (fun _ => ?_) (fun h9 => absurd ((nI_ltI (a := j) (b := x.rowLengths ((6 * w) + k)) (by omega) (by omega)).mpr hj) h9)
  refine lv_aload_n hx hb d_M_text_63 rfl (lv_at hl 0 rfl) ?_
  refine gF (v := .ref (ad 75)) hx hb hown hE hK hP 0 rfl rfl layM 75 (by decide) w535 rfl d_M_text_64 ?_
  refine lv_bipush (v := 6) hx hb d_M_text_67 (by decide) ?_
  refine lv_iload_n hx hb d_M_text_69 rfl (lv_at hl 1 rfl) ?_
  refine lv_imul hx hb d_M_text_70 (tpi (y := nI (6 * w)) (pk_mul (6) (w)) ?_)
  refine lv_iload_n hx hb d_M_text_71 rfl (lv_at hl 2 rfl) ?_
  refine lv_iadd hx hb d_M_text_72 (tpi (y := nI ((6 * w) + k)) (nI_add (6 * w) (k)) ?_)
  refine lv_bipush (v := 24) hx hb d_M_text_73 (by decide) ?_
  refine lv_imul hx hb d_M_text_75 (tpi (y := nI (((6 * w) + k) * 24)) (pk_mul ((6 * w) + k) (24)) ?_)
  refine lv_iload_n hx hb d_M_text_76 rfl (lv_at hl 3 rfl) ?_
  refine lv_iadd hx hb d_M_text_77 (tpi (y := nI ((((6 * w) + k) * 24) + j)) (nI_add (((6 * w) + k) * 24) (j)) ?_)
  refine nbld (f := x.rowTexts) hx hb hK hP 35 0 rfl rfl ((((6 * w) + k) * 24) + j) (by omega) (by decide) d_M_text_78 ?_
  exact rfI hx hb hr hlk hS () rfl hP hD (Nat.le_of_ble_eq_true rfl) (Nat.le_of_ble_eq_true rfl) d_M_text_79
set_option maxHeartbeats 4000000 in
set_option maxRecDepth 100000 in
theorem k_isThere_1 (l : Launch) (D : va_G) (dA : Nat → ClassId) (sz : Nat) (h : Nat) (ad : Nat → Nat) (x : MS) (z : Int32) (k : Int32) (h0 : x.isTable = false ∨ z < 0 ∨ nI x.rows ≤ z) : Met l ⟨"SeriesVaultModel", "isThere", "(II)Z"⟩ [Cond.code ⟨"SeriesVaultModel", "isThere", "(II)Z"⟩ prog_14_method_95_code 3 (some FieldType.boolean)] { frames := 2, cells := 0, slots := 0, locals := 21 } (pC D dA [.ref h, .int z, .int k] (MW dA h ad x) sz) (va_Qi (fun (r9 : Int32) (u9 : Unit) => r9 = bI false) (fun (u9 : Unit) t9 => bW D (va_A (MW dA h ad x) sz) (MW dA h ad (MS.s_cod x 1)) t9) (va_A (MW dA h ad x) sz)) 0 0 (va_A (MW dA h ad x) sz) := by
  refine mkC (y := ⟨"SeriesVaultModel", "isThere", "(II)Z"⟩) (cc := prog_14_method_95_code) (maxL := 3) (av := [.ref h, .int z, .int k]) (ws := MW dA h ad x) (sz := sz) (Qc := fun A => va_Qi (fun (r9 : Int32) (u9 : Unit) => r9 = bI false) (fun (u9 : Unit) t9 => bW D A (MW dA h ad (MS.s_cod x 1)) t9) A) (by decide) (Nat.le_of_ble_eq_true rfl) ?_
  intro A p e s m below meth c ls hsz hB
  obtain ⟨hx, hb, hr, hml, hown, hin, hlk, hE, hK, hP, hD, hS, hA, hN, hl⟩ := hB
  have hown : s.vm.findClass "SeriesVaultModel" = some m.cls := hown
  have hl : lv_has ls 3 [(0, .ref h), (1, .int z), (2, .int k)] := hl
  obtain ⟨H, hH⟩ : ∃ z, z = s.heap := ⟨_, rfl⟩
  have hP : va_P D vwCl (MW dA h ad x) H := by rw [hH]; exact hP
  have hS : va_S A s.heap H [] := by rw [hH]; exact hS
  rw [← hH]
  refine lv_aload_n hx hb d_M_isThere_0 rfl (lv_at hl 0 rfl) ?_
  refine lv_aload_n hx hb d_M_isThere_1 rfl (lv_at hl 0 rfl) ?_
  refine lv_iload_n hx hb d_M_isThere_2 rfl (lv_at hl 1 rfl) ?_
  refine jfI (rnV (As := [.int z]) (rest := [.ref h]) hx hb hml hown hE hK (hN _ _ hS) hP hD (k_isRow_0 l D dA H.size h ad x z h0) (q0 := 0) rfl rfl w329 w327 w330 w331 w328 rfl rfl ⟨⟨by decide, by decide⟩, rfl⟩ ⟨(Nat.le_of_ble_eq_true rfl), (Nat.le_of_ble_eq_true rfl)⟩ rfl hl.1 rfl (Nat.le_of_ble_eq_true rfl) d_M_isThere_3 ⟨(Nat.le_of_ble_eq_true rfl), (Nat.le_of_ble_eq_true rfl)⟩) hP hD hS hA (fun r1 u2 H locs hp9 hP hD hS => ?_)
  have hP : va_P D vwCl (MW dA h ad x) H := hP
  have hD : va_D A (MW dA h ad x) := hD
  replace hp9 : bI false = r1 := Eq.symm hp9
  subst hp9
  refine lv_if_eq hx hb d_M_isThere_6 (tgt := 25) rfl (fun _ => ?_) (fun h9 => absurd (by decide) h9)
  refine lv_iconst (v := 1) hx hb d_M_isThere_25 (by decide) ?_
  refine pF (v := .int 1) hx hb hown hE hK hP hD hS 0 rfl rfl layM tyM tokM nmM 0 (by decide) w319 rfl rfl rfl (Nat.le_of_ble_eq_true rfl) d_M_isThere_26 (fun H locs hP hD hS => ?_)
  have hP : va_P D vwCl (MW dA h ad (MS.s_cod x 1)) H := hP
  have hD : va_D A (MW dA h ad (MS.s_cod x 1)) := hD
  refine lv_aload_n hx hb d_M_isThere_29 rfl (lv_at hl 0 rfl) ?_
  refine gF (v := .int 1) hx hb hown hE hK hP 0 rfl rfl layM 0 (by decide) w319 rfl d_M_isThere_30 ?_
  refine lv_if_ne hx hb d_M_isThere_33 (tgt := 54) rfl (fun _ => ?_) (fun h9 => absurd h9 (by decide))
  refine lv_iconst (v := 0) hx hb d_M_isThere_54 (by decide) ?_
  exact rfZ hx hb hr (bI_nar false) hlk hS () rfl hP hD (Nat.le_of_ble_eq_true rfl) (Nat.le_of_ble_eq_true rfl) d_M_isThere_55
theorem d_M_isThere_9 : decode prog_14_method_95_code 9 = .ok (.iload_n 2, 1) := by decide +kernel
theorem d_M_isThere_10 : decode prog_14_method_95_code 10 = .ok (.ifCond .lt 15, 3) := by decide +kernel
theorem d_M_isThere_13 : decode prog_14_method_95_code 13 = .ok (.iload_n 2, 1) := by decide +kernel
theorem d_M_isThere_14 : decode prog_14_method_95_code 14 = .ok (.aload_n 0, 1) := by decide +kernel
theorem d_M_isThere_15 : decode prog_14_method_95_code 15 = .ok (.getfield 501, 3) := by decide +kernel
theorem d_M_isThere_18 : decode prog_14_method_95_code 18 = .ok (.if_icmp .ge 7, 3) := by decide +kernel
theorem w952 : Cond.fieldLink "SeriesVaultModel" 501 "SeriesVaultModel" "shownWindows" "I" ∈ aW := aw_of (tb_9 (List.mem_of_getElem? (i := 8) rfl)) rfl
set_option maxHeartbeats 4000000 in
set_option maxRecDepth 100000 in
theorem k_isThere_2 (l : Launch) (D : va_G) (dA : Nat → ClassId) (sz : Nat) (h : Nat) (ad : Nat → Nat) (x : MS) (w : Nat) (k : Int32) (ht : x.isTable = true) (hw : w < x.rows) (hr2 : x.rows ≤ 256) (h0 : k < 0 ∨ nI x.shownWindows ≤ k) : Met l ⟨"SeriesVaultModel", "isThere", "(II)Z"⟩ [Cond.code ⟨"SeriesVaultModel", "isThere", "(II)Z"⟩ prog_14_method_95_code 3 (some FieldType.boolean)] { frames := 2, cells := 0, slots := 0, locals := 21 } (pC D dA [.ref h, .int (nI w), .int k] (MW dA h ad x) sz) (va_Qi (fun (r9 : Int32) (u9 : Unit) => r9 = bI false) (fun (u9 : Unit) t9 => bW D (va_A (MW dA h ad x) sz) (MW dA h ad (MS.s_cod x 1)) t9) (va_A (MW dA h ad x) sz)) 0 0 (va_A (MW dA h ad x) sz) := by
  refine mkC (y := ⟨"SeriesVaultModel", "isThere", "(II)Z"⟩) (cc := prog_14_method_95_code) (maxL := 3) (av := [.ref h, .int (nI w), .int k]) (ws := MW dA h ad x) (sz := sz) (Qc := fun A => va_Qi (fun (r9 : Int32) (u9 : Unit) => r9 = bI false) (fun (u9 : Unit) t9 => bW D A (MW dA h ad (MS.s_cod x 1)) t9) A) (by decide) (Nat.le_of_ble_eq_true rfl) ?_
  intro A p e s m below meth c ls hsz hB
  obtain ⟨hx, hb, hr, hml, hown, hin, hlk, hE, hK, hP, hD, hS, hA, hN, hl⟩ := hB
  have hown : s.vm.findClass "SeriesVaultModel" = some m.cls := hown
  have hl : lv_has ls 3 [(0, .ref h), (1, .int (nI w)), (2, .int k)] := hl
  obtain ⟨H, hH⟩ : ∃ z, z = s.heap := ⟨_, rfl⟩
  have hP : va_P D vwCl (MW dA h ad x) H := by rw [hH]; exact hP
  have hS : va_S A s.heap H [] := by rw [hH]; exact hS
  rw [← hH]
  refine lv_aload_n hx hb d_M_isThere_0 rfl (lv_at hl 0 rfl) ?_
  refine lv_aload_n hx hb d_M_isThere_1 rfl (lv_at hl 0 rfl) ?_
  refine lv_iload_n hx hb d_M_isThere_2 rfl (lv_at hl 1 rfl) ?_
  refine jfI (rnV (As := [.int (nI w)]) (rest := [.ref h]) hx hb hml hown hE hK (hN _ _ hS) hP hD (k_isRow l D dA H.size h ad x w ht hw hr2) (q0 := 0) rfl rfl w329 w327 w330 w331 w328 rfl rfl ⟨⟨by decide, by decide⟩, rfl⟩ ⟨(Nat.le_of_ble_eq_true rfl), (Nat.le_of_ble_eq_true rfl)⟩ rfl hl.1 rfl (Nat.le_of_ble_eq_true rfl) d_M_isThere_3 ⟨(Nat.le_of_ble_eq_true rfl), (Nat.le_of_ble_eq_true rfl)⟩) hP hD hS hA (fun r1 u2 H locs hp9 hP hD hS => ?_)
  have hP : va_P D vwCl (MW dA h ad x) H := hP
  have hD : va_D A (MW dA h ad x) := hD
  replace hp9 : bI true = r1 := Eq.symm hp9
  subst hp9
  refine lv_if_eq hx hb d_M_isThere_6 (tgt := 25) rfl (fun h9 => absurd h9 (by decide)) (fun _ => ?_)
  refine lv_iload_n hx hb d_M_isThere_9 rfl (lv_at hl 2 rfl) ?_
  refine lv_if_lt hx hb d_M_isThere_10 (tgt := 25) rfl (fun g3 => ?_) (fun g3 => ?_)
  · have g3 := g3
    refine lv_iconst (v := 1) hx hb d_M_isThere_25 (by decide) ?_
    refine pF (v := .int 1) hx hb hown hE hK hP hD hS 0 rfl rfl layM tyM tokM nmM 0 (by decide) w319 rfl rfl rfl (Nat.le_of_ble_eq_true rfl) d_M_isThere_26 (fun H locs hP hD hS => ?_)
    have hP : va_P D vwCl (MW dA h ad (MS.s_cod x 1)) H := hP
    have hD : va_D A (MW dA h ad (MS.s_cod x 1)) := hD
    refine lv_aload_n hx hb d_M_isThere_29 rfl (lv_at hl 0 rfl) ?_
    refine gF (v := .int 1) hx hb hown hE hK hP 0 rfl rfl layM 0 (by decide) w319 rfl d_M_isThere_30 ?_
    refine lv_if_ne hx hb d_M_isThere_33 (tgt := 54) rfl (fun _ => ?_) (fun h9 => absurd h9 (by decide))
    refine lv_iconst (v := 0) hx hb d_M_isThere_54 (by decide) ?_
    exact rfZ hx hb hr (bI_nar false) hlk hS () rfl hP hD (Nat.le_of_ble_eq_true rfl) (Nat.le_of_ble_eq_true rfl) d_M_isThere_55
  · have g3 := g3
    refine lv_iload_n hx hb d_M_isThere_13 rfl (lv_at hl 2 rfl) ?_
    refine lv_aload_n hx hb d_M_isThere_14 rfl (lv_at hl 0 rfl) ?_
    refine gF (v := .int (nI x.shownWindows)) hx hb hown hE hK hP 0 rfl rfl layM 74 (by decide) w952 rfl d_M_isThere_15 ?_
    refine lv_icmp_ge hx hb d_M_isThere_18 (tgt := 25) rfl (fun _ => ?_) (fun h9 => absurd (h0.resolve_left (by assumption)) h9)
    refine lv_iconst (v := 1) hx hb d_M_isThere_25 (by decide) ?_
    refine pF (v := .int 1) hx hb hown hE hK hP hD hS 0 rfl rfl layM tyM tokM nmM 0 (by decide) w319 rfl rfl rfl (Nat.le_of_ble_eq_true rfl) d_M_isThere_26 (fun H locs hP hD hS => ?_)
    have hP : va_P D vwCl (MW dA h ad (MS.s_cod x 1)) H := hP
    have hD : va_D A (MW dA h ad (MS.s_cod x 1)) := hD
    refine lv_aload_n hx hb d_M_isThere_29 rfl (lv_at hl 0 rfl) ?_
    refine gF (v := .int 1) hx hb hown hE hK hP 0 rfl rfl layM 0 (by decide) w319 rfl d_M_isThere_30 ?_
    refine lv_if_ne hx hb d_M_isThere_33 (tgt := 54) rfl (fun _ => ?_) (fun h9 => absurd h9 (by decide))
    refine lv_iconst (v := 0) hx hb d_M_isThere_54 (by decide) ?_
    exact rfZ hx hb hr (bI_nar false) hlk hS () rfl hP hD (Nat.le_of_ble_eq_true rfl) (Nat.le_of_ble_eq_true rfl) d_M_isThere_55
theorem d_M_isThere_21 : decode prog_14_method_95_code 21 = .ok (.iconst 0, 1) := by decide +kernel
theorem d_M_isThere_22 : decode prog_14_method_95_code 22 = .ok (.goto 4, 3) := by decide +kernel
theorem d_M_isThere_36 : decode prog_14_method_95_code 36 = .ok (.aload_n 0, 1) := by decide +kernel
theorem d_M_isThere_37 : decode prog_14_method_95_code 37 = .ok (.getfield 142, 3) := by decide +kernel
theorem d_M_isThere_40 : decode prog_14_method_95_code 40 = .ok (.bipush 64, 2) := by decide +kernel
theorem d_M_isThere_42 : decode prog_14_method_95_code 42 = .ok (.iload_n 1, 1) := by decide +kernel
theorem d_M_isThere_43 : decode prog_14_method_95_code 43 = .ok (.imul, 1) := by decide +kernel
theorem d_M_isThere_44 : decode prog_14_method_95_code 44 = .ok (.iload_n 2, 1) := by decide +kernel
theorem d_M_isThere_45 : decode prog_14_method_95_code 45 = .ok (.iadd, 1) := by decide +kernel
theorem d_M_isThere_46 : decode prog_14_method_95_code 46 = .ok (.baload, 1) := by decide +kernel
theorem d_M_isThere_47 : decode prog_14_method_95_code 47 = .ok (.ifCond .eq 7, 3) := by decide +kernel
theorem d_M_isThere_50 : decode prog_14_method_95_code 50 = .ok (.iconst 1, 1) := by decide +kernel
theorem d_M_isThere_51 : decode prog_14_method_95_code 51 = .ok (.goto 4, 3) := by decide +kernel
set_option maxHeartbeats 4000000 in
set_option maxRecDepth 100000 in
theorem k_isThere_t (l : Launch) (D : va_G) (dA : Nat → ClassId) (sz : Nat) (h : Nat) (ad : Nat → Nat) (x : MS) (w : Nat) (k : Nat) (ht : x.isTable = true) (hw : w < x.rows) (hr2 : x.rows ≤ 256) (hk : k < x.shownWindows) (hk2 : x.shownWindows ≤ 64) (hs : x.isShown ((64 * w) + k) = true) : Met l ⟨"SeriesVaultModel", "isThere", "(II)Z"⟩ [Cond.code ⟨"SeriesVaultModel", "isThere", "(II)Z"⟩ prog_14_method_95_code 3 (some FieldType.boolean)] { frames := 2, cells := 0, slots := 0, locals := 21 } (pC D dA [.ref h, .int (nI w), .int (nI k)] (MW dA h ad x) sz) (va_Qi (fun (r9 : Int32) (u9 : Unit) => r9 = bI true) (fun (u9 : Unit) t9 => bW D (va_A (MW dA h ad x) sz) (MW dA h ad (MS.s_cod x 0)) t9) (va_A (MW dA h ad x) sz)) 0 0 (va_A (MW dA h ad x) sz) := by
  refine mkC (y := ⟨"SeriesVaultModel", "isThere", "(II)Z"⟩) (cc := prog_14_method_95_code) (maxL := 3) (av := [.ref h, .int (nI w), .int (nI k)]) (ws := MW dA h ad x) (sz := sz) (Qc := fun A => va_Qi (fun (r9 : Int32) (u9 : Unit) => r9 = bI true) (fun (u9 : Unit) t9 => bW D A (MW dA h ad (MS.s_cod x 0)) t9) A) (by decide) (Nat.le_of_ble_eq_true rfl) ?_
  intro A p e s m below meth c ls hsz hB
  obtain ⟨hx, hb, hr, hml, hown, hin, hlk, hE, hK, hP, hD, hS, hA, hN, hl⟩ := hB
  have hown : s.vm.findClass "SeriesVaultModel" = some m.cls := hown
  have hl : lv_has ls 3 [(0, .ref h), (1, .int (nI w)), (2, .int (nI k))] := hl
  obtain ⟨H, hH⟩ : ∃ z, z = s.heap := ⟨_, rfl⟩
  have hP : va_P D vwCl (MW dA h ad x) H := by rw [hH]; exact hP
  have hS : va_S A s.heap H [] := by rw [hH]; exact hS
  rw [← hH]
  refine lv_aload_n hx hb d_M_isThere_0 rfl (lv_at hl 0 rfl) ?_
  refine lv_aload_n hx hb d_M_isThere_1 rfl (lv_at hl 0 rfl) ?_
  refine lv_iload_n hx hb d_M_isThere_2 rfl (lv_at hl 1 rfl) ?_
  refine jfI (rnV (As := [.int (nI w)]) (rest := [.ref h]) hx hb hml hown hE hK (hN _ _ hS) hP hD (k_isRow l D dA H.size h ad x w ht hw hr2) (q0 := 0) rfl rfl w329 w327 w330 w331 w328 rfl rfl ⟨⟨by decide, by decide⟩, rfl⟩ ⟨(Nat.le_of_ble_eq_true rfl), (Nat.le_of_ble_eq_true rfl)⟩ rfl hl.1 rfl (Nat.le_of_ble_eq_true rfl) d_M_isThere_3 ⟨(Nat.le_of_ble_eq_true rfl), (Nat.le_of_ble_eq_true rfl)⟩) hP hD hS hA (fun r1 u2 H locs hp9 hP hD hS => ?_)
  have hP : va_P D vwCl (MW dA h ad x) H := hP
  have hD : va_D A (MW dA h ad x) := hD
  replace hp9 : bI true = r1 := Eq.symm hp9
  subst hp9
  refine lv_if_eq hx hb d_M_isThere_6 (tgt := 25) rfl (fun h9 => absurd h9 (by decide)) (fun _ => ?_)
  refine lv_iload_n hx hb d_M_isThere_9 rfl (lv_at hl 2 rfl) ?_
  refine lv_if_lt hx hb d_M_isThere_10 (tgt := 25) rfl (fun h9 => absurd h9 (nI_pos (n := k) (by omega))) (fun _ => ?_)
  refine lv_iload_n hx hb d_M_isThere_13 rfl (lv_at hl 2 rfl) ?_
  refine lv_aload_n hx hb d_M_isThere_14 rfl (lv_at hl 0 rfl) ?_
  refine gF (v := .int (nI x.shownWindows)) hx hb hown hE hK hP 0 rfl rfl layM 74 (by decide) w952 rfl d_M_isThere_15 ?_
  refine lv_icmp_ge hx hb d_M_isThere_18 (tgt := 25) rfl (fun h9 => absurd h9 (mt (nI_leI (a := x.shownWindows) (b := k) (by omega) (by omega)).mp (Nat.not_le.mpr hk))) (fun _ => ?_)
  refine lv_iconst (v := 0) hx hb d_M_isThere_21 (by decide) ?_
  refine lv_goto hx hb d_M_isThere_22 (tgt := 26) rfl ?_
  refine pF (v := .int 0) hx hb hown hE hK hP hD hS 0 rfl rfl layM tyM tokM nmM 0 (by decide) w319 rfl rfl rfl (Nat.le_of_ble_eq_true rfl) d_M_isThere_26 (fun H locs hP hD hS => ?_)
  have hP : va_P D vwCl (MW dA h ad (MS.s_cod x 0)) H := hP
  have hD : va_D A (MW dA h ad (MS.s_cod x 0)) := hD
  refine lv_aload_n hx hb d_M_isThere_29 rfl (lv_at hl 0 rfl) ?_
  refine gF (v := .int 0) hx hb hown hE hK hP 0 rfl rfl layM 0 (by decide) w319 rfl d_M_isThere_30 ?_
  refine lv_if_ne hx hb d_M_isThere_33 (tgt := 54) rfl (fun h9 => absurd (by decide) h9) (fun _ => ?_)
  refine lv_aload_n hx hb d_M_isThere_36 rfl (lv_at hl 0 rfl) ?_
  refine gF (v := .ref (ad 78)) hx hb hown hE hK hP 0 rfl rfl layM 78 (by decide) w538 rfl d_M_isThere_37 ?_
  refine lv_bipush (v := 64) hx hb d_M_isThere_40 (by decide) ?_
  refine lv_iload_n hx hb d_M_isThere_42 rfl (lv_at hl 1 rfl) ?_
  refine lv_imul hx hb d_M_isThere_43 (tpi (y := nI (64 * w)) (pk_mul (64) (w)) ?_)
  refine lv_iload_n hx hb d_M_isThere_44 rfl (lv_at hl 2 rfl) ?_
  refine lv_iadd hx hb d_M_isThere_45 (tpi (y := nI ((64 * w) + k)) (nI_add (64 * w) (k)) ?_)
  refine nzld (f := (fun z9 => bI (x.isShown z9))) hx hb hK hP 38 3 rfl rfl ((64 * w) + k) (by omega) (by decide) d_M_isThere_46 ?_
  refine lv_if_eq hx hb d_M_isThere_47 (tgt := 54) rfl (fun h9 => absurd h9 (by rw [hs]; decide)) (fun _ => ?_)
  refine lv_iconst (v := 1) hx hb d_M_isThere_50 (by decide) ?_
  refine lv_goto hx hb d_M_isThere_51 (tgt := 55) rfl ?_
  exact rfZ hx hb hr (bI_nar true) hlk hS () rfl hP hD (Nat.le_of_ble_eq_true rfl) (Nat.le_of_ble_eq_true rfl) d_M_isThere_55
set_option maxHeartbeats 4000000 in
set_option maxRecDepth 100000 in
theorem k_isThere_f (l : Launch) (D : va_G) (dA : Nat → ClassId) (sz : Nat) (h : Nat) (ad : Nat → Nat) (x : MS) (w : Nat) (k : Nat) (ht : x.isTable = true) (hw : w < x.rows) (hr2 : x.rows ≤ 256) (hk : k < x.shownWindows) (hk2 : x.shownWindows ≤ 64) (hs : x.isShown ((64 * w) + k) = false) : Met l ⟨"SeriesVaultModel", "isThere", "(II)Z"⟩ [Cond.code ⟨"SeriesVaultModel", "isThere", "(II)Z"⟩ prog_14_method_95_code 3 (some FieldType.boolean)] { frames := 2, cells := 0, slots := 0, locals := 21 } (pC D dA [.ref h, .int (nI w), .int (nI k)] (MW dA h ad x) sz) (va_Qi (fun (r9 : Int32) (u9 : Unit) => r9 = bI false) (fun (u9 : Unit) t9 => bW D (va_A (MW dA h ad x) sz) (MW dA h ad (MS.s_cod x 0)) t9) (va_A (MW dA h ad x) sz)) 0 0 (va_A (MW dA h ad x) sz) := by
  refine mkC (y := ⟨"SeriesVaultModel", "isThere", "(II)Z"⟩) (cc := prog_14_method_95_code) (maxL := 3) (av := [.ref h, .int (nI w), .int (nI k)]) (ws := MW dA h ad x) (sz := sz) (Qc := fun A => va_Qi (fun (r9 : Int32) (u9 : Unit) => r9 = bI false) (fun (u9 : Unit) t9 => bW D A (MW dA h ad (MS.s_cod x 0)) t9) A) (by decide) (Nat.le_of_ble_eq_true rfl) ?_
  intro A p e s m below meth c ls hsz hB
  obtain ⟨hx, hb, hr, hml, hown, hin, hlk, hE, hK, hP, hD, hS, hA, hN, hl⟩ := hB
  have hown : s.vm.findClass "SeriesVaultModel" = some m.cls := hown
  have hl : lv_has ls 3 [(0, .ref h), (1, .int (nI w)), (2, .int (nI k))] := hl
  obtain ⟨H, hH⟩ : ∃ z, z = s.heap := ⟨_, rfl⟩
  have hP : va_P D vwCl (MW dA h ad x) H := by rw [hH]; exact hP
  have hS : va_S A s.heap H [] := by rw [hH]; exact hS
  rw [← hH]
  refine lv_aload_n hx hb d_M_isThere_0 rfl (lv_at hl 0 rfl) ?_
  refine lv_aload_n hx hb d_M_isThere_1 rfl (lv_at hl 0 rfl) ?_
  refine lv_iload_n hx hb d_M_isThere_2 rfl (lv_at hl 1 rfl) ?_
  refine jfI (rnV (As := [.int (nI w)]) (rest := [.ref h]) hx hb hml hown hE hK (hN _ _ hS) hP hD (k_isRow l D dA H.size h ad x w ht hw hr2) (q0 := 0) rfl rfl w329 w327 w330 w331 w328 rfl rfl ⟨⟨by decide, by decide⟩, rfl⟩ ⟨(Nat.le_of_ble_eq_true rfl), (Nat.le_of_ble_eq_true rfl)⟩ rfl hl.1 rfl (Nat.le_of_ble_eq_true rfl) d_M_isThere_3 ⟨(Nat.le_of_ble_eq_true rfl), (Nat.le_of_ble_eq_true rfl)⟩) hP hD hS hA (fun r1 u2 H locs hp9 hP hD hS => ?_)
  have hP : va_P D vwCl (MW dA h ad x) H := hP
  have hD : va_D A (MW dA h ad x) := hD
  replace hp9 : bI true = r1 := Eq.symm hp9
  subst hp9
  refine lv_if_eq hx hb d_M_isThere_6 (tgt := 25) rfl (fun h9 => absurd h9 (by decide)) (fun _ => ?_)
  refine lv_iload_n hx hb d_M_isThere_9 rfl (lv_at hl 2 rfl) ?_
  refine lv_if_lt hx hb d_M_isThere_10 (tgt := 25) rfl (fun h9 => absurd h9 (nI_pos (n := k) (by omega))) (fun _ => ?_)
  refine lv_iload_n hx hb d_M_isThere_13 rfl (lv_at hl 2 rfl) ?_
  refine lv_aload_n hx hb d_M_isThere_14 rfl (lv_at hl 0 rfl) ?_
  refine gF (v := .int (nI x.shownWindows)) hx hb hown hE hK hP 0 rfl rfl layM 74 (by decide) w952 rfl d_M_isThere_15 ?_
  refine lv_icmp_ge hx hb d_M_isThere_18 (tgt := 25) rfl (fun h9 => absurd h9 (mt (nI_leI (a := x.shownWindows) (b := k) (by omega) (by omega)).mp (Nat.not_le.mpr hk))) (fun _ => ?_)
  refine lv_iconst (v := 0) hx hb d_M_isThere_21 (by decide) ?_
  refine lv_goto hx hb d_M_isThere_22 (tgt := 26) rfl ?_
  refine pF (v := .int 0) hx hb hown hE hK hP hD hS 0 rfl rfl layM tyM tokM nmM 0 (by decide) w319 rfl rfl rfl (Nat.le_of_ble_eq_true rfl) d_M_isThere_26 (fun H locs hP hD hS => ?_)
  have hP : va_P D vwCl (MW dA h ad (MS.s_cod x 0)) H := hP
  have hD : va_D A (MW dA h ad (MS.s_cod x 0)) := hD
  refine lv_aload_n hx hb d_M_isThere_29 rfl (lv_at hl 0 rfl) ?_
  refine gF (v := .int 0) hx hb hown hE hK hP 0 rfl rfl layM 0 (by decide) w319 rfl d_M_isThere_30 ?_
  refine lv_if_ne hx hb d_M_isThere_33 (tgt := 54) rfl (fun h9 => absurd (by decide) h9) (fun _ => ?_)
  refine lv_aload_n hx hb d_M_isThere_36 rfl (lv_at hl 0 rfl) ?_
  refine gF (v := .ref (ad 78)) hx hb hown hE hK hP 0 rfl rfl layM 78 (by decide) w538 rfl d_M_isThere_37 ?_
  refine lv_bipush (v := 64) hx hb d_M_isThere_40 (by decide) ?_
  refine lv_iload_n hx hb d_M_isThere_42 rfl (lv_at hl 1 rfl) ?_
  refine lv_imul hx hb d_M_isThere_43 (tpi (y := nI (64 * w)) (pk_mul (64) (w)) ?_)
  refine lv_iload_n hx hb d_M_isThere_44 rfl (lv_at hl 2 rfl) ?_
  refine lv_iadd hx hb d_M_isThere_45 (tpi (y := nI ((64 * w) + k)) (nI_add (64 * w) (k)) ?_)
  refine nzld (f := (fun z9 => bI (x.isShown z9))) hx hb hK hP 38 3 rfl rfl ((64 * w) + k) (by omega) (by decide) d_M_isThere_46 ?_
  refine lv_if_eq hx hb d_M_isThere_47 (tgt := 54) rfl (fun _ => ?_) (fun h9 => absurd (by rw [hs]; decide) h9)
  refine lv_iconst (v := 0) hx hb d_M_isThere_54 (by decide) ?_
  exact rfZ hx hb hr (bI_nar false) hlk hS () rfl hP hD (Nat.le_of_ble_eq_true rfl) (Nat.le_of_ble_eq_true rfl) d_M_isThere_55
set_option maxHeartbeats 4000000 in
set_option maxRecDepth 100000 in
theorem k_cell_1 (l : Launch) (D : va_G) (dA : Nat → ClassId) (sz : Nat) (h : Nat) (ad : Nat → Nat) (x : MS) (z : Int32) (k : Int32) (h0 : x.isTable = false ∨ z < 0 ∨ nI x.rows ≤ z) : Met l ⟨"SeriesVaultModel", "cell", "(II)J"⟩ [Cond.code ⟨"SeriesVaultModel", "cell", "(II)J"⟩ prog_14_method_96_code 3 (some FieldType.long)] { frames := 2, cells := 0, slots := 0, locals := 21 } (pC D dA [.ref h, .int z, .int k] (MW dA h ad x) sz) (va_Ql (fun (r9 : Int64) (u9 : Unit) => r9 = 0) (fun (u9 : Unit) t9 => bW D (va_A (MW dA h ad x) sz) (MW dA h ad (MS.s_cod x 1)) t9) (va_A (MW dA h ad x) sz)) 0 0 (va_A (MW dA h ad x) sz) := by
  refine mkC (y := ⟨"SeriesVaultModel", "cell", "(II)J"⟩) (cc := prog_14_method_96_code) (maxL := 3) (av := [.ref h, .int z, .int k]) (ws := MW dA h ad x) (sz := sz) (Qc := fun A => va_Ql (fun (r9 : Int64) (u9 : Unit) => r9 = 0) (fun (u9 : Unit) t9 => bW D A (MW dA h ad (MS.s_cod x 1)) t9) A) (by decide) (Nat.le_of_ble_eq_true rfl) ?_
  intro A p e s m below meth c ls hsz hB
  obtain ⟨hx, hb, hr, hml, hown, hin, hlk, hE, hK, hP, hD, hS, hA, hN, hl⟩ := hB
  have hown : s.vm.findClass "SeriesVaultModel" = some m.cls := hown
  have hl : lv_has ls 3 [(0, .ref h), (1, .int z), (2, .int k)] := hl
  obtain ⟨H, hH⟩ : ∃ z, z = s.heap := ⟨_, rfl⟩
  have hP : va_P D vwCl (MW dA h ad x) H := by rw [hH]; exact hP
  have hS : va_S A s.heap H [] := by rw [hH]; exact hS
  rw [← hH]
  refine lv_aload_n hx hb d_M_cell_0 rfl (lv_at hl 0 rfl) ?_
  refine lv_aload_n hx hb d_M_cell_1 rfl (lv_at hl 0 rfl) ?_
  refine lv_iload_n hx hb d_M_cell_2 rfl (lv_at hl 1 rfl) ?_
  refine jfI (rnV (As := [.int z]) (rest := [.ref h]) hx hb hml hown hE hK (hN _ _ hS) hP hD (k_isRow_0 l D dA H.size h ad x z h0) (q0 := 0) rfl rfl w329 w327 w330 w331 w328 rfl rfl ⟨⟨by decide, by decide⟩, rfl⟩ ⟨(Nat.le_of_ble_eq_true rfl), (Nat.le_of_ble_eq_true rfl)⟩ rfl hl.1 rfl (Nat.le_of_ble_eq_true rfl) d_M_cell_3 ⟨(Nat.le_of_ble_eq_true rfl), (Nat.le_of_ble_eq_true rfl)⟩) hP hD hS hA (fun r1 u2 H locs hp9 hP hD hS => ?_)
  have hP : va_P D vwCl (MW dA h ad x) H := hP
  have hD : va_D A (MW dA h ad x) := hD
  replace hp9 : bI false = r1 := Eq.symm hp9
  subst hp9
  refine lv_if_eq hx hb d_M_cell_6 (tgt := 25) rfl (fun _ => ?_) (fun h9 => absurd (by decide) h9)
  refine lv_iconst (v := 1) hx hb d_M_cell_25 (by decide) ?_
  refine pF (v := .int 1) hx hb hown hE hK hP hD hS 0 rfl rfl layM tyM tokM nmM 0 (by decide) w319 rfl rfl rfl (Nat.le_of_ble_eq_true rfl) d_M_cell_26 (fun H locs hP hD hS => ?_)
  have hP : va_P D vwCl (MW dA h ad (MS.s_cod x 1)) H := hP
  have hD : va_D A (MW dA h ad (MS.s_cod x 1)) := hD
  refine lv_aload_n hx hb d_M_cell_29 rfl (lv_at hl 0 rfl) ?_
  refine gF (v := .int 1) hx hb hown hE hK hP 0 rfl rfl layM 0 (by decide) w319 rfl d_M_cell_30 ?_
  refine lv_if_ne hx hb d_M_cell_33 (tgt := 64) rfl (fun _ => ?_) (fun h9 => absurd h9 (by decide))
  refine lv_lconst (v := 0) hx hb d_M_cell_64 (by decide) ?_
  exact rfL hx hb hr hlk hS () rfl hP hD (Nat.le_of_ble_eq_true rfl) (Nat.le_of_ble_eq_true rfl) d_M_cell_65
theorem d_M_cell_9 : decode prog_14_method_96_code 9 = .ok (.iload_n 2, 1) := by decide +kernel
theorem d_M_cell_10 : decode prog_14_method_96_code 10 = .ok (.ifCond .lt 15, 3) := by decide +kernel
theorem d_M_cell_13 : decode prog_14_method_96_code 13 = .ok (.iload_n 2, 1) := by decide +kernel
theorem d_M_cell_14 : decode prog_14_method_96_code 14 = .ok (.aload_n 0, 1) := by decide +kernel
theorem d_M_cell_15 : decode prog_14_method_96_code 15 = .ok (.getfield 501, 3) := by decide +kernel
theorem d_M_cell_18 : decode prog_14_method_96_code 18 = .ok (.if_icmp .ge 7, 3) := by decide +kernel
set_option maxHeartbeats 4000000 in
set_option maxRecDepth 100000 in
theorem k_cell_2 (l : Launch) (D : va_G) (dA : Nat → ClassId) (sz : Nat) (h : Nat) (ad : Nat → Nat) (x : MS) (w : Nat) (k : Int32) (ht : x.isTable = true) (hw : w < x.rows) (hr2 : x.rows ≤ 256) (h0 : k < 0 ∨ nI x.shownWindows ≤ k) : Met l ⟨"SeriesVaultModel", "cell", "(II)J"⟩ [Cond.code ⟨"SeriesVaultModel", "cell", "(II)J"⟩ prog_14_method_96_code 3 (some FieldType.long)] { frames := 2, cells := 0, slots := 0, locals := 21 } (pC D dA [.ref h, .int (nI w), .int k] (MW dA h ad x) sz) (va_Ql (fun (r9 : Int64) (u9 : Unit) => r9 = 0) (fun (u9 : Unit) t9 => bW D (va_A (MW dA h ad x) sz) (MW dA h ad (MS.s_cod x 1)) t9) (va_A (MW dA h ad x) sz)) 0 0 (va_A (MW dA h ad x) sz) := by
  refine mkC (y := ⟨"SeriesVaultModel", "cell", "(II)J"⟩) (cc := prog_14_method_96_code) (maxL := 3) (av := [.ref h, .int (nI w), .int k]) (ws := MW dA h ad x) (sz := sz) (Qc := fun A => va_Ql (fun (r9 : Int64) (u9 : Unit) => r9 = 0) (fun (u9 : Unit) t9 => bW D A (MW dA h ad (MS.s_cod x 1)) t9) A) (by decide) (Nat.le_of_ble_eq_true rfl) ?_
  intro A p e s m below meth c ls hsz hB
  obtain ⟨hx, hb, hr, hml, hown, hin, hlk, hE, hK, hP, hD, hS, hA, hN, hl⟩ := hB
  have hown : s.vm.findClass "SeriesVaultModel" = some m.cls := hown
  have hl : lv_has ls 3 [(0, .ref h), (1, .int (nI w)), (2, .int k)] := hl
  obtain ⟨H, hH⟩ : ∃ z, z = s.heap := ⟨_, rfl⟩
  have hP : va_P D vwCl (MW dA h ad x) H := by rw [hH]; exact hP
  have hS : va_S A s.heap H [] := by rw [hH]; exact hS
  rw [← hH]
  refine lv_aload_n hx hb d_M_cell_0 rfl (lv_at hl 0 rfl) ?_
  refine lv_aload_n hx hb d_M_cell_1 rfl (lv_at hl 0 rfl) ?_
  refine lv_iload_n hx hb d_M_cell_2 rfl (lv_at hl 1 rfl) ?_
  refine jfI (rnV (As := [.int (nI w)]) (rest := [.ref h]) hx hb hml hown hE hK (hN _ _ hS) hP hD (k_isRow l D dA H.size h ad x w ht hw hr2) (q0 := 0) rfl rfl w329 w327 w330 w331 w328 rfl rfl ⟨⟨by decide, by decide⟩, rfl⟩ ⟨(Nat.le_of_ble_eq_true rfl), (Nat.le_of_ble_eq_true rfl)⟩ rfl hl.1 rfl (Nat.le_of_ble_eq_true rfl) d_M_cell_3 ⟨(Nat.le_of_ble_eq_true rfl), (Nat.le_of_ble_eq_true rfl)⟩) hP hD hS hA (fun r1 u2 H locs hp9 hP hD hS => ?_)
  have hP : va_P D vwCl (MW dA h ad x) H := hP
  have hD : va_D A (MW dA h ad x) := hD
  replace hp9 : bI true = r1 := Eq.symm hp9
  subst hp9
  refine lv_if_eq hx hb d_M_cell_6 (tgt := 25) rfl (fun h9 => absurd h9 (by decide)) (fun _ => ?_)
  refine lv_iload_n hx hb d_M_cell_9 rfl (lv_at hl 2 rfl) ?_
  refine lv_if_lt hx hb d_M_cell_10 (tgt := 25) rfl (fun g3 => ?_) (fun g3 => ?_)
  · have g3 := g3
    refine lv_iconst (v := 1) hx hb d_M_cell_25 (by decide) ?_
    refine pF (v := .int 1) hx hb hown hE hK hP hD hS 0 rfl rfl layM tyM tokM nmM 0 (by decide) w319 rfl rfl rfl (Nat.le_of_ble_eq_true rfl) d_M_cell_26 (fun H locs hP hD hS => ?_)
    have hP : va_P D vwCl (MW dA h ad (MS.s_cod x 1)) H := hP
    have hD : va_D A (MW dA h ad (MS.s_cod x 1)) := hD
    refine lv_aload_n hx hb d_M_cell_29 rfl (lv_at hl 0 rfl) ?_
    refine gF (v := .int 1) hx hb hown hE hK hP 0 rfl rfl layM 0 (by decide) w319 rfl d_M_cell_30 ?_
    refine lv_if_ne hx hb d_M_cell_33 (tgt := 64) rfl (fun _ => ?_) (fun h9 => absurd h9 (by decide))
    refine lv_lconst (v := 0) hx hb d_M_cell_64 (by decide) ?_
    exact rfL hx hb hr hlk hS () rfl hP hD (Nat.le_of_ble_eq_true rfl) (Nat.le_of_ble_eq_true rfl) d_M_cell_65
  · have g3 := g3
    refine lv_iload_n hx hb d_M_cell_13 rfl (lv_at hl 2 rfl) ?_
    refine lv_aload_n hx hb d_M_cell_14 rfl (lv_at hl 0 rfl) ?_
    refine gF (v := .int (nI x.shownWindows)) hx hb hown hE hK hP 0 rfl rfl layM 74 (by decide) w952 rfl d_M_cell_15 ?_
    refine lv_icmp_ge hx hb d_M_cell_18 (tgt := 25) rfl (fun _ => ?_) (fun h9 => absurd (h0.resolve_left (by assumption)) h9)
    refine lv_iconst (v := 1) hx hb d_M_cell_25 (by decide) ?_
    refine pF (v := .int 1) hx hb hown hE hK hP hD hS 0 rfl rfl layM tyM tokM nmM 0 (by decide) w319 rfl rfl rfl (Nat.le_of_ble_eq_true rfl) d_M_cell_26 (fun H locs hP hD hS => ?_)
    have hP : va_P D vwCl (MW dA h ad (MS.s_cod x 1)) H := hP
    have hD : va_D A (MW dA h ad (MS.s_cod x 1)) := hD
    refine lv_aload_n hx hb d_M_cell_29 rfl (lv_at hl 0 rfl) ?_
    refine gF (v := .int 1) hx hb hown hE hK hP 0 rfl rfl layM 0 (by decide) w319 rfl d_M_cell_30 ?_
    refine lv_if_ne hx hb d_M_cell_33 (tgt := 64) rfl (fun _ => ?_) (fun h9 => absurd h9 (by decide))
    refine lv_lconst (v := 0) hx hb d_M_cell_64 (by decide) ?_
    exact rfL hx hb hr hlk hS () rfl hP hD (Nat.le_of_ble_eq_true rfl) (Nat.le_of_ble_eq_true rfl) d_M_cell_65
theorem d_M_cell_21 : decode prog_14_method_96_code 21 = .ok (.iconst 0, 1) := by decide +kernel
theorem d_M_cell_22 : decode prog_14_method_96_code 22 = .ok (.goto 4, 3) := by decide +kernel
theorem d_M_cell_36 : decode prog_14_method_96_code 36 = .ok (.aload_n 0, 1) := by decide +kernel
theorem d_M_cell_37 : decode prog_14_method_96_code 37 = .ok (.getfield 142, 3) := by decide +kernel
theorem d_M_cell_40 : decode prog_14_method_96_code 40 = .ok (.bipush 64, 2) := by decide +kernel
theorem d_M_cell_42 : decode prog_14_method_96_code 42 = .ok (.iload_n 1, 1) := by decide +kernel
theorem d_M_cell_43 : decode prog_14_method_96_code 43 = .ok (.imul, 1) := by decide +kernel
theorem d_M_cell_44 : decode prog_14_method_96_code 44 = .ok (.iload_n 2, 1) := by decide +kernel
theorem d_M_cell_45 : decode prog_14_method_96_code 45 = .ok (.iadd, 1) := by decide +kernel
theorem d_M_cell_46 : decode prog_14_method_96_code 46 = .ok (.baload, 1) := by decide +kernel
theorem d_M_cell_47 : decode prog_14_method_96_code 47 = .ok (.ifCond .eq 17, 3) := by decide +kernel
theorem d_M_cell_50 : decode prog_14_method_96_code 50 = .ok (.aload_n 0, 1) := by decide +kernel
theorem d_M_cell_51 : decode prog_14_method_96_code 51 = .ok (.getfield 139, 3) := by decide +kernel
theorem d_M_cell_54 : decode prog_14_method_96_code 54 = .ok (.bipush 64, 2) := by decide +kernel
theorem d_M_cell_56 : decode prog_14_method_96_code 56 = .ok (.iload_n 1, 1) := by decide +kernel
theorem d_M_cell_57 : decode prog_14_method_96_code 57 = .ok (.imul, 1) := by decide +kernel
theorem d_M_cell_58 : decode prog_14_method_96_code 58 = .ok (.iload_n 2, 1) := by decide +kernel
theorem d_M_cell_59 : decode prog_14_method_96_code 59 = .ok (.iadd, 1) := by decide +kernel
theorem d_M_cell_60 : decode prog_14_method_96_code 60 = .ok (.laload, 1) := by decide +kernel
theorem d_M_cell_61 : decode prog_14_method_96_code 61 = .ok (.goto 4, 3) := by decide +kernel
set_option maxHeartbeats 4000000 in
set_option maxRecDepth 100000 in
theorem k_cell_t (l : Launch) (D : va_G) (dA : Nat → ClassId) (sz : Nat) (h : Nat) (ad : Nat → Nat) (x : MS) (w : Nat) (k : Nat) (ht : x.isTable = true) (hw : w < x.rows) (hr2 : x.rows ≤ 256) (hk : k < x.shownWindows) (hk2 : x.shownWindows ≤ 64) (hs : x.isShown ((64 * w) + k) = true) : Met l ⟨"SeriesVaultModel", "cell", "(II)J"⟩ [Cond.code ⟨"SeriesVaultModel", "cell", "(II)J"⟩ prog_14_method_96_code 3 (some FieldType.long)] { frames := 2, cells := 0, slots := 0, locals := 21 } (pC D dA [.ref h, .int (nI w), .int (nI k)] (MW dA h ad x) sz) (va_Ql (fun (r9 : Int64) (u9 : Unit) => r9 = x.shown (64 * w + k)) (fun (u9 : Unit) t9 => bW D (va_A (MW dA h ad x) sz) (MW dA h ad (MS.s_cod x 0)) t9) (va_A (MW dA h ad x) sz)) 0 0 (va_A (MW dA h ad x) sz) := by
  refine mkC (y := ⟨"SeriesVaultModel", "cell", "(II)J"⟩) (cc := prog_14_method_96_code) (maxL := 3) (av := [.ref h, .int (nI w), .int (nI k)]) (ws := MW dA h ad x) (sz := sz) (Qc := fun A => va_Ql (fun (r9 : Int64) (u9 : Unit) => r9 = x.shown (64 * w + k)) (fun (u9 : Unit) t9 => bW D A (MW dA h ad (MS.s_cod x 0)) t9) A) (by decide) (Nat.le_of_ble_eq_true rfl) ?_
  intro A p e s m below meth c ls hsz hB
  obtain ⟨hx, hb, hr, hml, hown, hin, hlk, hE, hK, hP, hD, hS, hA, hN, hl⟩ := hB
  have hown : s.vm.findClass "SeriesVaultModel" = some m.cls := hown
  have hl : lv_has ls 3 [(0, .ref h), (1, .int (nI w)), (2, .int (nI k))] := hl
  obtain ⟨H, hH⟩ : ∃ z, z = s.heap := ⟨_, rfl⟩
  have hP : va_P D vwCl (MW dA h ad x) H := by rw [hH]; exact hP
  have hS : va_S A s.heap H [] := by rw [hH]; exact hS
  rw [← hH]
  refine lv_aload_n hx hb d_M_cell_0 rfl (lv_at hl 0 rfl) ?_
  refine lv_aload_n hx hb d_M_cell_1 rfl (lv_at hl 0 rfl) ?_
  refine lv_iload_n hx hb d_M_cell_2 rfl (lv_at hl 1 rfl) ?_
  refine jfI (rnV (As := [.int (nI w)]) (rest := [.ref h]) hx hb hml hown hE hK (hN _ _ hS) hP hD (k_isRow l D dA H.size h ad x w ht hw hr2) (q0 := 0) rfl rfl w329 w327 w330 w331 w328 rfl rfl ⟨⟨by decide, by decide⟩, rfl⟩ ⟨(Nat.le_of_ble_eq_true rfl), (Nat.le_of_ble_eq_true rfl)⟩ rfl hl.1 rfl (Nat.le_of_ble_eq_true rfl) d_M_cell_3 ⟨(Nat.le_of_ble_eq_true rfl), (Nat.le_of_ble_eq_true rfl)⟩) hP hD hS hA (fun r1 u2 H locs hp9 hP hD hS => ?_)
  have hP : va_P D vwCl (MW dA h ad x) H := hP
  have hD : va_D A (MW dA h ad x) := hD
  replace hp9 : bI true = r1 := Eq.symm hp9
  subst hp9
  refine lv_if_eq hx hb d_M_cell_6 (tgt := 25) rfl (fun h9 => absurd h9 (by decide)) (fun _ => ?_)
  refine lv_iload_n hx hb d_M_cell_9 rfl (lv_at hl 2 rfl) ?_
  refine lv_if_lt hx hb d_M_cell_10 (tgt := 25) rfl (fun h9 => absurd h9 (nI_pos (n := k) (by omega))) (fun _ => ?_)
  refine lv_iload_n hx hb d_M_cell_13 rfl (lv_at hl 2 rfl) ?_
  refine lv_aload_n hx hb d_M_cell_14 rfl (lv_at hl 0 rfl) ?_
  refine gF (v := .int (nI x.shownWindows)) hx hb hown hE hK hP 0 rfl rfl layM 74 (by decide) w952 rfl d_M_cell_15 ?_
  refine lv_icmp_ge hx hb d_M_cell_18 (tgt := 25) rfl (fun h9 => absurd h9 (mt (nI_leI (a := x.shownWindows) (b := k) (by omega) (by omega)).mp (Nat.not_le.mpr hk))) (fun _ => ?_)
  refine lv_iconst (v := 0) hx hb d_M_cell_21 (by decide) ?_
  refine lv_goto hx hb d_M_cell_22 (tgt := 26) rfl ?_
  refine pF (v := .int 0) hx hb hown hE hK hP hD hS 0 rfl rfl layM tyM tokM nmM 0 (by decide) w319 rfl rfl rfl (Nat.le_of_ble_eq_true rfl) d_M_cell_26 (fun H locs hP hD hS => ?_)
  have hP : va_P D vwCl (MW dA h ad (MS.s_cod x 0)) H := hP
  have hD : va_D A (MW dA h ad (MS.s_cod x 0)) := hD
  refine lv_aload_n hx hb d_M_cell_29 rfl (lv_at hl 0 rfl) ?_
  refine gF (v := .int 0) hx hb hown hE hK hP 0 rfl rfl layM 0 (by decide) w319 rfl d_M_cell_30 ?_
  refine lv_if_ne hx hb d_M_cell_33 (tgt := 64) rfl (fun h9 => absurd (by decide) h9) (fun _ => ?_)
  refine lv_aload_n hx hb d_M_cell_36 rfl (lv_at hl 0 rfl) ?_
  refine gF (v := .ref (ad 78)) hx hb hown hE hK hP 0 rfl rfl layM 78 (by decide) w538 rfl d_M_cell_37 ?_
  refine lv_bipush (v := 64) hx hb d_M_cell_40 (by decide) ?_
  refine lv_iload_n hx hb d_M_cell_42 rfl (lv_at hl 1 rfl) ?_
  refine lv_imul hx hb d_M_cell_43 (tpi (y := nI (64 * w)) (pk_mul (64) (w)) ?_)
  refine lv_iload_n hx hb d_M_cell_44 rfl (lv_at hl 2 rfl) ?_
  refine lv_iadd hx hb d_M_cell_45 (tpi (y := nI ((64 * w) + k)) (nI_add (64 * w) (k)) ?_)
  refine nzld (f := (fun z9 => bI (x.isShown z9))) hx hb hK hP 38 3 rfl rfl ((64 * w) + k) (by omega) (by decide) d_M_cell_46 ?_
  refine lv_if_eq hx hb d_M_cell_47 (tgt := 64) rfl (fun h9 => absurd h9 (by rw [hs]; decide)) (fun _ => ?_)
  refine lv_aload_n hx hb d_M_cell_50 rfl (lv_at hl 0 rfl) ?_
  refine gF (v := .ref (ad 77)) hx hb hown hE hK hP 0 rfl rfl layM 77 (by decide) w537 rfl d_M_cell_51 ?_
  refine lv_bipush (v := 64) hx hb d_M_cell_54 (by decide) ?_
  refine lv_iload_n hx hb d_M_cell_56 rfl (lv_at hl 1 rfl) ?_
  refine lv_imul hx hb d_M_cell_57 (tpi (y := nI (64 * w)) (pk_mul (64) (w)) ?_)
  refine lv_iload_n hx hb d_M_cell_58 rfl (lv_at hl 2 rfl) ?_
  refine lv_iadd hx hb d_M_cell_59 (tpi (y := nI ((64 * w) + k)) (nI_add (64 * w) (k)) ?_)
  refine nlld (f := x.shown) hx hb hK hP 37 2 rfl rfl ((64 * w) + k) (by omega) (by decide) d_M_cell_60 ?_
  refine lv_goto hx hb d_M_cell_61 (tgt := 65) rfl ?_
  exact rfL hx hb hr hlk hS () rfl hP hD (Nat.le_of_ble_eq_true rfl) (Nat.le_of_ble_eq_true rfl) d_M_cell_65
set_option maxHeartbeats 4000000 in
set_option maxRecDepth 100000 in
theorem k_cell_f (l : Launch) (D : va_G) (dA : Nat → ClassId) (sz : Nat) (h : Nat) (ad : Nat → Nat) (x : MS) (w : Nat) (k : Nat) (ht : x.isTable = true) (hw : w < x.rows) (hr2 : x.rows ≤ 256) (hk : k < x.shownWindows) (hk2 : x.shownWindows ≤ 64) (hs : x.isShown ((64 * w) + k) = false) : Met l ⟨"SeriesVaultModel", "cell", "(II)J"⟩ [Cond.code ⟨"SeriesVaultModel", "cell", "(II)J"⟩ prog_14_method_96_code 3 (some FieldType.long)] { frames := 2, cells := 0, slots := 0, locals := 21 } (pC D dA [.ref h, .int (nI w), .int (nI k)] (MW dA h ad x) sz) (va_Ql (fun (r9 : Int64) (u9 : Unit) => r9 = 0) (fun (u9 : Unit) t9 => bW D (va_A (MW dA h ad x) sz) (MW dA h ad (MS.s_cod x 0)) t9) (va_A (MW dA h ad x) sz)) 0 0 (va_A (MW dA h ad x) sz) := by
  refine mkC (y := ⟨"SeriesVaultModel", "cell", "(II)J"⟩) (cc := prog_14_method_96_code) (maxL := 3) (av := [.ref h, .int (nI w), .int (nI k)]) (ws := MW dA h ad x) (sz := sz) (Qc := fun A => va_Ql (fun (r9 : Int64) (u9 : Unit) => r9 = 0) (fun (u9 : Unit) t9 => bW D A (MW dA h ad (MS.s_cod x 0)) t9) A) (by decide) (Nat.le_of_ble_eq_true rfl) ?_
  intro A p e s m below meth c ls hsz hB
  obtain ⟨hx, hb, hr, hml, hown, hin, hlk, hE, hK, hP, hD, hS, hA, hN, hl⟩ := hB
  have hown : s.vm.findClass "SeriesVaultModel" = some m.cls := hown
  have hl : lv_has ls 3 [(0, .ref h), (1, .int (nI w)), (2, .int (nI k))] := hl
  obtain ⟨H, hH⟩ : ∃ z, z = s.heap := ⟨_, rfl⟩
  have hP : va_P D vwCl (MW dA h ad x) H := by rw [hH]; exact hP
  have hS : va_S A s.heap H [] := by rw [hH]; exact hS
  rw [← hH]
  refine lv_aload_n hx hb d_M_cell_0 rfl (lv_at hl 0 rfl) ?_
  refine lv_aload_n hx hb d_M_cell_1 rfl (lv_at hl 0 rfl) ?_
  refine lv_iload_n hx hb d_M_cell_2 rfl (lv_at hl 1 rfl) ?_
  refine jfI (rnV (As := [.int (nI w)]) (rest := [.ref h]) hx hb hml hown hE hK (hN _ _ hS) hP hD (k_isRow l D dA H.size h ad x w ht hw hr2) (q0 := 0) rfl rfl w329 w327 w330 w331 w328 rfl rfl ⟨⟨by decide, by decide⟩, rfl⟩ ⟨(Nat.le_of_ble_eq_true rfl), (Nat.le_of_ble_eq_true rfl)⟩ rfl hl.1 rfl (Nat.le_of_ble_eq_true rfl) d_M_cell_3 ⟨(Nat.le_of_ble_eq_true rfl), (Nat.le_of_ble_eq_true rfl)⟩) hP hD hS hA (fun r1 u2 H locs hp9 hP hD hS => ?_)
  have hP : va_P D vwCl (MW dA h ad x) H := hP
  have hD : va_D A (MW dA h ad x) := hD
  replace hp9 : bI true = r1 := Eq.symm hp9
  subst hp9
  refine lv_if_eq hx hb d_M_cell_6 (tgt := 25) rfl (fun h9 => absurd h9 (by decide)) (fun _ => ?_)
  refine lv_iload_n hx hb d_M_cell_9 rfl (lv_at hl 2 rfl) ?_
  refine lv_if_lt hx hb d_M_cell_10 (tgt := 25) rfl (fun h9 => absurd h9 (nI_pos (n := k) (by omega))) (fun _ => ?_)
  refine lv_iload_n hx hb d_M_cell_13 rfl (lv_at hl 2 rfl) ?_
  refine lv_aload_n hx hb d_M_cell_14 rfl (lv_at hl 0 rfl) ?_
  refine gF (v := .int (nI x.shownWindows)) hx hb hown hE hK hP 0 rfl rfl layM 74 (by decide) w952 rfl d_M_cell_15 ?_
  refine lv_icmp_ge hx hb d_M_cell_18 (tgt := 25) rfl (fun h9 => absurd h9 (mt (nI_leI (a := x.shownWindows) (b := k) (by omega) (by omega)).mp (Nat.not_le.mpr hk))) (fun _ => ?_)
  refine lv_iconst (v := 0) hx hb d_M_cell_21 (by decide) ?_
  refine lv_goto hx hb d_M_cell_22 (tgt := 26) rfl ?_
  refine pF (v := .int 0) hx hb hown hE hK hP hD hS 0 rfl rfl layM tyM tokM nmM 0 (by decide) w319 rfl rfl rfl (Nat.le_of_ble_eq_true rfl) d_M_cell_26 (fun H locs hP hD hS => ?_)
  have hP : va_P D vwCl (MW dA h ad (MS.s_cod x 0)) H := hP
  have hD : va_D A (MW dA h ad (MS.s_cod x 0)) := hD
  refine lv_aload_n hx hb d_M_cell_29 rfl (lv_at hl 0 rfl) ?_
  refine gF (v := .int 0) hx hb hown hE hK hP 0 rfl rfl layM 0 (by decide) w319 rfl d_M_cell_30 ?_
  refine lv_if_ne hx hb d_M_cell_33 (tgt := 64) rfl (fun h9 => absurd (by decide) h9) (fun _ => ?_)
  refine lv_aload_n hx hb d_M_cell_36 rfl (lv_at hl 0 rfl) ?_
  refine gF (v := .ref (ad 78)) hx hb hown hE hK hP 0 rfl rfl layM 78 (by decide) w538 rfl d_M_cell_37 ?_
  refine lv_bipush (v := 64) hx hb d_M_cell_40 (by decide) ?_
  refine lv_iload_n hx hb d_M_cell_42 rfl (lv_at hl 1 rfl) ?_
  refine lv_imul hx hb d_M_cell_43 (tpi (y := nI (64 * w)) (pk_mul (64) (w)) ?_)
  refine lv_iload_n hx hb d_M_cell_44 rfl (lv_at hl 2 rfl) ?_
  refine lv_iadd hx hb d_M_cell_45 (tpi (y := nI ((64 * w) + k)) (nI_add (64 * w) (k)) ?_)
  refine nzld (f := (fun z9 => bI (x.isShown z9))) hx hb hK hP 38 3 rfl rfl ((64 * w) + k) (by omega) (by decide) d_M_cell_46 ?_
  refine lv_if_eq hx hb d_M_cell_47 (tgt := 64) rfl (fun _ => ?_) (fun h9 => absurd (by rw [hs]; decide) h9)
  refine lv_lconst (v := 0) hx hb d_M_cell_64 (by decide) ?_
  exact rfL hx hb hr hlk hS () rfl hP hD (Nat.le_of_ble_eq_true rfl) (Nat.le_of_ble_eq_true rfl) d_M_cell_65
theorem d_M_at_12 : decode prog_14_method_56_code 12 = .ok (.aload_n 0, 1) := by decide +kernel
theorem d_M_at_13 : decode prog_14_method_56_code 13 = .ok (.getfield 8, 3) := by decide +kernel
theorem d_M_at_16 : decode prog_14_method_56_code 16 = .ok (.iload_n 1, 1) := by decide +kernel
theorem d_M_at_17 : decode prog_14_method_56_code 17 = .ok (.baload, 1) := by decide +kernel
theorem d_M_at_18 : decode prog_14_method_56_code 18 = .ok (.sipush 255, 3) := by decide +kernel
theorem d_M_at_21 : decode prog_14_method_56_code 21 = .ok (.iand, 1) := by decide +kernel
theorem d_M_at_22 : decode prog_14_method_56_code 22 = .ok (.goto 4, 3) := by decide +kernel
set_option maxHeartbeats 4000000 in
set_option maxRecDepth 100000 in
theorem k_at (l : Launch) (D : va_G) (dA : Nat → ClassId) (sz : Nat) (h : Nat) (ad : Nat → Nat) (x : MS) (k : Nat) (hk : k < 2 ^ 31) (hl1 : x.length ≤ 65536) : Met l ⟨"SeriesVaultModel", "at", "(I)I"⟩ [Cond.code ⟨"SeriesVaultModel", "at", "(I)I"⟩ prog_14_method_56_code 2 (some FieldType.int)] { frames := 1, cells := 0, slots := 0, locals := 0 } (pC D dA [.ref h, .int (nI k)] (MW dA h ad x) sz) (va_Qi (fun (r9 : Int32) (u9 : Unit) => r9 = x.atN k) (fun (u9 : Unit) t9 => bW D (va_A (MW dA h ad x) sz) (MW dA h ad x) t9) (va_A (MW dA h ad x) sz)) 0 0 (va_A (MW dA h ad x) sz) := by
  refine mkC (y := ⟨"SeriesVaultModel", "at", "(I)I"⟩) (cc := prog_14_method_56_code) (maxL := 2) (av := [.ref h, .int (nI k)]) (ws := MW dA h ad x) (sz := sz) (Qc := fun A => va_Qi (fun (r9 : Int32) (u9 : Unit) => r9 = x.atN k) (fun (u9 : Unit) t9 => bW D A (MW dA h ad x) t9) A) (by decide) (Nat.le_of_ble_eq_true rfl) ?_
  intro A p e s m below meth c ls hsz hB
  obtain ⟨hx, hb, hr, hml, hown, hin, hlk, hE, hK, hP, hD, hS, hA, hN, hl⟩ := hB
  have hown : s.vm.findClass "SeriesVaultModel" = some m.cls := hown
  have hl : lv_has ls 2 [(0, .ref h), (1, .int (nI k))] := hl
  obtain ⟨H, hH⟩ : ∃ z, z = s.heap := ⟨_, rfl⟩
  have hP : va_P D vwCl (MW dA h ad x) H := by rw [hH]; exact hP
  have hS : va_S A s.heap H [] := by rw [hH]; exact hS
  rw [← hH]
  refine lv_iload_n hx hb d_M_at_0 rfl (lv_at hl 1 rfl) ?_
  refine lv_if_lt hx hb d_M_at_1 (tgt := 25) rfl (fun h9 => absurd h9 (nI_pos (n := k) (by omega))) (fun _ => ?_)
  refine lv_iload_n hx hb d_M_at_4 rfl (lv_at hl 1 rfl) ?_
  refine lv_aload_n hx hb d_M_at_5 rfl (lv_at hl 0 rfl) ?_
  refine gF (v := .int (nI x.length)) hx hb hown hE hK hP 0 rfl rfl layM 2 (by decide) w320 rfl d_M_at_6 ?_
  refine lv_icmp_ge hx hb d_M_at_9 (tgt := 25) rfl (fun g1 => ?_) (fun g1 => ?_)
  · have g1 := (nI_leI (a := x.length) (b := k) (by omega) (by omega)).mp g1
    refine lv_iconst (v := 0) hx hb d_M_at_25 (by decide) ?_
    exact rfI hx hb hr hlk hS () (show _ = atI x.tape x.length k from (if_pos g1).symm) hP hD (Nat.le_of_ble_eq_true rfl) (Nat.le_of_ble_eq_true rfl) d_M_at_26
  · have g1 := mt (nI_leI (a := x.length) (b := k) (by omega) (by omega)).mpr g1
    refine lv_aload_n hx hb d_M_at_12 rfl (lv_at hl 0 rfl) ?_
    refine gF (v := .ref (ad 1)) hx hb hown hE hK hP 0 rfl rfl layM 1 (by decide) w497 rfl d_M_at_13 ?_
    refine lv_iload_n hx hb d_M_at_16 rfl (lv_at hl 1 rfl) ?_
    refine nbld (f := x.tape) hx hb hK hP 1 0 rfl rfl (k) (by omega) (by decide) d_M_at_17 ?_
    refine lv_sipush (v := 255) hx hb d_M_at_18 (by decide) ?_
    refine lv_iand hx hb d_M_at_21 ?_
    refine lv_goto hx hb d_M_at_22 (tgt := 26) rfl ?_
    exact rfI hx hb hr hlk hS () (show _ = atI x.tape x.length k from (if_neg g1).symm) hP hD (Nat.le_of_ble_eq_true rfl) (Nat.le_of_ble_eq_true rfl) d_M_at_26
set_option maxHeartbeats 4000000 in
set_option maxRecDepth 100000 in
theorem k_at_x (l : Launch) (D : va_G) (dA : Nat → ClassId) (sz : Nat) (h : Nat) (ad : Nat → Nat) (x : MS) (z : Int32) (hz : z < 0) : Met l ⟨"SeriesVaultModel", "at", "(I)I"⟩ [Cond.code ⟨"SeriesVaultModel", "at", "(I)I"⟩ prog_14_method_56_code 2 (some FieldType.int)] { frames := 1, cells := 0, slots := 0, locals := 0 } (pC D dA [.ref h, .int z] (MW dA h ad x) sz) (va_Qi (fun (r9 : Int32) (u9 : Unit) => r9 = 0) (fun (u9 : Unit) t9 => bW D (va_A (MW dA h ad x) sz) (MW dA h ad x) t9) (va_A (MW dA h ad x) sz)) 0 0 (va_A (MW dA h ad x) sz) := by
  refine mkC (y := ⟨"SeriesVaultModel", "at", "(I)I"⟩) (cc := prog_14_method_56_code) (maxL := 2) (av := [.ref h, .int z]) (ws := MW dA h ad x) (sz := sz) (Qc := fun A => va_Qi (fun (r9 : Int32) (u9 : Unit) => r9 = 0) (fun (u9 : Unit) t9 => bW D A (MW dA h ad x) t9) A) (by decide) (Nat.le_of_ble_eq_true rfl) ?_
  intro A p e s m below meth c ls hsz hB
  obtain ⟨hx, hb, hr, hml, hown, hin, hlk, hE, hK, hP, hD, hS, hA, hN, hl⟩ := hB
  have hown : s.vm.findClass "SeriesVaultModel" = some m.cls := hown
  have hl : lv_has ls 2 [(0, .ref h), (1, .int z)] := hl
  obtain ⟨H, hH⟩ : ∃ z, z = s.heap := ⟨_, rfl⟩
  have hP : va_P D vwCl (MW dA h ad x) H := by rw [hH]; exact hP
  have hS : va_S A s.heap H [] := by rw [hH]; exact hS
  rw [← hH]
  refine lv_iload_n hx hb d_M_at_0 rfl (lv_at hl 1 rfl) ?_
  refine lv_if_lt hx hb d_M_at_1 (tgt := 25) rfl (fun _ => ?_) (fun h9 => absurd hz h9)
  refine lv_iconst (v := 0) hx hb d_M_at_25 (by decide) ?_
  exact rfI hx hb hr hlk hS () rfl hP hD (Nat.le_of_ble_eq_true rfl) (Nat.le_of_ble_eq_true rfl) d_M_at_26
theorem d_M_isDigit_0 : decode prog_14_method_54_code 0 = .ok (.iload_n 0, 1) := by decide +kernel
theorem d_M_isDigit_1 : decode prog_14_method_54_code 1 = .ok (.bipush 48, 2) := by decide +kernel
theorem d_M_isDigit_3 : decode prog_14_method_54_code 3 = .ok (.if_icmp .lt 13, 3) := by decide +kernel
theorem d_M_isDigit_16 : decode prog_14_method_54_code 16 = .ok (.iconst 0, 1) := by decide +kernel
theorem d_M_isDigit_17 : decode prog_14_method_54_code 17 = .ok (.ireturn, 1) := by decide +kernel
theorem d_M_isDigit_6 : decode prog_14_method_54_code 6 = .ok (.iload_n 0, 1) := by decide +kernel
theorem d_M_isDigit_7 : decode prog_14_method_54_code 7 = .ok (.bipush 57, 2) := by decide +kernel
theorem d_M_isDigit_9 : decode prog_14_method_54_code 9 = .ok (.if_icmp .gt 7, 3) := by decide +kernel
theorem d_M_isDigit_12 : decode prog_14_method_54_code 12 = .ok (.iconst 1, 1) := by decide +kernel
theorem d_M_isDigit_13 : decode prog_14_method_54_code 13 = .ok (.goto 4, 3) := by decide +kernel
set_option maxHeartbeats 4000000 in
set_option maxRecDepth 100000 in
theorem k_isDigit (l : Launch) (D : va_G) (dA : Nat → ClassId) (sz : Nat) (z : Int32) : Met l ⟨"SeriesVaultModel", "isDigit", "(I)Z"⟩ [Cond.code ⟨"SeriesVaultModel", "isDigit", "(I)Z"⟩ prog_14_method_54_code 1 (some FieldType.boolean)] { frames := 1, cells := 0, slots := 0, locals := 0 } (pC D dA [.int z] ([]) sz) (va_Qi (fun (r9 : Int32) (u9 : Unit) => r9 = bI (isDg z)) (fun (u9 : Unit) t9 => bW D (va_A ([]) sz) ([]) t9) (va_A ([]) sz)) 0 0 (va_A ([]) sz) := by
  refine mkC (y := ⟨"SeriesVaultModel", "isDigit", "(I)Z"⟩) (cc := prog_14_method_54_code) (maxL := 1) (av := [.int z]) (ws := []) (sz := sz) (Qc := fun A => va_Qi (fun (r9 : Int32) (u9 : Unit) => r9 = bI (isDg z)) (fun (u9 : Unit) t9 => bW D A ([]) t9) A) (by decide) (Nat.le_of_ble_eq_true rfl) ?_
  intro A p e s m below meth c ls hsz hB
  obtain ⟨hx, hb, hr, hml, hown, hin, hlk, hE, hK, hP, hD, hS, hA, hN, hl⟩ := hB
  have hown : s.vm.findClass "SeriesVaultModel" = some m.cls := hown
  have hl : lv_has ls 1 [(0, .int z)] := hl
  obtain ⟨H, hH⟩ : ∃ z, z = s.heap := ⟨_, rfl⟩
  have hP : va_P D vwCl ([]) H := by rw [hH]; exact hP
  have hS : va_S A s.heap H [] := by rw [hH]; exact hS
  rw [← hH]
  refine lv_iload_n hx hb d_M_isDigit_0 rfl (lv_at hl 0 rfl) ?_
  refine lv_bipush (v := 48) hx hb d_M_isDigit_1 (by decide) ?_
  refine lv_icmp_lt hx hb d_M_isDigit_3 (tgt := 16) rfl (fun g1 => ?_) (fun g1 => ?_)
  · have g1 := g1
    refine lv_iconst (v := 0) hx hb d_M_isDigit_16 (by decide) ?_
    exact rfZ hx hb hr (bI_nar false) hlk hS () (by simp [isDg, bI, *]) hP hD (Nat.le_of_ble_eq_true rfl) (Nat.le_of_ble_eq_true rfl) d_M_isDigit_17
  · have g1 := g1
    refine lv_iload_n hx hb d_M_isDigit_6 rfl (lv_at hl 0 rfl) ?_
    refine lv_bipush (v := 57) hx hb d_M_isDigit_7 (by decide) ?_
    refine lv_icmp_gt hx hb d_M_isDigit_9 (tgt := 16) rfl (fun g2 => ?_) (fun g2 => ?_)
    · have g2 := g2
      refine lv_iconst (v := 0) hx hb d_M_isDigit_16 (by decide) ?_
      exact rfZ hx hb hr (bI_nar false) hlk hS () (by simp [isDg, bI, *]) hP hD (Nat.le_of_ble_eq_true rfl) (Nat.le_of_ble_eq_true rfl) d_M_isDigit_17
    · have g2 := g2
      refine lv_iconst (v := 1) hx hb d_M_isDigit_12 (by decide) ?_
      refine lv_goto hx hb d_M_isDigit_13 (tgt := 17) rfl ?_
      exact rfZ hx hb hr (bI_nar true) hlk hS () (by simp [isDg, bI, *]) hP hD (Nat.le_of_ble_eq_true rfl) (Nat.le_of_ble_eq_true rfl) d_M_isDigit_17
theorem d_M_isLetter_0 : decode prog_14_method_55_code 0 = .ok (.iload_n 0, 1) := by decide +kernel
theorem d_M_isLetter_1 : decode prog_14_method_55_code 1 = .ok (.bipush 97, 2) := by decide +kernel
theorem d_M_isLetter_3 : decode prog_14_method_55_code 3 = .ok (.if_icmp .lt 9, 3) := by decide +kernel
theorem d_M_isLetter_12 : decode prog_14_method_55_code 12 = .ok (.iload_n 0, 1) := by decide +kernel
theorem d_M_isLetter_13 : decode prog_14_method_55_code 13 = .ok (.bipush 65, 2) := by decide +kernel
theorem d_M_isLetter_15 : decode prog_14_method_55_code 15 = .ok (.if_icmp .lt 9, 3) := by decide +kernel
theorem d_M_isLetter_24 : decode prog_14_method_55_code 24 = .ok (.iload_n 0, 1) := by decide +kernel
theorem d_M_isLetter_25 : decode prog_14_method_55_code 25 = .ok (.bipush 95, 2) := by decide +kernel
theorem d_M_isLetter_27 : decode prog_14_method_55_code 27 = .ok (.if_icmp .ne 7, 3) := by decide +kernel
theorem d_M_isLetter_34 : decode prog_14_method_55_code 34 = .ok (.iconst 0, 1) := by decide +kernel
theorem d_M_isLetter_35 : decode prog_14_method_55_code 35 = .ok (.ireturn, 1) := by decide +kernel
theorem d_M_isLetter_30 : decode prog_14_method_55_code 30 = .ok (.iconst 1, 1) := by decide +kernel
theorem d_M_isLetter_31 : decode prog_14_method_55_code 31 = .ok (.goto 4, 3) := by decide +kernel
theorem d_M_isLetter_18 : decode prog_14_method_55_code 18 = .ok (.iload_n 0, 1) := by decide +kernel
theorem d_M_isLetter_19 : decode prog_14_method_55_code 19 = .ok (.bipush 90, 2) := by decide +kernel
theorem d_M_isLetter_21 : decode prog_14_method_55_code 21 = .ok (.if_icmp .le 9, 3) := by decide +kernel
theorem d_M_isLetter_6 : decode prog_14_method_55_code 6 = .ok (.iload_n 0, 1) := by decide +kernel
theorem d_M_isLetter_7 : decode prog_14_method_55_code 7 = .ok (.bipush 122, 2) := by decide +kernel
theorem d_M_isLetter_9 : decode prog_14_method_55_code 9 = .ok (.if_icmp .le 21, 3) := by decide +kernel
set_option maxHeartbeats 4000000 in
set_option maxRecDepth 100000 in
theorem k_isLetter (l : Launch) (D : va_G) (dA : Nat → ClassId) (sz : Nat) (z : Int32) : Met l ⟨"SeriesVaultModel", "isLetter", "(I)Z"⟩ [Cond.code ⟨"SeriesVaultModel", "isLetter", "(I)Z"⟩ prog_14_method_55_code 1 (some FieldType.boolean)] { frames := 1, cells := 0, slots := 0, locals := 0 } (pC D dA [.int z] ([]) sz) (va_Qi (fun (r9 : Int32) (u9 : Unit) => r9 = bI (isLt z)) (fun (u9 : Unit) t9 => bW D (va_A ([]) sz) ([]) t9) (va_A ([]) sz)) 0 0 (va_A ([]) sz) := by
  refine mkC (y := ⟨"SeriesVaultModel", "isLetter", "(I)Z"⟩) (cc := prog_14_method_55_code) (maxL := 1) (av := [.int z]) (ws := []) (sz := sz) (Qc := fun A => va_Qi (fun (r9 : Int32) (u9 : Unit) => r9 = bI (isLt z)) (fun (u9 : Unit) t9 => bW D A ([]) t9) A) (by decide) (Nat.le_of_ble_eq_true rfl) ?_
  intro A p e s m below meth c ls hsz hB
  obtain ⟨hx, hb, hr, hml, hown, hin, hlk, hE, hK, hP, hD, hS, hA, hN, hl⟩ := hB
  have hown : s.vm.findClass "SeriesVaultModel" = some m.cls := hown
  have hl : lv_has ls 1 [(0, .int z)] := hl
  obtain ⟨H, hH⟩ : ∃ z, z = s.heap := ⟨_, rfl⟩
  have hP : va_P D vwCl ([]) H := by rw [hH]; exact hP
  have hS : va_S A s.heap H [] := by rw [hH]; exact hS
  rw [← hH]
  refine lv_iload_n hx hb d_M_isLetter_0 rfl (lv_at hl 0 rfl) ?_
  refine lv_bipush (v := 97) hx hb d_M_isLetter_1 (by decide) ?_
  refine lv_icmp_lt hx hb d_M_isLetter_3 (tgt := 12) rfl (fun g1 => ?_) (fun g1 => ?_)
  · have g1 := g1
    refine lv_iload_n hx hb d_M_isLetter_12 rfl (lv_at hl 0 rfl) ?_
    refine lv_bipush (v := 65) hx hb d_M_isLetter_13 (by decide) ?_
    refine lv_icmp_lt hx hb d_M_isLetter_15 (tgt := 24) rfl (fun g2 => ?_) (fun g2 => ?_)
    · have g2 := g2
      refine lv_iload_n hx hb d_M_isLetter_24 rfl (lv_at hl 0 rfl) ?_
      refine lv_bipush (v := 95) hx hb d_M_isLetter_25 (by decide) ?_
      refine lv_icmp_ne hx hb d_M_isLetter_27 (tgt := 34) rfl (fun g3 => ?_) (fun g3 => ?_)
      · have g3 := g3
        refine lv_iconst (v := 0) hx hb d_M_isLetter_34 (by decide) ?_
        exact rfZ hx hb hr (bI_nar false) hlk hS () (by simp [isLt, bI, *]) hP hD (Nat.le_of_ble_eq_true rfl) (Nat.le_of_ble_eq_true rfl) d_M_isLetter_35
      · have g3 := g3
        refine lv_iconst (v := 1) hx hb d_M_isLetter_30 (by decide) ?_
        refine lv_goto hx hb d_M_isLetter_31 (tgt := 35) rfl ?_
        exact rfZ hx hb hr (bI_nar true) hlk hS () (by simp [isLt, bI, *]) hP hD (Nat.le_of_ble_eq_true rfl) (Nat.le_of_ble_eq_true rfl) d_M_isLetter_35
    · have g2 := g2
      refine lv_iload_n hx hb d_M_isLetter_18 rfl (lv_at hl 0 rfl) ?_
      refine lv_bipush (v := 90) hx hb d_M_isLetter_19 (by decide) ?_
      refine lv_icmp_le hx hb d_M_isLetter_21 (tgt := 30) rfl (fun g4 => ?_) (fun g4 => ?_)
      · have g4 := g4
        refine lv_iconst (v := 1) hx hb d_M_isLetter_30 (by decide) ?_
        refine lv_goto hx hb d_M_isLetter_31 (tgt := 35) rfl ?_
        exact rfZ hx hb hr (bI_nar true) hlk hS () (by simp [isLt, bI, *]) hP hD (Nat.le_of_ble_eq_true rfl) (Nat.le_of_ble_eq_true rfl) d_M_isLetter_35
      · have g4 := g4
        refine lv_iload_n hx hb d_M_isLetter_24 rfl (lv_at hl 0 rfl) ?_
        refine lv_bipush (v := 95) hx hb d_M_isLetter_25 (by decide) ?_
        refine lv_icmp_ne hx hb d_M_isLetter_27 (tgt := 34) rfl (fun g5 => ?_) (fun g5 => ?_)
        · have g5 := g5
          refine lv_iconst (v := 0) hx hb d_M_isLetter_34 (by decide) ?_
          exact rfZ hx hb hr (bI_nar false) hlk hS () (by simp [isLt, bI, *]) hP hD (Nat.le_of_ble_eq_true rfl) (Nat.le_of_ble_eq_true rfl) d_M_isLetter_35
        · have g5 := g5
          refine lv_iconst (v := 1) hx hb d_M_isLetter_30 (by decide) ?_
          refine lv_goto hx hb d_M_isLetter_31 (tgt := 35) rfl ?_
          exact rfZ hx hb hr (bI_nar true) hlk hS () (by simp [isLt, bI, *]) hP hD (Nat.le_of_ble_eq_true rfl) (Nat.le_of_ble_eq_true rfl) d_M_isLetter_35
  · have g1 := g1
    refine lv_iload_n hx hb d_M_isLetter_6 rfl (lv_at hl 0 rfl) ?_
    refine lv_bipush (v := 122) hx hb d_M_isLetter_7 (by decide) ?_
    refine lv_icmp_le hx hb d_M_isLetter_9 (tgt := 30) rfl (fun g6 => ?_) (fun g6 => ?_)
    · have g6 := g6
      refine lv_iconst (v := 1) hx hb d_M_isLetter_30 (by decide) ?_
      refine lv_goto hx hb d_M_isLetter_31 (tgt := 35) rfl ?_
      exact rfZ hx hb hr (bI_nar true) hlk hS () (by simp [isLt, bI, *]) hP hD (Nat.le_of_ble_eq_true rfl) (Nat.le_of_ble_eq_true rfl) d_M_isLetter_35
    · have g6 := g6
      refine lv_iload_n hx hb d_M_isLetter_12 rfl (lv_at hl 0 rfl) ?_
      refine lv_bipush (v := 65) hx hb d_M_isLetter_13 (by decide) ?_
      refine lv_icmp_lt hx hb d_M_isLetter_15 (tgt := 24) rfl (fun g7 => ?_) (fun g7 => ?_)
      · have g7 := g7
        refine lv_iload_n hx hb d_M_isLetter_24 rfl (lv_at hl 0 rfl) ?_
        refine lv_bipush (v := 95) hx hb d_M_isLetter_25 (by decide) ?_
        refine lv_icmp_ne hx hb d_M_isLetter_27 (tgt := 34) rfl (fun g8 => ?_) (fun g8 => ?_)
        · have g8 := g8
          refine lv_iconst (v := 0) hx hb d_M_isLetter_34 (by decide) ?_
          exact rfZ hx hb hr (bI_nar false) hlk hS () (by simp [isLt, bI, *]) hP hD (Nat.le_of_ble_eq_true rfl) (Nat.le_of_ble_eq_true rfl) d_M_isLetter_35
        · have g8 := g8
          refine lv_iconst (v := 1) hx hb d_M_isLetter_30 (by decide) ?_
          refine lv_goto hx hb d_M_isLetter_31 (tgt := 35) rfl ?_
          exact rfZ hx hb hr (bI_nar true) hlk hS () (by simp [isLt, bI, *]) hP hD (Nat.le_of_ble_eq_true rfl) (Nat.le_of_ble_eq_true rfl) d_M_isLetter_35
      · have g7 := g7
        refine lv_iload_n hx hb d_M_isLetter_18 rfl (lv_at hl 0 rfl) ?_
        refine lv_bipush (v := 90) hx hb d_M_isLetter_19 (by decide) ?_
        refine lv_icmp_le hx hb d_M_isLetter_21 (tgt := 30) rfl (fun g9 => ?_) (fun g9 => ?_)
        · have g9 := g9
          refine lv_iconst (v := 1) hx hb d_M_isLetter_30 (by decide) ?_
          refine lv_goto hx hb d_M_isLetter_31 (tgt := 35) rfl ?_
          exact rfZ hx hb hr (bI_nar true) hlk hS () (by simp [isLt, bI, *]) hP hD (Nat.le_of_ble_eq_true rfl) (Nat.le_of_ble_eq_true rfl) d_M_isLetter_35
        · have g9 := g9
          refine lv_iload_n hx hb d_M_isLetter_24 rfl (lv_at hl 0 rfl) ?_
          refine lv_bipush (v := 95) hx hb d_M_isLetter_25 (by decide) ?_
          refine lv_icmp_ne hx hb d_M_isLetter_27 (tgt := 34) rfl (fun g10 => ?_) (fun g10 => ?_)
          · have g10 := g10
            refine lv_iconst (v := 0) hx hb d_M_isLetter_34 (by decide) ?_
            exact rfZ hx hb hr (bI_nar false) hlk hS () (by simp [isLt, bI, *]) hP hD (Nat.le_of_ble_eq_true rfl) (Nat.le_of_ble_eq_true rfl) d_M_isLetter_35
          · have g10 := g10
            refine lv_iconst (v := 1) hx hb d_M_isLetter_30 (by decide) ?_
            refine lv_goto hx hb d_M_isLetter_31 (tgt := 35) rfl ?_
            exact rfZ hx hb hr (bI_nar true) hlk hS () (by simp [isLt, bI, *]) hP hD (Nat.le_of_ble_eq_true rfl) (Nat.le_of_ble_eq_true rfl) d_M_isLetter_35
theorem d_M_cellAt_0 : decode prog_14_method_64_code 0 = .ok (.iload_n 0, 1) := by decide +kernel
theorem d_M_cellAt_1 : decode prog_14_method_64_code 1 = .ok (.sipush 256, 3) := by decide +kernel
theorem d_M_cellAt_4 : decode prog_14_method_64_code 4 = .ok (.imul, 1) := by decide +kernel
theorem d_M_cellAt_5 : decode prog_14_method_64_code 5 = .ok (.iload_n 1, 1) := by decide +kernel
theorem d_M_cellAt_6 : decode prog_14_method_64_code 6 = .ok (.iadd, 1) := by decide +kernel
theorem d_M_cellAt_7 : decode prog_14_method_64_code 7 = .ok (.bipush 64, 2) := by decide +kernel
theorem d_M_cellAt_9 : decode prog_14_method_64_code 9 = .ok (.imul, 1) := by decide +kernel
theorem d_M_cellAt_10 : decode prog_14_method_64_code 10 = .ok (.iload_n 2, 1) := by decide +kernel
theorem d_M_cellAt_11 : decode prog_14_method_64_code 11 = .ok (.iadd, 1) := by decide +kernel
theorem d_M_cellAt_12 : decode prog_14_method_64_code 12 = .ok (.ireturn, 1) := by decide +kernel
set_option maxHeartbeats 4000000 in
set_option maxRecDepth 100000 in
theorem k_cellAt (l : Launch) (D : va_G) (dA : Nat → ClassId) (sz : Nat) (a : Nat) (b : Nat) (k : Nat) : Met l ⟨"SeriesVaultModel", "cellAt", "(III)I"⟩ [Cond.code ⟨"SeriesVaultModel", "cellAt", "(III)I"⟩ prog_14_method_64_code 3 (some FieldType.int)] { frames := 1, cells := 0, slots := 0, locals := 0 } (pC D dA [.int (nI a), .int (nI b), .int (nI k)] ([]) sz) (va_Qi (fun (r9 : Int32) (u9 : Unit) => r9 = nI ((a * 256 + b) * 64 + k)) (fun (u9 : Unit) t9 => bW D (va_A ([]) sz) ([]) t9) (va_A ([]) sz)) 0 0 (va_A ([]) sz) := by
  refine mkC (y := ⟨"SeriesVaultModel", "cellAt", "(III)I"⟩) (cc := prog_14_method_64_code) (maxL := 3) (av := [.int (nI a), .int (nI b), .int (nI k)]) (ws := []) (sz := sz) (Qc := fun A => va_Qi (fun (r9 : Int32) (u9 : Unit) => r9 = nI ((a * 256 + b) * 64 + k)) (fun (u9 : Unit) t9 => bW D A ([]) t9) A) (by decide) (Nat.le_of_ble_eq_true rfl) ?_
  intro A p e s m below meth c ls hsz hB
  obtain ⟨hx, hb, hr, hml, hown, hin, hlk, hE, hK, hP, hD, hS, hA, hN, hl⟩ := hB
  have hown : s.vm.findClass "SeriesVaultModel" = some m.cls := hown
  have hl : lv_has ls 3 [(0, .int (nI a)), (1, .int (nI b)), (2, .int (nI k))] := hl
  obtain ⟨H, hH⟩ : ∃ z, z = s.heap := ⟨_, rfl⟩
  have hP : va_P D vwCl ([]) H := by rw [hH]; exact hP
  have hS : va_S A s.heap H [] := by rw [hH]; exact hS
  rw [← hH]
  refine lv_iload_n hx hb d_M_cellAt_0 rfl (lv_at hl 0 rfl) ?_
  refine lv_sipush (v := 256) hx hb d_M_cellAt_1 (by decide) ?_
  refine lv_imul hx hb d_M_cellAt_4 (tpi (y := nI (a * 256)) (pk_mul (a) (256)) ?_)
  refine lv_iload_n hx hb d_M_cellAt_5 rfl (lv_at hl 1 rfl) ?_
  refine lv_iadd hx hb d_M_cellAt_6 (tpi (y := nI ((a * 256) + b)) (nI_add (a * 256) (b)) ?_)
  refine lv_bipush (v := 64) hx hb d_M_cellAt_7 (by decide) ?_
  refine lv_imul hx hb d_M_cellAt_9 (tpi (y := nI (((a * 256) + b) * 64)) (pk_mul ((a * 256) + b) (64)) ?_)
  refine lv_iload_n hx hb d_M_cellAt_10 rfl (lv_at hl 2 rfl) ?_
  refine lv_iadd hx hb d_M_cellAt_11 (tpi (y := nI ((((a * 256) + b) * 64) + k)) (nI_add (((a * 256) + b) * 64) (k)) ?_)
  exact rfI hx hb hr hlk hS () rfl hP hD (Nat.le_of_ble_eq_true rfl) (Nat.le_of_ble_eq_true rfl) d_M_cellAt_12
theorem d_M_rank_0 : decode prog_14_method_79_code 0 = .ok (.iload_n 0, 1) := by decide +kernel
theorem d_M_rank_1 : decode prog_14_method_79_code 1 = .ok (.bipush 43, 2) := by decide +kernel
theorem d_M_rank_3 : decode prog_14_method_79_code 3 = .ok (.if_icmp .eq 9, 3) := by decide +kernel
theorem d_M_rank_12 : decode prog_14_method_79_code 12 = .ok (.iconst 1, 1) := by decide +kernel
theorem d_M_rank_13 : decode prog_14_method_79_code 13 = .ok (.goto 36, 3) := by decide +kernel
theorem d_M_rank_49 : decode prog_14_method_79_code 49 = .ok (.ireturn, 1) := by decide +kernel
theorem d_M_rank_6 : decode prog_14_method_79_code 6 = .ok (.iload_n 0, 1) := by decide +kernel
theorem d_M_rank_7 : decode prog_14_method_79_code 7 = .ok (.bipush 45, 2) := by decide +kernel
theorem d_M_rank_9 : decode prog_14_method_79_code 9 = .ok (.if_icmp .ne 7, 3) := by decide +kernel
theorem d_M_rank_16 : decode prog_14_method_79_code 16 = .ok (.iload_n 0, 1) := by decide +kernel
theorem d_M_rank_17 : decode prog_14_method_79_code 17 = .ok (.bipush 42, 2) := by decide +kernel
theorem d_M_rank_19 : decode prog_14_method_79_code 19 = .ok (.if_icmp .eq 15, 3) := by decide +kernel
theorem d_M_rank_34 : decode prog_14_method_79_code 34 = .ok (.iconst 2, 1) := by decide +kernel
theorem d_M_rank_35 : decode prog_14_method_79_code 35 = .ok (.goto 14, 3) := by decide +kernel
theorem d_M_rank_22 : decode prog_14_method_79_code 22 = .ok (.iload_n 0, 1) := by decide +kernel
theorem d_M_rank_23 : decode prog_14_method_79_code 23 = .ok (.bipush 47, 2) := by decide +kernel
theorem d_M_rank_25 : decode prog_14_method_79_code 25 = .ok (.if_icmp .eq 9, 3) := by decide +kernel
theorem d_M_rank_28 : decode prog_14_method_79_code 28 = .ok (.iload_n 0, 1) := by decide +kernel
theorem d_M_rank_29 : decode prog_14_method_79_code 29 = .ok (.bipush 37, 2) := by decide +kernel
theorem d_M_rank_31 : decode prog_14_method_79_code 31 = .ok (.if_icmp .ne 7, 3) := by decide +kernel
theorem d_M_rank_38 : decode prog_14_method_79_code 38 = .ok (.iload_n 0, 1) := by decide +kernel
theorem d_M_rank_39 : decode prog_14_method_79_code 39 = .ok (.bipush 109, 2) := by decide +kernel
theorem d_M_rank_41 : decode prog_14_method_79_code 41 = .ok (.if_icmp .ne 7, 3) := by decide +kernel
theorem d_M_rank_48 : decode prog_14_method_79_code 48 = .ok (.iconst 0, 1) := by decide +kernel
theorem d_M_rank_44 : decode prog_14_method_79_code 44 = .ok (.iconst 3, 1) := by decide +kernel
theorem d_M_rank_45 : decode prog_14_method_79_code 45 = .ok (.goto 4, 3) := by decide +kernel
set_option maxHeartbeats 4000000 in
set_option maxRecDepth 100000 in
theorem k_rank (l : Launch) (D : va_G) (dA : Nat → ClassId) (sz : Nat) (z : Int32) : Met l ⟨"SeriesVaultModel", "rank", "(I)I"⟩ [Cond.code ⟨"SeriesVaultModel", "rank", "(I)I"⟩ prog_14_method_79_code 1 (some FieldType.int)] { frames := 1, cells := 0, slots := 0, locals := 0 } (pC D dA [.int z] ([]) sz) (va_Qi (fun (r9 : Int32) (u9 : Unit) => r9 = nI (rkN z)) (fun (u9 : Unit) t9 => bW D (va_A ([]) sz) ([]) t9) (va_A ([]) sz)) 0 0 (va_A ([]) sz) := by
  refine mkC (y := ⟨"SeriesVaultModel", "rank", "(I)I"⟩) (cc := prog_14_method_79_code) (maxL := 1) (av := [.int z]) (ws := []) (sz := sz) (Qc := fun A => va_Qi (fun (r9 : Int32) (u9 : Unit) => r9 = nI (rkN z)) (fun (u9 : Unit) t9 => bW D A ([]) t9) A) (by decide) (Nat.le_of_ble_eq_true rfl) ?_
  intro A p e s m below meth c ls hsz hB
  obtain ⟨hx, hb, hr, hml, hown, hin, hlk, hE, hK, hP, hD, hS, hA, hN, hl⟩ := hB
  have hown : s.vm.findClass "SeriesVaultModel" = some m.cls := hown
  have hl : lv_has ls 1 [(0, .int z)] := hl
  obtain ⟨H, hH⟩ : ∃ z, z = s.heap := ⟨_, rfl⟩
  have hP : va_P D vwCl ([]) H := by rw [hH]; exact hP
  have hS : va_S A s.heap H [] := by rw [hH]; exact hS
  rw [← hH]
  refine lv_iload_n hx hb d_M_rank_0 rfl (lv_at hl 0 rfl) ?_
  refine lv_bipush (v := 43) hx hb d_M_rank_1 (by decide) ?_
  refine lv_icmp_eq hx hb d_M_rank_3 (tgt := 12) rfl (fun g1 => ?_) (fun g1 => ?_)
  · have g1 := g1
    refine lv_iconst (v := 1) hx hb d_M_rank_12 (by decide) ?_
    refine lv_goto hx hb d_M_rank_13 (tgt := 49) rfl ?_
    exact rfI hx hb hr hlk hS () (by simp [rkN, *]; rfl) hP hD (Nat.le_of_ble_eq_true rfl) (Nat.le_of_ble_eq_true rfl) d_M_rank_49
  · have g1 := g1
    refine lv_iload_n hx hb d_M_rank_6 rfl (lv_at hl 0 rfl) ?_
    refine lv_bipush (v := 45) hx hb d_M_rank_7 (by decide) ?_
    refine lv_icmp_ne hx hb d_M_rank_9 (tgt := 16) rfl (fun g2 => ?_) (fun g2 => ?_)
    · have g2 := g2
      refine lv_iload_n hx hb d_M_rank_16 rfl (lv_at hl 0 rfl) ?_
      refine lv_bipush (v := 42) hx hb d_M_rank_17 (by decide) ?_
      refine lv_icmp_eq hx hb d_M_rank_19 (tgt := 34) rfl (fun g3 => ?_) (fun g3 => ?_)
      · have g3 := g3
        refine lv_iconst (v := 2) hx hb d_M_rank_34 (by decide) ?_
        refine lv_goto hx hb d_M_rank_35 (tgt := 49) rfl ?_
        exact rfI hx hb hr hlk hS () (by simp [rkN, *]; rfl) hP hD (Nat.le_of_ble_eq_true rfl) (Nat.le_of_ble_eq_true rfl) d_M_rank_49
      · have g3 := g3
        refine lv_iload_n hx hb d_M_rank_22 rfl (lv_at hl 0 rfl) ?_
        refine lv_bipush (v := 47) hx hb d_M_rank_23 (by decide) ?_
        refine lv_icmp_eq hx hb d_M_rank_25 (tgt := 34) rfl (fun g4 => ?_) (fun g4 => ?_)
        · have g4 := g4
          refine lv_iconst (v := 2) hx hb d_M_rank_34 (by decide) ?_
          refine lv_goto hx hb d_M_rank_35 (tgt := 49) rfl ?_
          exact rfI hx hb hr hlk hS () (by simp [rkN, *]; rfl) hP hD (Nat.le_of_ble_eq_true rfl) (Nat.le_of_ble_eq_true rfl) d_M_rank_49
        · have g4 := g4
          refine lv_iload_n hx hb d_M_rank_28 rfl (lv_at hl 0 rfl) ?_
          refine lv_bipush (v := 37) hx hb d_M_rank_29 (by decide) ?_
          refine lv_icmp_ne hx hb d_M_rank_31 (tgt := 38) rfl (fun g5 => ?_) (fun g5 => ?_)
          · have g5 := g5
            refine lv_iload_n hx hb d_M_rank_38 rfl (lv_at hl 0 rfl) ?_
            refine lv_bipush (v := 109) hx hb d_M_rank_39 (by decide) ?_
            refine lv_icmp_ne hx hb d_M_rank_41 (tgt := 48) rfl (fun g6 => ?_) (fun g6 => ?_)
            · have g6 := g6
              refine lv_iconst (v := 0) hx hb d_M_rank_48 (by decide) ?_
              exact rfI hx hb hr hlk hS () (by simp [rkN, *]; rfl) hP hD (Nat.le_of_ble_eq_true rfl) (Nat.le_of_ble_eq_true rfl) d_M_rank_49
            · have g6 := g6
              refine lv_iconst (v := 3) hx hb d_M_rank_44 (by decide) ?_
              refine lv_goto hx hb d_M_rank_45 (tgt := 49) rfl ?_
              exact rfI hx hb hr hlk hS () (by simp [rkN, *]; rfl) hP hD (Nat.le_of_ble_eq_true rfl) (Nat.le_of_ble_eq_true rfl) d_M_rank_49
          · have g5 := g5
            refine lv_iconst (v := 2) hx hb d_M_rank_34 (by decide) ?_
            refine lv_goto hx hb d_M_rank_35 (tgt := 49) rfl ?_
            exact rfI hx hb hr hlk hS () (by simp [rkN, *]; rfl) hP hD (Nat.le_of_ble_eq_true rfl) (Nat.le_of_ble_eq_true rfl) d_M_rank_49
    · have g2 := g2
      refine lv_iconst (v := 1) hx hb d_M_rank_12 (by decide) ?_
      refine lv_goto hx hb d_M_rank_13 (tgt := 49) rfl ?_
      exact rfI hx hb hr hlk hS () (by simp [rkN, *]; rfl) hP hD (Nat.le_of_ble_eq_true rfl) (Nat.le_of_ble_eq_true rfl) d_M_rank_49
