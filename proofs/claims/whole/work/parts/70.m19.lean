theorem idG_t {f : Nat → Int32} {len w q : Nat} (hw : 0 < w) (h : isNm (atI f len q) = true) : idG f len w q = idG f len (w - 1) (q + 1) := by
  obtain ⟨k, rfl⟩ : ∃ k, w = k + 1 := ⟨w - 1, by omega⟩
  exact if_pos h
theorem idG_f {f : Nat → Int32} {len w q : Nat} (h : isNm (atI f len q) = false) : idG f len w q = q := by
  cases w with
  | zero => rfl
  | succ w => exact if_neg (by rw [h]; decide)
theorem txG_t {f : Nat → Int32} {len w q : Nat} (hw : 0 < w) (h0 : ¬ len ≤ q) (h : isTx (atI f len q) = true) : txG f len w q = txG f len (w - 1) (q + 1) := by
  obtain ⟨k, rfl⟩ : ∃ k, w = k + 1 := ⟨w - 1, by omega⟩
  show (if len ≤ q then q else if isTx (atI f len q) = true then txG f len k (q + 1) else q) = _
  rw [if_neg h0, if_pos h]
  rfl
theorem txG_n {f : Nat → Int32} {len w q : Nat} (h : len ≤ q ∨ isTx (atI f len q) = false) : txG f len w q = q := by
  cases w with
  | zero => rfl
  | succ w =>
    show (if len ≤ q then q else if isTx (atI f len q) = true then txG f len w (q + 1) else q) = _
    by_cases h1 : len ≤ q
    · rw [if_pos h1]
    · rw [if_neg h1, h.resolve_left h1, if_neg (by decide)]
theorem skG_le {f : Nat → Int32} {len : Nat} : ∀ {w q : Nat}, q ≤ len → skG f len w q ≤ len
  | 0, q, h => h
  | w + 1, q, h => by
    unfold skG
    split
    · exact h
    · split
      · exact skG_le (by omega)
      · exact h
theorem nm_at {f : Nat → Int32} {len q : Nat} (h : isNm (atI f len q) = true) : q < len := by
  refine Nat.lt_of_not_le fun z => ?_
  have e : atI f len q = 0 := if_pos z
  rw [e] at h
  revert h
  decide
theorem d_M_next_11 : decode prog_14_method_57_code 11 = .ok (.aload_n 0, 1) := by decide +kernel
theorem d_M_next_12 : decode prog_14_method_57_code 12 = .ok (.getfield 8, 3) := by decide +kernel
theorem d_M_next_15 : decode prog_14_method_57_code 15 = .ok (.aload_n 0, 1) := by decide +kernel
theorem d_M_next_16 : decode prog_14_method_57_code 16 = .ok (.getfield 342, 3) := by decide +kernel
theorem d_M_next_19 : decode prog_14_method_57_code 19 = .ok (.baload, 1) := by decide +kernel
theorem d_M_next_20 : decode prog_14_method_57_code 20 = .ok (.bipush 32, 2) := by decide +kernel
theorem d_M_next_22 : decode prog_14_method_57_code 22 = .ok (.if_icmp .ne 16, 3) := by decide +kernel
theorem d_M_next_25 : decode prog_14_method_57_code 25 = .ok (.aload_n 0, 1) := by decide +kernel
theorem d_M_next_26 : decode prog_14_method_57_code 26 = .ok (.dup, 1) := by decide +kernel
theorem d_M_next_27 : decode prog_14_method_57_code 27 = .ok (.getfield 342, 3) := by decide +kernel
theorem d_M_next_30 : decode prog_14_method_57_code 30 = .ok (.iconst 1, 1) := by decide +kernel
theorem d_M_next_31 : decode prog_14_method_57_code 31 = .ok (.iadd, 1) := by decide +kernel
theorem d_M_next_32 : decode prog_14_method_57_code 32 = .ok (.putfield 342, 3) := by decide +kernel
theorem d_M_next_35 : decode prog_14_method_57_code 35 = .ok (.goto (-35), 3) := by decide +kernel
set_option maxHeartbeats 4000000 in
set_option maxRecDepth 100000 in
theorem k_next_e (l : Launch) (D : va_G) (dA : Nat → ClassId) (sz : Nat) (h : Nat) (ad : Nat → Nat) (x : MS) (d : Nat) (hl1 : x.length ≤ 65536) (ht : x.too ≤ x.length) (hp : skG x.tape x.length (x.length + 1 - x.too) x.too = d) (hk : x.length ≤ d) : Met l ⟨"SeriesVaultModel", "next", "()Z"⟩ [Cond.code ⟨"SeriesVaultModel", "next", "()Z"⟩ prog_14_method_57_code 2 (some FieldType.boolean)] { frames := 3, cells := 0, slots := 0, locals := 46 } (pC D dA [.ref h] (MW dA h ad x) sz) (va_Qi (fun (r9 : Int32) (u9 : Unit) => r9 = bI true) (fun (u9 : Unit) t9 => bW D (va_A (MW dA h ad x) sz) (MW dA h ad (MS.s_too (MS.s_frm (MS.s_kind x 0) d) d)) t9) (va_A (MW dA h ad x) sz)) 0 0 (va_A (MW dA h ad x) sz) := by
  refine mkC (y := ⟨"SeriesVaultModel", "next", "()Z"⟩) (cc := prog_14_method_57_code) (maxL := 2) (av := [.ref h]) (ws := MW dA h ad x) (sz := sz) (Qc := fun A => va_Qi (fun (r9 : Int32) (u9 : Unit) => r9 = bI true) (fun (u9 : Unit) t9 => bW D A (MW dA h ad (MS.s_too (MS.s_frm (MS.s_kind x 0) d) d)) t9) A) (by decide) (Nat.le_of_ble_eq_true rfl) ?_
  intro A p e s m below meth c ls hsz hB
  obtain ⟨hx, hb, hr, hml, hown, hin, hlk, hE, hK, hP, hD, hS, hA, hN, hl⟩ := hB
  have hown : s.vm.findClass "SeriesVaultModel" = some m.cls := hown
  have hl : lv_has ls 2 [(0, .ref h)] := hl
  obtain ⟨H, hH⟩ : ∃ z, z = s.heap := ⟨_, rfl⟩
  have hP : va_P D vwCl (MW dA h ad x) H := by rw [hH]; exact hP
  have hS : va_S A s.heap H [] := by rw [hH]; exact hS
  rw [← hH]
  have J38 : ∀ (H : Heap) (locs : List Loc) (ls : Array Slot) (hP : va_P D vwCl (MW dA h ad (MS.s_too x d)) H) (hD : va_D A (MW dA h ad (MS.s_too x d))) (hS : va_S A s.heap H locs) (hl : lv_has ls 2 [(0, .ref h)]), W p l e ({ frames := 3, cells := 0, slots := 0, locals := 46 } : Room) s m ([.ref h] : List Value).toArray below meth c H locs 0 0 (MQ below (va_Qi (fun (r9 : Int32) (u9 : Unit) => r9 = bI true) (fun (u9 : Unit) t9 => bW D A (MW dA h ad (MS.s_too (MS.s_frm (MS.s_kind x 0) d) d)) t9) A) ([.ref h] : List Value).toArray s 0 0 A) (F0 m 38 ls []) := by
    intro  H locs ls hP hD hS hl
    have d1 : d ≤ x.length := by rw [← hp]; exact skG_le ht
    refine lv_aload_n hx hb d_M_next_38 rfl (lv_at hl 0 rfl) ?_
    refine lv_aload_n hx hb d_M_next_39 rfl (lv_at hl 0 rfl) ?_
    refine gF (v := .int (nI d)) hx hb hown hE hK hP 0 rfl rfl layM 46 (by decide) w463 rfl d_M_next_40 ?_
    refine pF (v := .int (nI d)) hx hb hown hE hK hP hD hS 0 rfl rfl layM tyM tokM nmM 45 (by decide) w464 rfl rfl rfl (Nat.le_of_ble_eq_true rfl) d_M_next_43 (fun H locs hP hD hS => ?_)
    have hP : va_P D vwCl (MW dA h ad (MS.s_too (MS.s_frm x d) d)) H := hP
    have hD : va_D A (MW dA h ad (MS.s_too (MS.s_frm x d) d)) := hD
    refine lv_aload_n hx hb d_M_next_46 rfl (lv_at hl 0 rfl) ?_
    refine lv_aload_n hx hb d_M_next_47 rfl (lv_at hl 0 rfl) ?_
    refine gF (v := .int (nI d)) hx hb hown hE hK hP 0 rfl rfl layM 45 (by decide) w464 rfl d_M_next_48 ?_
    refine jfI (rnV (As := [.int (nI d)]) (rest := []) hx hb hml hown hE hK (hN _ _ hS) hP hD (k_at l D dA H.size h ad (MS.s_too (MS.s_frm x d) d) d (show d < 2 ^ 31 from by omega) (show x.length ≤ 65536 from by omega)) (q0 := 0) rfl rfl w466 w465 w467 w468 w328 rfl rfl ⟨⟨by decide, by decide⟩, rfl⟩ ⟨(Nat.le_of_ble_eq_true rfl), (Nat.le_of_ble_eq_true rfl)⟩ rfl hl.1 rfl (Nat.le_of_ble_eq_true rfl) d_M_next_51 ⟨(Nat.le_of_ble_eq_true rfl), (Nat.le_of_ble_eq_true rfl)⟩) hP hD hS hA (fun r1 u2 H locs hp9 hP hD hS => ?_)
    have hP : va_P D vwCl (MW dA h ad (MS.s_too (MS.s_frm x d) d)) H := hP
    have hD : va_D A (MW dA h ad (MS.s_too (MS.s_frm x d) d)) := hD
    replace hp9 : x.atN d = r1 := Eq.symm hp9
    subst hp9
    refine lv_istore_n hx hb d_M_next_54 rfl hl (by decide) rfl (fun ls hl => ?_)
    have hl : lv_has ls 2 [(1, .int (x.atN d)), (0, .ref h)] := hl
    refine lv_aload_n hx hb d_M_next_55 rfl (lv_at hl 1 rfl) ?_
    refine gF (v := .int (nI d)) hx hb hown hE hK hP 0 rfl rfl layM 45 (by decide) w464 rfl d_M_next_56 ?_
    refine lv_aload_n hx hb d_M_next_59 rfl (lv_at hl 1 rfl) ?_
    refine gF (v := .int (nI x.length)) hx hb hown hE hK hP 0 rfl rfl layM 2 (by decide) w320 rfl d_M_next_60 ?_
    refine lv_icmp_lt hx hb d_M_next_63 (tgt := 74) rfl (fun h9 => absurd h9 (mt (nI_ltI (a := d) (b := x.length) (by omega) (by omega)).mp (Nat.not_lt.mpr hk))) (fun _ => ?_)
    refine lv_aload_n hx hb d_M_next_66 rfl (lv_at hl 1 rfl) ?_
    refine lv_iconst (v := 0) hx hb d_M_next_67 (by decide) ?_
    refine pF (v := .int 0) hx hb hown hE hK hP hD hS 0 rfl rfl layM tyM tokM nmM 44 (by decide) w469 rfl rfl rfl (Nat.le_of_ble_eq_true rfl) d_M_next_68 (fun H locs hP hD hS => ?_)
    have hP : va_P D vwCl (MW dA h ad (MS.s_too (MS.s_frm (MS.s_kind x 0) d) d)) H := hP
    have hD : va_D A (MW dA h ad (MS.s_too (MS.s_frm (MS.s_kind x 0) d) d)) := hD
    refine lv_goto hx hb d_M_next_71 (tgt := 275) rfl ?_
    refine lv_iconst (v := 1) hx hb d_M_next_275 (by decide) ?_
    exact rfZ hx hb hr (bI_nar true) hlk hS () rfl hP hD (Nat.le_of_ble_eq_true rfl) (Nat.le_of_ble_eq_true rfl) d_M_next_276
  have L0 : ∀ (k9 : Nat) (q : Nat) (i1 : skG x.tape x.length (x.length + 1 - q) q = skG x.tape x.length (x.length + 1 - x.too) x.too) (i2 : q ≤ x.length) (hk9 : x.length + 1 - q = k9), ∀ (H : Heap) (locs : List Loc) (ls : Array Slot) (hP : va_P D vwCl (MW dA h ad (MS.s_too x q)) H) (hD : va_D A (MW dA h ad (MS.s_too x q))) (hS : va_S A s.heap H locs) (hl : lv_has ls 2 [(0, .ref h)]), W p l e ({ frames := 3, cells := 0, slots := 0, locals := 46 } : Room) s m ([.ref h] : List Value).toArray below meth c H locs 0 0 (MQ below (va_Qi (fun (r9 : Int32) (u9 : Unit) => r9 = bI true) (fun (u9 : Unit) t9 => bW D A (MW dA h ad (MS.s_too (MS.s_frm (MS.s_kind x 0) d) d)) t9) A) ([.ref h] : List Value).toArray s 0 0 A) (F0 m 0 ls []) := by
    intro k9
    induction k9 using Nat.strongRecOn with
    | ind k9 ih0 =>
      intro q i1 i2 hk9 H locs ls hP hD hS hl
      refine lv_aload_n hx hb d_M_next_0 rfl (lv_at hl 0 rfl) ?_
      refine gF (v := .int (nI q)) hx hb hown hE hK hP 0 rfl rfl layM 46 (by decide) w463 rfl d_M_next_1 ?_
      refine lv_aload_n hx hb d_M_next_4 rfl (lv_at hl 0 rfl) ?_
      refine gF (v := .int (nI x.length)) hx hb hown hE hK hP 0 rfl rfl layM 2 (by decide) w320 rfl d_M_next_5 ?_
      refine lv_icmp_ge hx hb d_M_next_8 (tgt := 38) rfl (fun g3 => ?_) (fun g3 => ?_)
      · have g3 := (nI_leI (a := x.length) (b := q) (by omega) (by omega)).mp g3
        have e9 : (MS.s_too x q : MS) = MS.s_too x d := by rw [show d = q from (hp.symm.trans (i1.symm.trans (skG_n (Or.inl g3))))] <;> rfl
        exact J38  H _ ls (cvP e9 hP) (cvD e9 hD) hS (lv_sub hl [0] rfl)
      · have g3 := mt (nI_leI (a := x.length) (b := q) (by omega) (by omega)).mpr g3
        refine lv_aload_n hx hb d_M_next_11 rfl (lv_at hl 0 rfl) ?_
        refine gF (v := .ref (ad 1)) hx hb hown hE hK hP 0 rfl rfl layM 1 (by decide) w497 rfl d_M_next_12 ?_
        refine lv_aload_n hx hb d_M_next_15 rfl (lv_at hl 0 rfl) ?_
        refine gF (v := .int (nI q)) hx hb hown hE hK hP 0 rfl rfl layM 46 (by decide) w463 rfl d_M_next_16 ?_
        refine nbld (f := x.tape) hx hb hK hP 1 0 rfl rfl (q) (by omega) (by decide) d_M_next_19 ?_
        refine lv_bipush (v := 32) hx hb d_M_next_20 (by decide) ?_
        refine lv_icmp_ne hx hb d_M_next_22 (tgt := 38) rfl (fun g4 => ?_) (fun g4 => ?_)
        · have g4 := g4
          have e9 : (MS.s_too x q : MS) = MS.s_too x d := by rw [show d = q from (hp.symm.trans (i1.symm.trans (skG_n (Or.inr g4))))] <;> rfl
          exact J38  H _ ls (cvP e9 hP) (cvD e9 hD) hS (lv_sub hl [0] rfl)
        · have g4 := g4
          refine lv_aload_n hx hb d_M_next_25 rfl (lv_at hl 0 rfl) ?_
          refine lv_dup hx hb d_M_next_26 rfl ?_
          refine gF (v := .int (nI q)) hx hb hown hE hK hP 0 rfl rfl layM 46 (by decide) w463 rfl d_M_next_27 ?_
          refine lv_iconst (v := 1) hx hb d_M_next_30 (by decide) ?_
          refine lv_iadd hx hb d_M_next_31 (tpi (y := nI (q + 1)) (nI_add (q) (1)) ?_)
          refine pF (v := .int (nI (q + 1))) hx hb hown hE hK hP hD hS 0 rfl rfl layM tyM tokM nmM 46 (by decide) w463 rfl rfl rfl (Nat.le_of_ble_eq_true rfl) d_M_next_32 (fun H locs hP hD hS => ?_)
          have hP : va_P D vwCl (MW dA h ad (MS.s_too x (q + 1))) H := hP
          have hD : va_D A (MW dA h ad (MS.s_too x (q + 1))) := hD
          refine lv_goto hx hb d_M_next_35 (tgt := 0) rfl ?_
          exact ih0 _ (by omega) (q + 1) (by rw [← i1, skG_t (w := x.length + 1 - q) (by omega) g3 g4, show x.length + 1 - q - 1 = x.length + 1 - (q + 1) by omega]) (by omega) rfl H _ ls hP hD hS (lv_sub hl [0] rfl)
  exact L0 _ x.too rfl ht rfl H _ ls hP hD hS (lv_sub hl [0] rfl)
theorem d_M_next_74 : decode prog_14_method_57_code 74 = .ok (.iload_n 1, 1) := by decide +kernel
theorem d_M_next_75 : decode prog_14_method_57_code 75 = .ok (.invokestatic 354, 3) := by decide +kernel
theorem d_M_next_78 : decode prog_14_method_57_code 78 = .ok (.ifCond .eq 8, 3) := by decide +kernel
theorem d_M_next_81 : decode prog_14_method_57_code 81 = .ok (.aload_n 0, 1) := by decide +kernel
theorem d_M_next_82 : decode prog_14_method_57_code 82 = .ok (.invokevirtual 357, 3) := by decide +kernel
theorem d_M_next_85 : decode prog_14_method_57_code 85 = .ok (.ireturn, 1) := by decide +kernel
theorem w959 : Cond.methodLink "SeriesVaultModel" 357 ⟨"SeriesVaultModel", "readNumber", "()Z"⟩ ∈ aW := aw_of (tb_10 (List.mem_of_getElem? (i := 168) rfl)) rfl
theorem w960 : Cond.code ⟨"SeriesVaultModel", "readNumber", "()Z"⟩ prog_14_method_58_code 3 (some FieldType.boolean) ∈ aW := aw_of (tb_10 (List.mem_of_getElem? (i := 171) rfl)) rfl
theorem w961 : Cond.instanceMethod ⟨"SeriesVaultModel", "readNumber", "()Z"⟩ ∈ aW := aw_of (tb_10 (List.mem_of_getElem? (i := 170) rfl)) rfl
theorem w962 : Cond.selects "SeriesVaultModel" ⟨"SeriesVaultModel", "readNumber", "()Z"⟩ ⟨"SeriesVaultModel", "readNumber", "()Z"⟩ ∈ aW := aw_pr (List.mem_map.mpr ⟨_, pv_7 (List.mem_of_getElem? (i := 1) rfl), rfl⟩) rfl
set_option maxHeartbeats 4000000 in
set_option maxRecDepth 100000 in
theorem k_next_n (l : Launch) (D : va_G) (dA : Nat → ClassId) (sz : Nat) (h : Nat) (ad : Nat → Nat) (x : MS) (d : Nat) (b : Nat) (k : Int64) (hl1 : x.length ≤ 65536) (ht : x.too ≤ x.length) (hp : skG x.tape x.length (x.length + 1 - x.too) x.too = d) (hk : d < x.length) (hdg : isDg (x.atN d) = true) (hg : numG x.tape x.length (x.length + 1 - d) d true 0 = (b, true, k)) : Met l ⟨"SeriesVaultModel", "next", "()Z"⟩ [Cond.code ⟨"SeriesVaultModel", "next", "()Z"⟩ prog_14_method_57_code 2 (some FieldType.boolean)] { frames := 3, cells := 0, slots := 0, locals := 46 } (pC D dA [.ref h] (MW dA h ad x) sz) (va_Qi (fun (r9 : Int32) (u9 : MS) => r9 = bI true ∧ u9 = (((x.s_frm d).s_kind 1).s_too b).s_amount k) (fun (u9 : MS) t9 => bW D (va_A (MW dA h ad x) sz) (MW dA h ad u9) t9) (va_A (MW dA h ad x) sz)) 0 0 (va_A (MW dA h ad x) sz) := by
  refine mkC (y := ⟨"SeriesVaultModel", "next", "()Z"⟩) (cc := prog_14_method_57_code) (maxL := 2) (av := [.ref h]) (ws := MW dA h ad x) (sz := sz) (Qc := fun A => va_Qi (fun (r9 : Int32) (u9 : MS) => r9 = bI true ∧ u9 = (((x.s_frm d).s_kind 1).s_too b).s_amount k) (fun (u9 : MS) t9 => bW D A (MW dA h ad u9) t9) A) (by decide) (Nat.le_of_ble_eq_true rfl) ?_
  intro A p e s m below meth c ls hsz hB
  obtain ⟨hx, hb, hr, hml, hown, hin, hlk, hE, hK, hP, hD, hS, hA, hN, hl⟩ := hB
  have hown : s.vm.findClass "SeriesVaultModel" = some m.cls := hown
  have hl : lv_has ls 2 [(0, .ref h)] := hl
  obtain ⟨H, hH⟩ : ∃ z, z = s.heap := ⟨_, rfl⟩
  have hP : va_P D vwCl (MW dA h ad x) H := by rw [hH]; exact hP
  have hS : va_S A s.heap H [] := by rw [hH]; exact hS
  rw [← hH]
  have J38 : ∀ (H : Heap) (locs : List Loc) (ls : Array Slot) (hP : va_P D vwCl (MW dA h ad (MS.s_too x d)) H) (hD : va_D A (MW dA h ad (MS.s_too x d))) (hS : va_S A s.heap H locs) (hl : lv_has ls 2 [(0, .ref h)]), W p l e ({ frames := 3, cells := 0, slots := 0, locals := 46 } : Room) s m ([.ref h] : List Value).toArray below meth c H locs 0 0 (MQ below (va_Qi (fun (r9 : Int32) (u9 : MS) => r9 = bI true ∧ u9 = (((x.s_frm d).s_kind 1).s_too b).s_amount k) (fun (u9 : MS) t9 => bW D A (MW dA h ad u9) t9) A) ([.ref h] : List Value).toArray s 0 0 A) (F0 m 38 ls []) := by
    intro  H locs ls hP hD hS hl
    have d1 : d ≤ x.length := by rw [← hp]; exact skG_le ht
    refine lv_aload_n hx hb d_M_next_38 rfl (lv_at hl 0 rfl) ?_
    refine lv_aload_n hx hb d_M_next_39 rfl (lv_at hl 0 rfl) ?_
    refine gF (v := .int (nI d)) hx hb hown hE hK hP 0 rfl rfl layM 46 (by decide) w463 rfl d_M_next_40 ?_
    refine pF (v := .int (nI d)) hx hb hown hE hK hP hD hS 0 rfl rfl layM tyM tokM nmM 45 (by decide) w464 rfl rfl rfl (Nat.le_of_ble_eq_true rfl) d_M_next_43 (fun H locs hP hD hS => ?_)
    have hP : va_P D vwCl (MW dA h ad (MS.s_too (MS.s_frm x d) d)) H := hP
    have hD : va_D A (MW dA h ad (MS.s_too (MS.s_frm x d) d)) := hD
    refine lv_aload_n hx hb d_M_next_46 rfl (lv_at hl 0 rfl) ?_
    refine lv_aload_n hx hb d_M_next_47 rfl (lv_at hl 0 rfl) ?_
    refine gF (v := .int (nI d)) hx hb hown hE hK hP 0 rfl rfl layM 45 (by decide) w464 rfl d_M_next_48 ?_
    refine jfI (rnV (As := [.int (nI d)]) (rest := []) hx hb hml hown hE hK (hN _ _ hS) hP hD (k_at l D dA H.size h ad (MS.s_too (MS.s_frm x d) d) d (show d < 2 ^ 31 from by omega) (show x.length ≤ 65536 from by omega)) (q0 := 0) rfl rfl w466 w465 w467 w468 w328 rfl rfl ⟨⟨by decide, by decide⟩, rfl⟩ ⟨(Nat.le_of_ble_eq_true rfl), (Nat.le_of_ble_eq_true rfl)⟩ rfl hl.1 rfl (Nat.le_of_ble_eq_true rfl) d_M_next_51 ⟨(Nat.le_of_ble_eq_true rfl), (Nat.le_of_ble_eq_true rfl)⟩) hP hD hS hA (fun r1 u2 H locs hp9 hP hD hS => ?_)
    have hP : va_P D vwCl (MW dA h ad (MS.s_too (MS.s_frm x d) d)) H := hP
    have hD : va_D A (MW dA h ad (MS.s_too (MS.s_frm x d) d)) := hD
    replace hp9 : x.atN d = r1 := Eq.symm hp9
    subst hp9
    refine lv_istore_n hx hb d_M_next_54 rfl hl (by decide) rfl (fun ls hl => ?_)
    have hl : lv_has ls 2 [(1, .int (x.atN d)), (0, .ref h)] := hl
    refine lv_aload_n hx hb d_M_next_55 rfl (lv_at hl 1 rfl) ?_
    refine gF (v := .int (nI d)) hx hb hown hE hK hP 0 rfl rfl layM 45 (by decide) w464 rfl d_M_next_56 ?_
    refine lv_aload_n hx hb d_M_next_59 rfl (lv_at hl 1 rfl) ?_
    refine gF (v := .int (nI x.length)) hx hb hown hE hK hP 0 rfl rfl layM 2 (by decide) w320 rfl d_M_next_60 ?_
    refine lv_icmp_lt hx hb d_M_next_63 (tgt := 74) rfl (fun _ => ?_) (fun h9 => absurd ((nI_ltI (a := d) (b := x.length) (by omega) (by omega)).mpr hk) h9)
    refine lv_iload_n hx hb d_M_next_74 rfl (lv_at hl 0 rfl) ?_
    have hPc := hP.sub (ws' := []) [] rfl
    have hDc := hD.sub (ws' := []) [] (by decide) rfl
    refine jnI (rnS (As := [.int (x.atN d)]) (rest := []) hx hb hml hown hE hK (hN _ _ hS) hPc hDc (k_isDigit l D dA H.size (x.atN d)) w955 w954 w956 w328 rfl rfl ⟨⟨by decide, by decide⟩, rfl⟩ ⟨(Nat.le_of_ble_eq_true rfl), (Nat.le_of_ble_eq_true rfl)⟩ rfl hl.1 rfl (Nat.le_of_ble_eq_true rfl) d_M_next_75 ⟨(Nat.le_of_ble_eq_true rfl), (Nat.le_of_ble_eq_true rfl)⟩) hP hD hS hA [] [0, 1, 2, 3, 4, 5, 6, 7, 8, 9, 10, 11, 12, 13, 14, 15, 16, 17, 18, 19, 20, 21, 22, 23, 24, 25, 26, 27, 28, 29, 30, 31, 32, 33, 34, 35, 36, 37, 38] (wr := MW dA h ad (MS.s_too (MS.s_frm x d) d)) rfl rfl (by decide) (by decide) (fun r3 u9 H locs hp9 hP hD hS => ?_)
    have hP : va_P D vwCl (MW dA h ad (MS.s_too (MS.s_frm x d) d)) H := hP
    have hD : va_D A (MW dA h ad (MS.s_too (MS.s_frm x d) d)) := hD
    replace hp9 : bI (isDg (x.atN d)) = r3 := Eq.symm hp9
    subst hp9
    refine lv_if_eq hx hb d_M_next_78 (tgt := 86) rfl (fun h9 => absurd h9 (by rw [hdg]; decide)) (fun _ => ?_)
    refine lv_aload_n hx hb d_M_next_81 rfl (lv_at hl 1 rfl) ?_
    refine jfI (rnV (As := []) (rest := []) hx hb hml hown hE hK (hN _ _ hS) hP hD (k_readNumber_0 l D dA H.size h ad (MS.s_too (MS.s_frm x d) d) b k (show x.length ≤ 65536 from by omega) (show d ≤ x.length from by omega) hg) (q0 := 0) rfl rfl w960 w959 w961 w962 w328 rfl rfl ⟨⟨by decide, by decide⟩, rfl⟩ ⟨(Nat.le_of_ble_eq_true rfl), (Nat.le_of_ble_eq_true rfl)⟩ rfl hl.1 rfl (Nat.le_of_ble_eq_true rfl) d_M_next_82 ⟨(Nat.le_of_ble_eq_true rfl), (Nat.le_of_ble_eq_true rfl)⟩) hP hD hS hA (fun r5 u6 H locs hp9 hP hD hS => ?_)
    obtain ⟨y7, h9u⟩ : ∃ z9, z9 = u6 := ⟨_, rfl⟩
    subst h9u
    have hP : va_P D vwCl (MW dA h ad y7) H := hP
    have hD : va_D A (MW dA h ad y7) := hD
    obtain ⟨hp9, f_e_8⟩ := hp9
    replace hp9 : bI true = r5 := Eq.symm hp9
    subst hp9
    exact rfZ hx hb hr (bI_nar true) hlk hS y7 ⟨rfl, f_e_8⟩ hP hD (Nat.le_of_ble_eq_true rfl) (Nat.le_of_ble_eq_true rfl) d_M_next_85
  have L0 : ∀ (k9 : Nat) (q : Nat) (i1 : skG x.tape x.length (x.length + 1 - q) q = skG x.tape x.length (x.length + 1 - x.too) x.too) (i2 : q ≤ x.length) (hk9 : x.length + 1 - q = k9), ∀ (H : Heap) (locs : List Loc) (ls : Array Slot) (hP : va_P D vwCl (MW dA h ad (MS.s_too x q)) H) (hD : va_D A (MW dA h ad (MS.s_too x q))) (hS : va_S A s.heap H locs) (hl : lv_has ls 2 [(0, .ref h)]), W p l e ({ frames := 3, cells := 0, slots := 0, locals := 46 } : Room) s m ([.ref h] : List Value).toArray below meth c H locs 0 0 (MQ below (va_Qi (fun (r9 : Int32) (u9 : MS) => r9 = bI true ∧ u9 = (((x.s_frm d).s_kind 1).s_too b).s_amount k) (fun (u9 : MS) t9 => bW D A (MW dA h ad u9) t9) A) ([.ref h] : List Value).toArray s 0 0 A) (F0 m 0 ls []) := by
    intro k9
    induction k9 using Nat.strongRecOn with
    | ind k9 ih0 =>
      intro q i1 i2 hk9 H locs ls hP hD hS hl
      refine lv_aload_n hx hb d_M_next_0 rfl (lv_at hl 0 rfl) ?_
      refine gF (v := .int (nI q)) hx hb hown hE hK hP 0 rfl rfl layM 46 (by decide) w463 rfl d_M_next_1 ?_
      refine lv_aload_n hx hb d_M_next_4 rfl (lv_at hl 0 rfl) ?_
      refine gF (v := .int (nI x.length)) hx hb hown hE hK hP 0 rfl rfl layM 2 (by decide) w320 rfl d_M_next_5 ?_
      refine lv_icmp_ge hx hb d_M_next_8 (tgt := 38) rfl (fun g9 => ?_) (fun g9 => ?_)
      · have g9 := (nI_leI (a := x.length) (b := q) (by omega) (by omega)).mp g9
        have e9 : (MS.s_too x q : MS) = MS.s_too x d := by rw [show d = q from (hp.symm.trans (i1.symm.trans (skG_n (Or.inl g9))))] <;> rfl
        exact J38  H _ ls (cvP e9 hP) (cvD e9 hD) hS (lv_sub hl [0] rfl)
      · have g9 := mt (nI_leI (a := x.length) (b := q) (by omega) (by omega)).mpr g9
        refine lv_aload_n hx hb d_M_next_11 rfl (lv_at hl 0 rfl) ?_
        refine gF (v := .ref (ad 1)) hx hb hown hE hK hP 0 rfl rfl layM 1 (by decide) w497 rfl d_M_next_12 ?_
        refine lv_aload_n hx hb d_M_next_15 rfl (lv_at hl 0 rfl) ?_
        refine gF (v := .int (nI q)) hx hb hown hE hK hP 0 rfl rfl layM 46 (by decide) w463 rfl d_M_next_16 ?_
        refine nbld (f := x.tape) hx hb hK hP 1 0 rfl rfl (q) (by omega) (by decide) d_M_next_19 ?_
        refine lv_bipush (v := 32) hx hb d_M_next_20 (by decide) ?_
        refine lv_icmp_ne hx hb d_M_next_22 (tgt := 38) rfl (fun g10 => ?_) (fun g10 => ?_)
        · have g10 := g10
          have e9 : (MS.s_too x q : MS) = MS.s_too x d := by rw [show d = q from (hp.symm.trans (i1.symm.trans (skG_n (Or.inr g10))))] <;> rfl
          exact J38  H _ ls (cvP e9 hP) (cvD e9 hD) hS (lv_sub hl [0] rfl)
        · have g10 := g10
          refine lv_aload_n hx hb d_M_next_25 rfl (lv_at hl 0 rfl) ?_
          refine lv_dup hx hb d_M_next_26 rfl ?_
          refine gF (v := .int (nI q)) hx hb hown hE hK hP 0 rfl rfl layM 46 (by decide) w463 rfl d_M_next_27 ?_
          refine lv_iconst (v := 1) hx hb d_M_next_30 (by decide) ?_
          refine lv_iadd hx hb d_M_next_31 (tpi (y := nI (q + 1)) (nI_add (q) (1)) ?_)
          refine pF (v := .int (nI (q + 1))) hx hb hown hE hK hP hD hS 0 rfl rfl layM tyM tokM nmM 46 (by decide) w463 rfl rfl rfl (Nat.le_of_ble_eq_true rfl) d_M_next_32 (fun H locs hP hD hS => ?_)
          have hP : va_P D vwCl (MW dA h ad (MS.s_too x (q + 1))) H := hP
          have hD : va_D A (MW dA h ad (MS.s_too x (q + 1))) := hD
          refine lv_goto hx hb d_M_next_35 (tgt := 0) rfl ?_
          exact ih0 _ (by omega) (q + 1) (by rw [← i1, skG_t (w := x.length + 1 - q) (by omega) g9 g10, show x.length + 1 - q - 1 = x.length + 1 - (q + 1) by omega]) (by omega) rfl H _ ls hP hD hS (lv_sub hl [0] rfl)
  exact L0 _ x.too rfl ht rfl H _ ls hP hD hS (lv_sub hl [0] rfl)
set_option maxHeartbeats 4000000 in
set_option maxRecDepth 100000 in
theorem k_next_nx (l : Launch) (D : va_G) (dA : Nat → ClassId) (sz : Nat) (h : Nat) (ad : Nat → Nat) (x : MS) (d : Nat) (b : Nat) (k : Int64) (hl1 : x.length ≤ 65536) (ht : x.too ≤ x.length) (hp : skG x.tape x.length (x.length + 1 - x.too) x.too = d) (hk : d < x.length) (hdg : isDg (x.atN d) = true) (hg : numG x.tape x.length (x.length + 1 - d) d true 0 = (b, false, k)) (hf : x.faultCode = 0) : Met l ⟨"SeriesVaultModel", "next", "()Z"⟩ [Cond.code ⟨"SeriesVaultModel", "next", "()Z"⟩ prog_14_method_57_code 2 (some FieldType.boolean)] { frames := 3, cells := 0, slots := 0, locals := 46 } (pC D dA [.ref h] (MW dA h ad x) sz) (va_Qi (fun (r9 : Int32) (u9 : MS) => r9 = bI false ∧ u9 = (((((x.s_frm d).s_kind 1).s_too b).s_amount k).s_faultCode 1).s_faultPlace (nI d)) (fun (u9 : MS) t9 => bW D (va_A (MW dA h ad x) sz) (MW dA h ad u9) t9) (va_A (MW dA h ad x) sz)) 0 0 (va_A (MW dA h ad x) sz) := by
  refine mkC (y := ⟨"SeriesVaultModel", "next", "()Z"⟩) (cc := prog_14_method_57_code) (maxL := 2) (av := [.ref h]) (ws := MW dA h ad x) (sz := sz) (Qc := fun A => va_Qi (fun (r9 : Int32) (u9 : MS) => r9 = bI false ∧ u9 = (((((x.s_frm d).s_kind 1).s_too b).s_amount k).s_faultCode 1).s_faultPlace (nI d)) (fun (u9 : MS) t9 => bW D A (MW dA h ad u9) t9) A) (by decide) (Nat.le_of_ble_eq_true rfl) ?_
  intro A p e s m below meth c ls hsz hB
  obtain ⟨hx, hb, hr, hml, hown, hin, hlk, hE, hK, hP, hD, hS, hA, hN, hl⟩ := hB
  have hown : s.vm.findClass "SeriesVaultModel" = some m.cls := hown
  have hl : lv_has ls 2 [(0, .ref h)] := hl
  obtain ⟨H, hH⟩ : ∃ z, z = s.heap := ⟨_, rfl⟩
  have hP : va_P D vwCl (MW dA h ad x) H := by rw [hH]; exact hP
  have hS : va_S A s.heap H [] := by rw [hH]; exact hS
  rw [← hH]
  have J38 : ∀ (H : Heap) (locs : List Loc) (ls : Array Slot) (hP : va_P D vwCl (MW dA h ad (MS.s_too x d)) H) (hD : va_D A (MW dA h ad (MS.s_too x d))) (hS : va_S A s.heap H locs) (hl : lv_has ls 2 [(0, .ref h)]), W p l e ({ frames := 3, cells := 0, slots := 0, locals := 46 } : Room) s m ([.ref h] : List Value).toArray below meth c H locs 0 0 (MQ below (va_Qi (fun (r9 : Int32) (u9 : MS) => r9 = bI false ∧ u9 = (((((x.s_frm d).s_kind 1).s_too b).s_amount k).s_faultCode 1).s_faultPlace (nI d)) (fun (u9 : MS) t9 => bW D A (MW dA h ad u9) t9) A) ([.ref h] : List Value).toArray s 0 0 A) (F0 m 38 ls []) := by
    intro  H locs ls hP hD hS hl
    have d1 : d ≤ x.length := by rw [← hp]; exact skG_le ht
    refine lv_aload_n hx hb d_M_next_38 rfl (lv_at hl 0 rfl) ?_
    refine lv_aload_n hx hb d_M_next_39 rfl (lv_at hl 0 rfl) ?_
    refine gF (v := .int (nI d)) hx hb hown hE hK hP 0 rfl rfl layM 46 (by decide) w463 rfl d_M_next_40 ?_
    refine pF (v := .int (nI d)) hx hb hown hE hK hP hD hS 0 rfl rfl layM tyM tokM nmM 45 (by decide) w464 rfl rfl rfl (Nat.le_of_ble_eq_true rfl) d_M_next_43 (fun H locs hP hD hS => ?_)
    have hP : va_P D vwCl (MW dA h ad (MS.s_too (MS.s_frm x d) d)) H := hP
    have hD : va_D A (MW dA h ad (MS.s_too (MS.s_frm x d) d)) := hD
    refine lv_aload_n hx hb d_M_next_46 rfl (lv_at hl 0 rfl) ?_
    refine lv_aload_n hx hb d_M_next_47 rfl (lv_at hl 0 rfl) ?_
    refine gF (v := .int (nI d)) hx hb hown hE hK hP 0 rfl rfl layM 45 (by decide) w464 rfl d_M_next_48 ?_
    refine jfI (rnV (As := [.int (nI d)]) (rest := []) hx hb hml hown hE hK (hN _ _ hS) hP hD (k_at l D dA H.size h ad (MS.s_too (MS.s_frm x d) d) d (show d < 2 ^ 31 from by omega) (show x.length ≤ 65536 from by omega)) (q0 := 0) rfl rfl w466 w465 w467 w468 w328 rfl rfl ⟨⟨by decide, by decide⟩, rfl⟩ ⟨(Nat.le_of_ble_eq_true rfl), (Nat.le_of_ble_eq_true rfl)⟩ rfl hl.1 rfl (Nat.le_of_ble_eq_true rfl) d_M_next_51 ⟨(Nat.le_of_ble_eq_true rfl), (Nat.le_of_ble_eq_true rfl)⟩) hP hD hS hA (fun r1 u2 H locs hp9 hP hD hS => ?_)
    have hP : va_P D vwCl (MW dA h ad (MS.s_too (MS.s_frm x d) d)) H := hP
    have hD : va_D A (MW dA h ad (MS.s_too (MS.s_frm x d) d)) := hD
    replace hp9 : x.atN d = r1 := Eq.symm hp9
    subst hp9
    refine lv_istore_n hx hb d_M_next_54 rfl hl (by decide) rfl (fun ls hl => ?_)
    have hl : lv_has ls 2 [(1, .int (x.atN d)), (0, .ref h)] := hl
    refine lv_aload_n hx hb d_M_next_55 rfl (lv_at hl 1 rfl) ?_
    refine gF (v := .int (nI d)) hx hb hown hE hK hP 0 rfl rfl layM 45 (by decide) w464 rfl d_M_next_56 ?_
    refine lv_aload_n hx hb d_M_next_59 rfl (lv_at hl 1 rfl) ?_
    refine gF (v := .int (nI x.length)) hx hb hown hE hK hP 0 rfl rfl layM 2 (by decide) w320 rfl d_M_next_60 ?_
    refine lv_icmp_lt hx hb d_M_next_63 (tgt := 74) rfl (fun _ => ?_) (fun h9 => absurd ((nI_ltI (a := d) (b := x.length) (by omega) (by omega)).mpr hk) h9)
    refine lv_iload_n hx hb d_M_next_74 rfl (lv_at hl 0 rfl) ?_
    have hPc := hP.sub (ws' := []) [] rfl
    have hDc := hD.sub (ws' := []) [] (by decide) rfl
    refine jnI (rnS (As := [.int (x.atN d)]) (rest := []) hx hb hml hown hE hK (hN _ _ hS) hPc hDc (k_isDigit l D dA H.size (x.atN d)) w955 w954 w956 w328 rfl rfl ⟨⟨by decide, by decide⟩, rfl⟩ ⟨(Nat.le_of_ble_eq_true rfl), (Nat.le_of_ble_eq_true rfl)⟩ rfl hl.1 rfl (Nat.le_of_ble_eq_true rfl) d_M_next_75 ⟨(Nat.le_of_ble_eq_true rfl), (Nat.le_of_ble_eq_true rfl)⟩) hP hD hS hA [] [0, 1, 2, 3, 4, 5, 6, 7, 8, 9, 10, 11, 12, 13, 14, 15, 16, 17, 18, 19, 20, 21, 22, 23, 24, 25, 26, 27, 28, 29, 30, 31, 32, 33, 34, 35, 36, 37, 38] (wr := MW dA h ad (MS.s_too (MS.s_frm x d) d)) rfl rfl (by decide) (by decide) (fun r3 u9 H locs hp9 hP hD hS => ?_)
    have hP : va_P D vwCl (MW dA h ad (MS.s_too (MS.s_frm x d) d)) H := hP
    have hD : va_D A (MW dA h ad (MS.s_too (MS.s_frm x d) d)) := hD
    replace hp9 : bI (isDg (x.atN d)) = r3 := Eq.symm hp9
    subst hp9
    refine lv_if_eq hx hb d_M_next_78 (tgt := 86) rfl (fun h9 => absurd h9 (by rw [hdg]; decide)) (fun _ => ?_)
    refine lv_aload_n hx hb d_M_next_81 rfl (lv_at hl 1 rfl) ?_
    refine jfI (rnV (As := []) (rest := []) hx hb hml hown hE hK (hN _ _ hS) hP hD (k_readNumber_x l D dA H.size h ad (MS.s_too (MS.s_frm x d) d) b k (show x.length ≤ 65536 from by omega) (show d ≤ x.length from by omega) hg hf) (q0 := 0) rfl rfl w960 w959 w961 w962 w328 rfl rfl ⟨⟨by decide, by decide⟩, rfl⟩ ⟨(Nat.le_of_ble_eq_true rfl), (Nat.le_of_ble_eq_true rfl)⟩ rfl hl.1 rfl (Nat.le_of_ble_eq_true rfl) d_M_next_82 ⟨(Nat.le_of_ble_eq_true rfl), (Nat.le_of_ble_eq_true rfl)⟩) hP hD hS hA (fun r5 u6 H locs hp9 hP hD hS => ?_)
    obtain ⟨y7, h9u⟩ : ∃ z9, z9 = u6 := ⟨_, rfl⟩
    subst h9u
    have hP : va_P D vwCl (MW dA h ad y7) H := hP
    have hD : va_D A (MW dA h ad y7) := hD
    obtain ⟨hp9, f_e_8⟩ := hp9
    replace hp9 : bI false = r5 := Eq.symm hp9
    subst hp9
    exact rfZ hx hb hr (bI_nar false) hlk hS y7 ⟨rfl, f_e_8⟩ hP hD (Nat.le_of_ble_eq_true rfl) (Nat.le_of_ble_eq_true rfl) d_M_next_85
  have L0 : ∀ (k9 : Nat) (q : Nat) (i1 : skG x.tape x.length (x.length + 1 - q) q = skG x.tape x.length (x.length + 1 - x.too) x.too) (i2 : q ≤ x.length) (hk9 : x.length + 1 - q = k9), ∀ (H : Heap) (locs : List Loc) (ls : Array Slot) (hP : va_P D vwCl (MW dA h ad (MS.s_too x q)) H) (hD : va_D A (MW dA h ad (MS.s_too x q))) (hS : va_S A s.heap H locs) (hl : lv_has ls 2 [(0, .ref h)]), W p l e ({ frames := 3, cells := 0, slots := 0, locals := 46 } : Room) s m ([.ref h] : List Value).toArray below meth c H locs 0 0 (MQ below (va_Qi (fun (r9 : Int32) (u9 : MS) => r9 = bI false ∧ u9 = (((((x.s_frm d).s_kind 1).s_too b).s_amount k).s_faultCode 1).s_faultPlace (nI d)) (fun (u9 : MS) t9 => bW D A (MW dA h ad u9) t9) A) ([.ref h] : List Value).toArray s 0 0 A) (F0 m 0 ls []) := by
    intro k9
    induction k9 using Nat.strongRecOn with
    | ind k9 ih0 =>
      intro q i1 i2 hk9 H locs ls hP hD hS hl
      refine lv_aload_n hx hb d_M_next_0 rfl (lv_at hl 0 rfl) ?_
      refine gF (v := .int (nI q)) hx hb hown hE hK hP 0 rfl rfl layM 46 (by decide) w463 rfl d_M_next_1 ?_
      refine lv_aload_n hx hb d_M_next_4 rfl (lv_at hl 0 rfl) ?_
      refine gF (v := .int (nI x.length)) hx hb hown hE hK hP 0 rfl rfl layM 2 (by decide) w320 rfl d_M_next_5 ?_
      refine lv_icmp_ge hx hb d_M_next_8 (tgt := 38) rfl (fun g9 => ?_) (fun g9 => ?_)
      · have g9 := (nI_leI (a := x.length) (b := q) (by omega) (by omega)).mp g9
        have e9 : (MS.s_too x q : MS) = MS.s_too x d := by rw [show d = q from (hp.symm.trans (i1.symm.trans (skG_n (Or.inl g9))))] <;> rfl
        exact J38  H _ ls (cvP e9 hP) (cvD e9 hD) hS (lv_sub hl [0] rfl)
      · have g9 := mt (nI_leI (a := x.length) (b := q) (by omega) (by omega)).mpr g9
        refine lv_aload_n hx hb d_M_next_11 rfl (lv_at hl 0 rfl) ?_
        refine gF (v := .ref (ad 1)) hx hb hown hE hK hP 0 rfl rfl layM 1 (by decide) w497 rfl d_M_next_12 ?_
        refine lv_aload_n hx hb d_M_next_15 rfl (lv_at hl 0 rfl) ?_
        refine gF (v := .int (nI q)) hx hb hown hE hK hP 0 rfl rfl layM 46 (by decide) w463 rfl d_M_next_16 ?_
        refine nbld (f := x.tape) hx hb hK hP 1 0 rfl rfl (q) (by omega) (by decide) d_M_next_19 ?_
        refine lv_bipush (v := 32) hx hb d_M_next_20 (by decide) ?_
        refine lv_icmp_ne hx hb d_M_next_22 (tgt := 38) rfl (fun g10 => ?_) (fun g10 => ?_)
        · have g10 := g10
          have e9 : (MS.s_too x q : MS) = MS.s_too x d := by rw [show d = q from (hp.symm.trans (i1.symm.trans (skG_n (Or.inr g10))))] <;> rfl
          exact J38  H _ ls (cvP e9 hP) (cvD e9 hD) hS (lv_sub hl [0] rfl)
        · have g10 := g10
          refine lv_aload_n hx hb d_M_next_25 rfl (lv_at hl 0 rfl) ?_
          refine lv_dup hx hb d_M_next_26 rfl ?_
          refine gF (v := .int (nI q)) hx hb hown hE hK hP 0 rfl rfl layM 46 (by decide) w463 rfl d_M_next_27 ?_
          refine lv_iconst (v := 1) hx hb d_M_next_30 (by decide) ?_
          refine lv_iadd hx hb d_M_next_31 (tpi (y := nI (q + 1)) (nI_add (q) (1)) ?_)
          refine pF (v := .int (nI (q + 1))) hx hb hown hE hK hP hD hS 0 rfl rfl layM tyM tokM nmM 46 (by decide) w463 rfl rfl rfl (Nat.le_of_ble_eq_true rfl) d_M_next_32 (fun H locs hP hD hS => ?_)
          have hP : va_P D vwCl (MW dA h ad (MS.s_too x (q + 1))) H := hP
          have hD : va_D A (MW dA h ad (MS.s_too x (q + 1))) := hD
          refine lv_goto hx hb d_M_next_35 (tgt := 0) rfl ?_
          exact ih0 _ (by omega) (q + 1) (by rw [← i1, skG_t (w := x.length + 1 - q) (by omega) g9 g10, show x.length + 1 - q - 1 = x.length + 1 - (q + 1) by omega]) (by omega) rfl H _ ls hP hD hS (lv_sub hl [0] rfl)
  exact L0 _ x.too rfl ht rfl H _ ls hP hD hS (lv_sub hl [0] rfl)
theorem d_M_next_86 : decode prog_14_method_57_code 86 = .ok (.iload_n 1, 1) := by decide +kernel
theorem d_M_next_87 : decode prog_14_method_57_code 87 = .ok (.invokestatic 360, 3) := by decide +kernel
theorem d_M_next_90 : decode prog_14_method_57_code 90 = .ok (.ifCond .eq 49, 3) := by decide +kernel
theorem d_M_next_93 : decode prog_14_method_57_code 93 = .ok (.aload_n 0, 1) := by decide +kernel
theorem d_M_next_94 : decode prog_14_method_57_code 94 = .ok (.iconst 2, 1) := by decide +kernel
theorem d_M_next_95 : decode prog_14_method_57_code 95 = .ok (.putfield 351, 3) := by decide +kernel
theorem d_M_next_98 : decode prog_14_method_57_code 98 = .ok (.aload_n 0, 1) := by decide +kernel
theorem d_M_next_126 : decode prog_14_method_57_code 126 = .ok (.aload_n 0, 1) := by decide +kernel
theorem d_M_next_127 : decode prog_14_method_57_code 127 = .ok (.dup, 1) := by decide +kernel
theorem d_M_next_128 : decode prog_14_method_57_code 128 = .ok (.getfield 342, 3) := by decide +kernel
theorem d_M_next_131 : decode prog_14_method_57_code 131 = .ok (.iconst 1, 1) := by decide +kernel
theorem d_M_next_132 : decode prog_14_method_57_code 132 = .ok (.iadd, 1) := by decide +kernel
theorem d_M_next_133 : decode prog_14_method_57_code 133 = .ok (.putfield 342, 3) := by decide +kernel
theorem d_M_next_136 : decode prog_14_method_57_code 136 = .ok (.goto (-38), 3) := by decide +kernel
theorem d_M_next_99 : decode prog_14_method_57_code 99 = .ok (.aload_n 0, 1) := by decide +kernel
theorem d_M_next_100 : decode prog_14_method_57_code 100 = .ok (.getfield 342, 3) := by decide +kernel
theorem d_M_next_103 : decode prog_14_method_57_code 103 = .ok (.invokevirtual 348, 3) := by decide +kernel
theorem d_M_next_106 : decode prog_14_method_57_code 106 = .ok (.invokestatic 360, 3) := by decide +kernel
theorem d_M_next_109 : decode prog_14_method_57_code 109 = .ok (.ifCond .ne 17, 3) := by decide +kernel
theorem d_M_next_112 : decode prog_14_method_57_code 112 = .ok (.aload_n 0, 1) := by decide +kernel
theorem d_M_next_113 : decode prog_14_method_57_code 113 = .ok (.aload_n 0, 1) := by decide +kernel
theorem d_M_next_114 : decode prog_14_method_57_code 114 = .ok (.getfield 342, 3) := by decide +kernel
theorem d_M_next_117 : decode prog_14_method_57_code 117 = .ok (.invokevirtual 348, 3) := by decide +kernel
theorem d_M_next_120 : decode prog_14_method_57_code 120 = .ok (.invokestatic 354, 3) := by decide +kernel
theorem d_M_next_123 : decode prog_14_method_57_code 123 = .ok (.ifCond .eq 152, 3) := by decide +kernel
theorem w963 : Cond.methodLink "SeriesVaultModel" 360 ⟨"SeriesVaultModel", "isLetter", "(I)Z"⟩ ∈ aW := aw_of (tb_10 (List.mem_of_getElem? (i := 174) rfl)) rfl
theorem w964 : Cond.code ⟨"SeriesVaultModel", "isLetter", "(I)Z"⟩ prog_14_method_55_code 1 (some FieldType.boolean) ∈ aW := aw_of (tb_10 (List.mem_of_getElem? (i := 176) rfl)) rfl
theorem w965 : Cond.static ⟨"SeriesVaultModel", "isLetter", "(I)Z"⟩ ∈ aW := aw_of (tb_10 (List.mem_of_getElem? (i := 175) rfl)) rfl
set_option maxHeartbeats 4000000 in
set_option maxRecDepth 100000 in
theorem k_next_i (l : Launch) (D : va_G) (dA : Nat → ClassId) (sz : Nat) (h : Nat) (ad : Nat → Nat) (x : MS) (d : Nat) (b : Nat) (hl1 : x.length ≤ 65536) (ht : x.too ≤ x.length) (hp : skG x.tape x.length (x.length + 1 - x.too) x.too = d) (hk : d < x.length) (hdg : isDg (x.atN d) = false) (hlt : isLt (x.atN d) = true) (hg : idG x.tape x.length (x.length + 1 - d) d = b) : Met l ⟨"SeriesVaultModel", "next", "()Z"⟩ [Cond.code ⟨"SeriesVaultModel", "next", "()Z"⟩ prog_14_method_57_code 2 (some FieldType.boolean)] { frames := 3, cells := 0, slots := 0, locals := 46 } (pC D dA [.ref h] (MW dA h ad x) sz) (va_Qi (fun (r9 : Int32) (u9 : Unit) => r9 = bI true) (fun (u9 : Unit) t9 => bW D (va_A (MW dA h ad x) sz) (MW dA h ad (MS.s_too (MS.s_frm (MS.s_kind x 2) d) b)) t9) (va_A (MW dA h ad x) sz)) 0 0 (va_A (MW dA h ad x) sz) := by
  refine mkC (y := ⟨"SeriesVaultModel", "next", "()Z"⟩) (cc := prog_14_method_57_code) (maxL := 2) (av := [.ref h]) (ws := MW dA h ad x) (sz := sz) (Qc := fun A => va_Qi (fun (r9 : Int32) (u9 : Unit) => r9 = bI true) (fun (u9 : Unit) t9 => bW D A (MW dA h ad (MS.s_too (MS.s_frm (MS.s_kind x 2) d) b)) t9) A) (by decide) (Nat.le_of_ble_eq_true rfl) ?_
  intro A p e s m below meth c ls hsz hB
  obtain ⟨hx, hb, hr, hml, hown, hin, hlk, hE, hK, hP, hD, hS, hA, hN, hl⟩ := hB
  have hown : s.vm.findClass "SeriesVaultModel" = some m.cls := hown
  have hl : lv_has ls 2 [(0, .ref h)] := hl
  obtain ⟨H, hH⟩ : ∃ z, z = s.heap := ⟨_, rfl⟩
  have hP : va_P D vwCl (MW dA h ad x) H := by rw [hH]; exact hP
  have hS : va_S A s.heap H [] := by rw [hH]; exact hS
  rw [← hH]
  have J38 : ∀ (H : Heap) (locs : List Loc) (ls : Array Slot) (hP : va_P D vwCl (MW dA h ad (MS.s_too x d)) H) (hD : va_D A (MW dA h ad (MS.s_too x d))) (hS : va_S A s.heap H locs) (hl : lv_has ls 2 [(0, .ref h)]), W p l e ({ frames := 3, cells := 0, slots := 0, locals := 46 } : Room) s m ([.ref h] : List Value).toArray below meth c H locs 0 0 (MQ below (va_Qi (fun (r9 : Int32) (u9 : Unit) => r9 = bI true) (fun (u9 : Unit) t9 => bW D A (MW dA h ad (MS.s_too (MS.s_frm (MS.s_kind x 2) d) b)) t9) A) ([.ref h] : List Value).toArray s 0 0 A) (F0 m 38 ls []) := by
    intro  H locs ls hP hD hS hl
    have d1 : d ≤ x.length := by rw [← hp]; exact skG_le ht
    refine lv_aload_n hx hb d_M_next_38 rfl (lv_at hl 0 rfl) ?_
    refine lv_aload_n hx hb d_M_next_39 rfl (lv_at hl 0 rfl) ?_
    refine gF (v := .int (nI d)) hx hb hown hE hK hP 0 rfl rfl layM 46 (by decide) w463 rfl d_M_next_40 ?_
    refine pF (v := .int (nI d)) hx hb hown hE hK hP hD hS 0 rfl rfl layM tyM tokM nmM 45 (by decide) w464 rfl rfl rfl (Nat.le_of_ble_eq_true rfl) d_M_next_43 (fun H locs hP hD hS => ?_)
    have hP : va_P D vwCl (MW dA h ad (MS.s_too (MS.s_frm x d) d)) H := hP
    have hD : va_D A (MW dA h ad (MS.s_too (MS.s_frm x d) d)) := hD
    refine lv_aload_n hx hb d_M_next_46 rfl (lv_at hl 0 rfl) ?_
    refine lv_aload_n hx hb d_M_next_47 rfl (lv_at hl 0 rfl) ?_
    refine gF (v := .int (nI d)) hx hb hown hE hK hP 0 rfl rfl layM 45 (by decide) w464 rfl d_M_next_48 ?_
    refine jfI (rnV (As := [.int (nI d)]) (rest := []) hx hb hml hown hE hK (hN _ _ hS) hP hD (k_at l D dA H.size h ad (MS.s_too (MS.s_frm x d) d) d (show d < 2 ^ 31 from by omega) (show x.length ≤ 65536 from by omega)) (q0 := 0) rfl rfl w466 w465 w467 w468 w328 rfl rfl ⟨⟨by decide, by decide⟩, rfl⟩ ⟨(Nat.le_of_ble_eq_true rfl), (Nat.le_of_ble_eq_true rfl)⟩ rfl hl.1 rfl (Nat.le_of_ble_eq_true rfl) d_M_next_51 ⟨(Nat.le_of_ble_eq_true rfl), (Nat.le_of_ble_eq_true rfl)⟩) hP hD hS hA (fun r1 u2 H locs hp9 hP hD hS => ?_)
    have hP : va_P D vwCl (MW dA h ad (MS.s_too (MS.s_frm x d) d)) H := hP
    have hD : va_D A (MW dA h ad (MS.s_too (MS.s_frm x d) d)) := hD
    replace hp9 : x.atN d = r1 := Eq.symm hp9
    subst hp9
    refine lv_istore_n hx hb d_M_next_54 rfl hl (by decide) rfl (fun ls hl => ?_)
    have hl : lv_has ls 2 [(1, .int (x.atN d)), (0, .ref h)] := hl
    refine lv_aload_n hx hb d_M_next_55 rfl (lv_at hl 1 rfl) ?_
    refine gF (v := .int (nI d)) hx hb hown hE hK hP 0 rfl rfl layM 45 (by decide) w464 rfl d_M_next_56 ?_
    refine lv_aload_n hx hb d_M_next_59 rfl (lv_at hl 1 rfl) ?_
    refine gF (v := .int (nI x.length)) hx hb hown hE hK hP 0 rfl rfl layM 2 (by decide) w320 rfl d_M_next_60 ?_
    refine lv_icmp_lt hx hb d_M_next_63 (tgt := 74) rfl (fun _ => ?_) (fun h9 => absurd ((nI_ltI (a := d) (b := x.length) (by omega) (by omega)).mpr hk) h9)
    refine lv_iload_n hx hb d_M_next_74 rfl (lv_at hl 0 rfl) ?_
    have hPc := hP.sub (ws' := []) [] rfl
    have hDc := hD.sub (ws' := []) [] (by decide) rfl
    refine jnI (rnS (As := [.int (x.atN d)]) (rest := []) hx hb hml hown hE hK (hN _ _ hS) hPc hDc (k_isDigit l D dA H.size (x.atN d)) w955 w954 w956 w328 rfl rfl ⟨⟨by decide, by decide⟩, rfl⟩ ⟨(Nat.le_of_ble_eq_true rfl), (Nat.le_of_ble_eq_true rfl)⟩ rfl hl.1 rfl (Nat.le_of_ble_eq_true rfl) d_M_next_75 ⟨(Nat.le_of_ble_eq_true rfl), (Nat.le_of_ble_eq_true rfl)⟩) hP hD hS hA [] [0, 1, 2, 3, 4, 5, 6, 7, 8, 9, 10, 11, 12, 13, 14, 15, 16, 17, 18, 19, 20, 21, 22, 23, 24, 25, 26, 27, 28, 29, 30, 31, 32, 33, 34, 35, 36, 37, 38] (wr := MW dA h ad (MS.s_too (MS.s_frm x d) d)) rfl rfl (by decide) (by decide) (fun r3 u9 H locs hp9 hP hD hS => ?_)
    have hP : va_P D vwCl (MW dA h ad (MS.s_too (MS.s_frm x d) d)) H := hP
    have hD : va_D A (MW dA h ad (MS.s_too (MS.s_frm x d) d)) := hD
    replace hp9 : bI (isDg (x.atN d)) = r3 := Eq.symm hp9
    subst hp9
    refine lv_if_eq hx hb d_M_next_78 (tgt := 86) rfl (fun _ => ?_) (fun h9 => absurd (by rw [hdg]; decide) h9)
    refine lv_iload_n hx hb d_M_next_86 rfl (lv_at hl 0 rfl) ?_
    have hPc := hP.sub (ws' := []) [] rfl
    have hDc := hD.sub (ws' := []) [] (by decide) rfl
    refine jnI (rnS (As := [.int (x.atN d)]) (rest := []) hx hb hml hown hE hK (hN _ _ hS) hPc hDc (k_isLetter l D dA H.size (x.atN d)) w964 w963 w965 w328 rfl rfl ⟨⟨by decide, by decide⟩, rfl⟩ ⟨(Nat.le_of_ble_eq_true rfl), (Nat.le_of_ble_eq_true rfl)⟩ rfl hl.1 rfl (Nat.le_of_ble_eq_true rfl) d_M_next_87 ⟨(Nat.le_of_ble_eq_true rfl), (Nat.le_of_ble_eq_true rfl)⟩) hP hD hS hA [] [0, 1, 2, 3, 4, 5, 6, 7, 8, 9, 10, 11, 12, 13, 14, 15, 16, 17, 18, 19, 20, 21, 22, 23, 24, 25, 26, 27, 28, 29, 30, 31, 32, 33, 34, 35, 36, 37, 38] (wr := MW dA h ad (MS.s_too (MS.s_frm x d) d)) rfl rfl (by decide) (by decide) (fun r5 u9 H locs hp9 hP hD hS => ?_)
    have hP : va_P D vwCl (MW dA h ad (MS.s_too (MS.s_frm x d) d)) H := hP
    have hD : va_D A (MW dA h ad (MS.s_too (MS.s_frm x d) d)) := hD
    replace hp9 : bI (isLt (x.atN d)) = r5 := Eq.symm hp9
    subst hp9
    refine lv_if_eq hx hb d_M_next_90 (tgt := 139) rfl (fun h9 => absurd h9 (by rw [hlt]; decide)) (fun _ => ?_)
    refine lv_aload_n hx hb d_M_next_93 rfl (lv_at hl 1 rfl) ?_
    refine lv_iconst (v := 2) hx hb d_M_next_94 (by decide) ?_
    refine pF (v := .int 2) hx hb hown hE hK hP hD hS 0 rfl rfl layM tyM tokM nmM 44 (by decide) w469 rfl rfl rfl (Nat.le_of_ble_eq_true rfl) d_M_next_95 (fun H locs hP hD hS => ?_)
    have hP : va_P D vwCl (MW dA h ad (MS.s_too (MS.s_frm (MS.s_kind x 2) d) d)) H := hP
    have hD : va_D A (MW dA h ad (MS.s_too (MS.s_frm (MS.s_kind x 2) d) d)) := hD
    have L98 : ∀ (k9 : Nat) (q : Nat) (i1 : idG x.tape x.length (x.length + 1 - q) q = b) (i2 : q ≤ x.length) (hk9 : x.length + 1 - q = k9), ∀ (H : Heap) (locs : List Loc) (ls : Array Slot) (hP : va_P D vwCl (MW dA h ad (MS.s_too (MS.s_frm (MS.s_kind x 2) d) q)) H) (hD : va_D A (MW dA h ad (MS.s_too (MS.s_frm (MS.s_kind x 2) d) q))) (hS : va_S A s.heap H locs) (hl : lv_has ls 2 [(0, .ref h)]), W p l e ({ frames := 3, cells := 0, slots := 0, locals := 46 } : Room) s m ([.ref h] : List Value).toArray below meth c H locs 0 0 (MQ below (va_Qi (fun (r9 : Int32) (u9 : Unit) => r9 = bI true) (fun (u9 : Unit) t9 => bW D A (MW dA h ad (MS.s_too (MS.s_frm (MS.s_kind x 2) d) b)) t9) A) ([.ref h] : List Value).toArray s 0 0 A) (F0 m 98 ls []) := by
      intro k9
      induction k9 using Nat.strongRecOn with
      | ind k9 ih98 =>
        intro q i1 i2 hk9 H locs ls hP hD hS hl
        refine lv_aload_n hx hb d_M_next_98 rfl (lv_at hl 0 rfl) ?_
        have J126 : ∀ (i3 : isNm (x.atN q) = true), ∀ (H : Heap) (locs : List Loc) (ls : Array Slot) (hP : va_P D vwCl (MW dA h ad (MS.s_too (MS.s_frm (MS.s_kind x 2) d) q)) H) (hD : va_D A (MW dA h ad (MS.s_too (MS.s_frm (MS.s_kind x 2) d) q))) (hS : va_S A s.heap H locs) (hl : lv_has ls 2 [(0, .ref h)]), W p l e ({ frames := 3, cells := 0, slots := 0, locals := 46 } : Room) s m ([.ref h] : List Value).toArray below meth c H locs 0 0 (MQ below (va_Qi (fun (r9 : Int32) (u9 : Unit) => r9 = bI true) (fun (u9 : Unit) t9 => bW D A (MW dA h ad (MS.s_too (MS.s_frm (MS.s_kind x 2) d) b)) t9) A) ([.ref h] : List Value).toArray s 0 0 A) (F0 m 126 ls []) := by
          intro i3 H locs ls hP hD hS hl
          have i4 := nm_at i3
          refine lv_aload_n hx hb d_M_next_126 rfl (lv_at hl 0 rfl) ?_
          refine lv_dup hx hb d_M_next_127 rfl ?_
          refine gF (v := .int (nI q)) hx hb hown hE hK hP 0 rfl rfl layM 46 (by decide) w463 rfl d_M_next_128 ?_
          refine lv_iconst (v := 1) hx hb d_M_next_131 (by decide) ?_
          refine lv_iadd hx hb d_M_next_132 (tpi (y := nI (q + 1)) (nI_add (q) (1)) ?_)
          refine pF (v := .int (nI (q + 1))) hx hb hown hE hK hP hD hS 0 rfl rfl layM tyM tokM nmM 46 (by decide) w463 rfl rfl rfl (Nat.le_of_ble_eq_true rfl) d_M_next_133 (fun H locs hP hD hS => ?_)
          have hP : va_P D vwCl (MW dA h ad (MS.s_too (MS.s_frm (MS.s_kind x 2) d) (q + 1))) H := hP
          have hD : va_D A (MW dA h ad (MS.s_too (MS.s_frm (MS.s_kind x 2) d) (q + 1))) := hD
          refine lv_goto hx hb d_M_next_136 (tgt := 98) rfl ?_
          exact ih98 _ (by omega) (q + 1) (by rw [← i1, idG_t (w := x.length + 1 - q) (by omega) i3, show x.length + 1 - q - 1 = x.length + 1 - (q + 1) by omega]) (by omega) rfl H _ ls hP hD hS (lv_sub hl [0] rfl)
        refine lv_aload_n hx hb d_M_next_99 rfl (lv_at hl 0 rfl) ?_
        refine gF (v := .int (nI q)) hx hb hown hE hK hP 0 rfl rfl layM 46 (by decide) w463 rfl d_M_next_100 ?_
        refine jfI (rnV (As := [.int (nI q)]) (rest := []) hx hb hml hown hE hK (hN _ _ hS) hP hD (k_at l D dA H.size h ad (MS.s_too (MS.s_frm (MS.s_kind x 2) d) q) q (show q < 2 ^ 31 from by omega) (show x.length ≤ 65536 from by omega)) (q0 := 0) rfl rfl w466 w465 w467 w468 w328 rfl rfl ⟨⟨by decide, by decide⟩, rfl⟩ ⟨(Nat.le_of_ble_eq_true rfl), (Nat.le_of_ble_eq_true rfl)⟩ rfl hl.1 rfl (Nat.le_of_ble_eq_true rfl) d_M_next_103 ⟨(Nat.le_of_ble_eq_true rfl), (Nat.le_of_ble_eq_true rfl)⟩) hP hD hS hA (fun r7 u8 H locs hp9 hP hD hS => ?_)
        have hP : va_P D vwCl (MW dA h ad (MS.s_too (MS.s_frm (MS.s_kind x 2) d) q)) H := hP
        have hD : va_D A (MW dA h ad (MS.s_too (MS.s_frm (MS.s_kind x 2) d) q)) := hD
        replace hp9 : x.atN q = r7 := Eq.symm hp9
        subst hp9
        have hPc := hP.sub (ws' := []) [] rfl
        have hDc := hD.sub (ws' := []) [] (by decide) rfl
        refine jnI (rnS (As := [.int (x.atN q)]) (rest := []) hx hb hml hown hE hK (hN _ _ hS) hPc hDc (k_isLetter l D dA H.size (x.atN q)) w964 w963 w965 w328 rfl rfl ⟨⟨by decide, by decide⟩, rfl⟩ ⟨(Nat.le_of_ble_eq_true rfl), (Nat.le_of_ble_eq_true rfl)⟩ rfl hl.1 rfl (Nat.le_of_ble_eq_true rfl) d_M_next_106 ⟨(Nat.le_of_ble_eq_true rfl), (Nat.le_of_ble_eq_true rfl)⟩) hP hD hS hA [] [0, 1, 2, 3, 4, 5, 6, 7, 8, 9, 10, 11, 12, 13, 14, 15, 16, 17, 18, 19, 20, 21, 22, 23, 24, 25, 26, 27, 28, 29, 30, 31, 32, 33, 34, 35, 36, 37, 38] (wr := MW dA h ad (MS.s_too (MS.s_frm (MS.s_kind x 2) d) q)) rfl rfl (by decide) (by decide) (fun r9 u9 H locs hp9 hP hD hS => ?_)
        have hP : va_P D vwCl (MW dA h ad (MS.s_too (MS.s_frm (MS.s_kind x 2) d) q)) H := hP
        have hD : va_D A (MW dA h ad (MS.s_too (MS.s_frm (MS.s_kind x 2) d) q)) := hD
        replace hp9 : bI (isLt (x.atN q)) = r9 := Eq.symm hp9
        subst hp9
        refine lv_if_ne hx hb d_M_next_109 (tgt := 126) rfl (fun g11 => ?_) (fun g11 => ?_)
        · have g11 := bI_n0 g11
          exact J126 (by show (isLt (x.atN q) || isDg (x.atN q)) = true; rw [g11]; rfl) H _ ls hP hD hS (lv_sub hl [0] rfl)
        · have g11 := bI_0 g11
          refine lv_aload_n hx hb d_M_next_112 rfl (lv_at hl 0 rfl) ?_
          refine lv_aload_n hx hb d_M_next_113 rfl (lv_at hl 0 rfl) ?_
          refine gF (v := .int (nI q)) hx hb hown hE hK hP 0 rfl rfl layM 46 (by decide) w463 rfl d_M_next_114 ?_
          refine jfI (rnV (As := [.int (nI q)]) (rest := []) hx hb hml hown hE hK (hN _ _ hS) hP hD (k_at l D dA H.size h ad (MS.s_too (MS.s_frm (MS.s_kind x 2) d) q) q (show q < 2 ^ 31 from by omega) (show x.length ≤ 65536 from by omega)) (q0 := 0) rfl rfl w466 w465 w467 w468 w328 rfl rfl ⟨⟨by decide, by decide⟩, rfl⟩ ⟨(Nat.le_of_ble_eq_true rfl), (Nat.le_of_ble_eq_true rfl)⟩ rfl hl.1 rfl (Nat.le_of_ble_eq_true rfl) d_M_next_117 ⟨(Nat.le_of_ble_eq_true rfl), (Nat.le_of_ble_eq_true rfl)⟩) hP hD hS hA (fun r12 u13 H locs hp9 hP hD hS => ?_)
          have hP : va_P D vwCl (MW dA h ad (MS.s_too (MS.s_frm (MS.s_kind x 2) d) q)) H := hP
          have hD : va_D A (MW dA h ad (MS.s_too (MS.s_frm (MS.s_kind x 2) d) q)) := hD
          replace hp9 : x.atN q = r12 := Eq.symm hp9
          subst hp9
          have hPc := hP.sub (ws' := []) [] rfl
          have hDc := hD.sub (ws' := []) [] (by decide) rfl
          refine jnI (rnS (As := [.int (x.atN q)]) (rest := []) hx hb hml hown hE hK (hN _ _ hS) hPc hDc (k_isDigit l D dA H.size (x.atN q)) w955 w954 w956 w328 rfl rfl ⟨⟨by decide, by decide⟩, rfl⟩ ⟨(Nat.le_of_ble_eq_true rfl), (Nat.le_of_ble_eq_true rfl)⟩ rfl hl.1 rfl (Nat.le_of_ble_eq_true rfl) d_M_next_120 ⟨(Nat.le_of_ble_eq_true rfl), (Nat.le_of_ble_eq_true rfl)⟩) hP hD hS hA [] [0, 1, 2, 3, 4, 5, 6, 7, 8, 9, 10, 11, 12, 13, 14, 15, 16, 17, 18, 19, 20, 21, 22, 23, 24, 25, 26, 27, 28, 29, 30, 31, 32, 33, 34, 35, 36, 37, 38] (wr := MW dA h ad (MS.s_too (MS.s_frm (MS.s_kind x 2) d) q)) rfl rfl (by decide) (by decide) (fun r14 u9 H locs hp9 hP hD hS => ?_)
          have hP : va_P D vwCl (MW dA h ad (MS.s_too (MS.s_frm (MS.s_kind x 2) d) q)) H := hP
          have hD : va_D A (MW dA h ad (MS.s_too (MS.s_frm (MS.s_kind x 2) d) q)) := hD
          replace hp9 : bI (isDg (x.atN q)) = r14 := Eq.symm hp9
          subst hp9
          refine lv_if_eq hx hb d_M_next_123 (tgt := 275) rfl (fun g16 => ?_) (fun g16 => ?_)
          · have g16 := bI_0 g16
            refine lv_iconst (v := 1) hx hb d_M_next_275 (by decide) ?_
            have e9 : (MS.s_too (MS.s_frm (MS.s_kind x 2) d) q : MS) = MS.s_too (MS.s_frm (MS.s_kind x 2) d) b := by rw [show b = q from by (exact (i1.symm.trans (idG_f (show (isLt (x.atN q) || isDg (x.atN q)) = false from by simp [*]))))] <;> rfl
            exact rfZ hx hb hr (bI_nar true) hlk hS () rfl (cvP e9 hP) (cvD e9 hD) (Nat.le_of_ble_eq_true rfl) (Nat.le_of_ble_eq_true rfl) d_M_next_276
          · have g16 := bI_n0 g16
            exact J126 (by show (isLt (x.atN q) || isDg (x.atN q)) = true; rw [g16]; exact Bool.or_true _) H _ ls hP hD hS (lv_sub hl [0] rfl)
    exact L98 _ d hg (by omega) rfl H _ ls hP hD hS (lv_sub hl [1] rfl)
  have L0 : ∀ (k9 : Nat) (q : Nat) (i1 : skG x.tape x.length (x.length + 1 - q) q = skG x.tape x.length (x.length + 1 - x.too) x.too) (i2 : q ≤ x.length) (hk9 : x.length + 1 - q = k9), ∀ (H : Heap) (locs : List Loc) (ls : Array Slot) (hP : va_P D vwCl (MW dA h ad (MS.s_too x q)) H) (hD : va_D A (MW dA h ad (MS.s_too x q))) (hS : va_S A s.heap H locs) (hl : lv_has ls 2 [(0, .ref h)]), W p l e ({ frames := 3, cells := 0, slots := 0, locals := 46 } : Room) s m ([.ref h] : List Value).toArray below meth c H locs 0 0 (MQ below (va_Qi (fun (r9 : Int32) (u9 : Unit) => r9 = bI true) (fun (u9 : Unit) t9 => bW D A (MW dA h ad (MS.s_too (MS.s_frm (MS.s_kind x 2) d) b)) t9) A) ([.ref h] : List Value).toArray s 0 0 A) (F0 m 0 ls []) := by
    intro k9
    induction k9 using Nat.strongRecOn with
    | ind k9 ih0 =>
      intro q i1 i2 hk9 H locs ls hP hD hS hl
      refine lv_aload_n hx hb d_M_next_0 rfl (lv_at hl 0 rfl) ?_
      refine gF (v := .int (nI q)) hx hb hown hE hK hP 0 rfl rfl layM 46 (by decide) w463 rfl d_M_next_1 ?_
      refine lv_aload_n hx hb d_M_next_4 rfl (lv_at hl 0 rfl) ?_
      refine gF (v := .int (nI x.length)) hx hb hown hE hK hP 0 rfl rfl layM 2 (by decide) w320 rfl d_M_next_5 ?_
      refine lv_icmp_ge hx hb d_M_next_8 (tgt := 38) rfl (fun g17 => ?_) (fun g17 => ?_)
      · have g17 := (nI_leI (a := x.length) (b := q) (by omega) (by omega)).mp g17
        have e9 : (MS.s_too x q : MS) = MS.s_too x d := by rw [show d = q from (hp.symm.trans (i1.symm.trans (skG_n (Or.inl g17))))] <;> rfl
        exact J38  H _ ls (cvP e9 hP) (cvD e9 hD) hS (lv_sub hl [0] rfl)
      · have g17 := mt (nI_leI (a := x.length) (b := q) (by omega) (by omega)).mpr g17
        refine lv_aload_n hx hb d_M_next_11 rfl (lv_at hl 0 rfl) ?_
        refine gF (v := .ref (ad 1)) hx hb hown hE hK hP 0 rfl rfl layM 1 (by decide) w497 rfl d_M_next_12 ?_
        refine lv_aload_n hx hb d_M_next_15 rfl (lv_at hl 0 rfl) ?_
        refine gF (v := .int (nI q)) hx hb hown hE hK hP 0 rfl rfl layM 46 (by decide) w463 rfl d_M_next_16 ?_
        refine nbld (f := x.tape) hx hb hK hP 1 0 rfl rfl (q) (by omega) (by decide) d_M_next_19 ?_
        refine lv_bipush (v := 32) hx hb d_M_next_20 (by decide) ?_
        refine lv_icmp_ne hx hb d_M_next_22 (tgt := 38) rfl (fun g18 => ?_) (fun g18 => ?_)
        · have g18 := g18
          have e9 : (MS.s_too x q : MS) = MS.s_too x d := by rw [show d = q from (hp.symm.trans (i1.symm.trans (skG_n (Or.inr g18))))] <;> rfl
          exact J38  H _ ls (cvP e9 hP) (cvD e9 hD) hS (lv_sub hl [0] rfl)
        · have g18 := g18
          refine lv_aload_n hx hb d_M_next_25 rfl (lv_at hl 0 rfl) ?_
          refine lv_dup hx hb d_M_next_26 rfl ?_
          refine gF (v := .int (nI q)) hx hb hown hE hK hP 0 rfl rfl layM 46 (by decide) w463 rfl d_M_next_27 ?_
          refine lv_iconst (v := 1) hx hb d_M_next_30 (by decide) ?_
          refine lv_iadd hx hb d_M_next_31 (tpi (y := nI (q + 1)) (nI_add (q) (1)) ?_)
          refine pF (v := .int (nI (q + 1))) hx hb hown hE hK hP hD hS 0 rfl rfl layM tyM tokM nmM 46 (by decide) w463 rfl rfl rfl (Nat.le_of_ble_eq_true rfl) d_M_next_32 (fun H locs hP hD hS => ?_)
          have hP : va_P D vwCl (MW dA h ad (MS.s_too x (q + 1))) H := hP
          have hD : va_D A (MW dA h ad (MS.s_too x (q + 1))) := hD
          refine lv_goto hx hb d_M_next_35 (tgt := 0) rfl ?_
          exact ih0 _ (by omega) (q + 1) (by rw [← i1, skG_t (w := x.length + 1 - q) (by omega) g17 g18, show x.length + 1 - q - 1 = x.length + 1 - (q + 1) by omega]) (by omega) rfl H _ ls hP hD hS (lv_sub hl [0] rfl)
  exact L0 _ x.too rfl ht rfl H _ ls hP hD hS (lv_sub hl [0] rfl)
theorem d_M_next_139 : decode prog_14_method_57_code 139 = .ok (.iload_n 1, 1) := by decide +kernel
theorem d_M_next_140 : decode prog_14_method_57_code 140 = .ok (.bipush 34, 2) := by decide +kernel
theorem d_M_next_142 : decode prog_14_method_57_code 142 = .ok (.if_icmp .ne 117, 3) := by decide +kernel
theorem d_M_next_145 : decode prog_14_method_57_code 145 = .ok (.aload_n 0, 1) := by decide +kernel
theorem d_M_next_146 : decode prog_14_method_57_code 146 = .ok (.iconst 3, 1) := by decide +kernel
theorem d_M_next_147 : decode prog_14_method_57_code 147 = .ok (.putfield 351, 3) := by decide +kernel
theorem d_M_next_223 : decode prog_14_method_57_code 223 = .ok (.aload_n 0, 1) := by decide +kernel
theorem d_M_next_224 : decode prog_14_method_57_code 224 = .ok (.aload_n 0, 1) := by decide +kernel
theorem d_M_next_225 : decode prog_14_method_57_code 225 = .ok (.getfield 342, 3) := by decide +kernel
theorem d_M_next_228 : decode prog_14_method_57_code 228 = .ok (.invokevirtual 348, 3) := by decide +kernel
theorem d_M_next_231 : decode prog_14_method_57_code 231 = .ok (.bipush 34, 2) := by decide +kernel
theorem d_M_next_233 : decode prog_14_method_57_code 233 = .ok (.if_icmp .eq 13, 3) := by decide +kernel
theorem d_M_next_246 : decode prog_14_method_57_code 246 = .ok (.aload_n 0, 1) := by decide +kernel
theorem d_M_next_247 : decode prog_14_method_57_code 247 = .ok (.dup, 1) := by decide +kernel
theorem d_M_next_248 : decode prog_14_method_57_code 248 = .ok (.getfield 342, 3) := by decide +kernel
theorem d_M_next_251 : decode prog_14_method_57_code 251 = .ok (.iconst 1, 1) := by decide +kernel
theorem d_M_next_252 : decode prog_14_method_57_code 252 = .ok (.iadd, 1) := by decide +kernel
theorem d_M_next_253 : decode prog_14_method_57_code 253 = .ok (.putfield 342, 3) := by decide +kernel
theorem d_M_next_256 : decode prog_14_method_57_code 256 = .ok (.goto 19, 3) := by decide +kernel
theorem d_M_next_150 : decode prog_14_method_57_code 150 = .ok (.aload_n 0, 1) := by decide +kernel
theorem d_M_next_151 : decode prog_14_method_57_code 151 = .ok (.dup, 1) := by decide +kernel
theorem d_M_next_152 : decode prog_14_method_57_code 152 = .ok (.getfield 342, 3) := by decide +kernel
theorem d_M_next_155 : decode prog_14_method_57_code 155 = .ok (.iconst 1, 1) := by decide +kernel
theorem d_M_next_156 : decode prog_14_method_57_code 156 = .ok (.iadd, 1) := by decide +kernel
theorem d_M_next_157 : decode prog_14_method_57_code 157 = .ok (.putfield 342, 3) := by decide +kernel
theorem d_M_next_160 : decode prog_14_method_57_code 160 = .ok (.aload_n 0, 1) := by decide +kernel
theorem d_M_next_161 : decode prog_14_method_57_code 161 = .ok (.getfield 342, 3) := by decide +kernel
theorem d_M_next_164 : decode prog_14_method_57_code 164 = .ok (.aload_n 0, 1) := by decide +kernel
theorem d_M_next_165 : decode prog_14_method_57_code 165 = .ok (.getfield 148, 3) := by decide +kernel
theorem d_M_next_168 : decode prog_14_method_57_code 168 = .ok (.if_icmp .ge 55, 3) := by decide +kernel
theorem d_M_next_171 : decode prog_14_method_57_code 171 = .ok (.aload_n 0, 1) := by decide +kernel
theorem d_M_next_172 : decode prog_14_method_57_code 172 = .ok (.aload_n 0, 1) := by decide +kernel
theorem d_M_next_173 : decode prog_14_method_57_code 173 = .ok (.getfield 342, 3) := by decide +kernel
theorem d_M_next_176 : decode prog_14_method_57_code 176 = .ok (.invokevirtual 348, 3) := by decide +kernel
theorem d_M_next_179 : decode prog_14_method_57_code 179 = .ok (.bipush 31, 2) := by decide +kernel
theorem d_M_next_181 : decode prog_14_method_57_code 181 = .ok (.if_icmp .le 42, 3) := by decide +kernel
theorem d_M_next_184 : decode prog_14_method_57_code 184 = .ok (.aload_n 0, 1) := by decide +kernel
theorem d_M_next_185 : decode prog_14_method_57_code 185 = .ok (.aload_n 0, 1) := by decide +kernel
theorem d_M_next_186 : decode prog_14_method_57_code 186 = .ok (.getfield 342, 3) := by decide +kernel
theorem d_M_next_189 : decode prog_14_method_57_code 189 = .ok (.invokevirtual 348, 3) := by decide +kernel
theorem d_M_next_192 : decode prog_14_method_57_code 192 = .ok (.bipush 127, 2) := by decide +kernel
theorem d_M_next_194 : decode prog_14_method_57_code 194 = .ok (.if_icmp .ge 29, 3) := by decide +kernel
theorem d_M_next_197 : decode prog_14_method_57_code 197 = .ok (.aload_n 0, 1) := by decide +kernel
theorem d_M_next_198 : decode prog_14_method_57_code 198 = .ok (.aload_n 0, 1) := by decide +kernel
theorem d_M_next_199 : decode prog_14_method_57_code 199 = .ok (.getfield 342, 3) := by decide +kernel
theorem d_M_next_202 : decode prog_14_method_57_code 202 = .ok (.invokevirtual 348, 3) := by decide +kernel
theorem d_M_next_205 : decode prog_14_method_57_code 205 = .ok (.bipush 34, 2) := by decide +kernel
theorem d_M_next_207 : decode prog_14_method_57_code 207 = .ok (.if_icmp .eq 16, 3) := by decide +kernel
theorem d_M_next_210 : decode prog_14_method_57_code 210 = .ok (.aload_n 0, 1) := by decide +kernel
theorem d_M_next_211 : decode prog_14_method_57_code 211 = .ok (.dup, 1) := by decide +kernel
theorem d_M_next_212 : decode prog_14_method_57_code 212 = .ok (.getfield 342, 3) := by decide +kernel
theorem d_M_next_215 : decode prog_14_method_57_code 215 = .ok (.iconst 1, 1) := by decide +kernel
theorem d_M_next_216 : decode prog_14_method_57_code 216 = .ok (.iadd, 1) := by decide +kernel
theorem d_M_next_217 : decode prog_14_method_57_code 217 = .ok (.putfield 342, 3) := by decide +kernel
theorem d_M_next_220 : decode prog_14_method_57_code 220 = .ok (.goto (-60), 3) := by decide +kernel
set_option maxHeartbeats 4000000 in
set_option maxRecDepth 100000 in
theorem k_next_t (l : Launch) (D : va_G) (dA : Nat → ClassId) (sz : Nat) (h : Nat) (ad : Nat → Nat) (x : MS) (d : Nat) (b : Nat) (hl1 : x.length ≤ 65536) (ht : x.too ≤ x.length) (hp : skG x.tape x.length (x.length + 1 - x.too) x.too = d) (hk : d < x.length) (hdg : isDg (x.atN d) = false) (hlt : isLt (x.atN d) = false) (htq : x.atN d = 34) (hg : txG x.tape x.length (x.length + 1 - (d + 1)) (d + 1) = b) (hb4 : x.atN b = 34) : Met l ⟨"SeriesVaultModel", "next", "()Z"⟩ [Cond.code ⟨"SeriesVaultModel", "next", "()Z"⟩ prog_14_method_57_code 2 (some FieldType.boolean)] { frames := 3, cells := 0, slots := 0, locals := 46 } (pC D dA [.ref h] (MW dA h ad x) sz) (va_Qi (fun (r9 : Int32) (u9 : Unit) => r9 = bI true) (fun (u9 : Unit) t9 => bW D (va_A (MW dA h ad x) sz) (MW dA h ad (MS.s_too (MS.s_frm (MS.s_kind x 3) d) (b + 1))) t9) (va_A (MW dA h ad x) sz)) 0 0 (va_A (MW dA h ad x) sz) := by
  refine mkC (y := ⟨"SeriesVaultModel", "next", "()Z"⟩) (cc := prog_14_method_57_code) (maxL := 2) (av := [.ref h]) (ws := MW dA h ad x) (sz := sz) (Qc := fun A => va_Qi (fun (r9 : Int32) (u9 : Unit) => r9 = bI true) (fun (u9 : Unit) t9 => bW D A (MW dA h ad (MS.s_too (MS.s_frm (MS.s_kind x 3) d) (b + 1))) t9) A) (by decide) (Nat.le_of_ble_eq_true rfl) ?_
  intro A p e s m below meth c ls hsz hB
  obtain ⟨hx, hb, hr, hml, hown, hin, hlk, hE, hK, hP, hD, hS, hA, hN, hl⟩ := hB
  have hown : s.vm.findClass "SeriesVaultModel" = some m.cls := hown
  have hl : lv_has ls 2 [(0, .ref h)] := hl
  obtain ⟨H, hH⟩ : ∃ z, z = s.heap := ⟨_, rfl⟩
  have hP : va_P D vwCl (MW dA h ad x) H := by rw [hH]; exact hP
  have hS : va_S A s.heap H [] := by rw [hH]; exact hS
  rw [← hH]
  have J38 : ∀ (H : Heap) (locs : List Loc) (ls : Array Slot) (hP : va_P D vwCl (MW dA h ad (MS.s_too x d)) H) (hD : va_D A (MW dA h ad (MS.s_too x d))) (hS : va_S A s.heap H locs) (hl : lv_has ls 2 [(0, .ref h)]), W p l e ({ frames := 3, cells := 0, slots := 0, locals := 46 } : Room) s m ([.ref h] : List Value).toArray below meth c H locs 0 0 (MQ below (va_Qi (fun (r9 : Int32) (u9 : Unit) => r9 = bI true) (fun (u9 : Unit) t9 => bW D A (MW dA h ad (MS.s_too (MS.s_frm (MS.s_kind x 3) d) (b + 1))) t9) A) ([.ref h] : List Value).toArray s 0 0 A) (F0 m 38 ls []) := by
    intro  H locs ls hP hD hS hl
    have d1 : d ≤ x.length := by rw [← hp]; exact skG_le ht
    refine lv_aload_n hx hb d_M_next_38 rfl (lv_at hl 0 rfl) ?_
    refine lv_aload_n hx hb d_M_next_39 rfl (lv_at hl 0 rfl) ?_
    refine gF (v := .int (nI d)) hx hb hown hE hK hP 0 rfl rfl layM 46 (by decide) w463 rfl d_M_next_40 ?_
    refine pF (v := .int (nI d)) hx hb hown hE hK hP hD hS 0 rfl rfl layM tyM tokM nmM 45 (by decide) w464 rfl rfl rfl (Nat.le_of_ble_eq_true rfl) d_M_next_43 (fun H locs hP hD hS => ?_)
    have hP : va_P D vwCl (MW dA h ad (MS.s_too (MS.s_frm x d) d)) H := hP
    have hD : va_D A (MW dA h ad (MS.s_too (MS.s_frm x d) d)) := hD
    refine lv_aload_n hx hb d_M_next_46 rfl (lv_at hl 0 rfl) ?_
    refine lv_aload_n hx hb d_M_next_47 rfl (lv_at hl 0 rfl) ?_
    refine gF (v := .int (nI d)) hx hb hown hE hK hP 0 rfl rfl layM 45 (by decide) w464 rfl d_M_next_48 ?_
    refine jfI (rnV (As := [.int (nI d)]) (rest := []) hx hb hml hown hE hK (hN _ _ hS) hP hD (k_at l D dA H.size h ad (MS.s_too (MS.s_frm x d) d) d (show d < 2 ^ 31 from by omega) (show x.length ≤ 65536 from by omega)) (q0 := 0) rfl rfl w466 w465 w467 w468 w328 rfl rfl ⟨⟨by decide, by decide⟩, rfl⟩ ⟨(Nat.le_of_ble_eq_true rfl), (Nat.le_of_ble_eq_true rfl)⟩ rfl hl.1 rfl (Nat.le_of_ble_eq_true rfl) d_M_next_51 ⟨(Nat.le_of_ble_eq_true rfl), (Nat.le_of_ble_eq_true rfl)⟩) hP hD hS hA (fun r1 u2 H locs hp9 hP hD hS => ?_)
    have hP : va_P D vwCl (MW dA h ad (MS.s_too (MS.s_frm x d) d)) H := hP
    have hD : va_D A (MW dA h ad (MS.s_too (MS.s_frm x d) d)) := hD
    replace hp9 : x.atN d = r1 := Eq.symm hp9
    subst hp9
    refine lv_istore_n hx hb d_M_next_54 rfl hl (by decide) rfl (fun ls hl => ?_)
    have hl : lv_has ls 2 [(1, .int (x.atN d)), (0, .ref h)] := hl
    refine lv_aload_n hx hb d_M_next_55 rfl (lv_at hl 1 rfl) ?_
    refine gF (v := .int (nI d)) hx hb hown hE hK hP 0 rfl rfl layM 45 (by decide) w464 rfl d_M_next_56 ?_
    refine lv_aload_n hx hb d_M_next_59 rfl (lv_at hl 1 rfl) ?_
    refine gF (v := .int (nI x.length)) hx hb hown hE hK hP 0 rfl rfl layM 2 (by decide) w320 rfl d_M_next_60 ?_
    refine lv_icmp_lt hx hb d_M_next_63 (tgt := 74) rfl (fun _ => ?_) (fun h9 => absurd ((nI_ltI (a := d) (b := x.length) (by omega) (by omega)).mpr hk) h9)
    refine lv_iload_n hx hb d_M_next_74 rfl (lv_at hl 0 rfl) ?_
    have hPc := hP.sub (ws' := []) [] rfl
    have hDc := hD.sub (ws' := []) [] (by decide) rfl
    refine jnI (rnS (As := [.int (x.atN d)]) (rest := []) hx hb hml hown hE hK (hN _ _ hS) hPc hDc (k_isDigit l D dA H.size (x.atN d)) w955 w954 w956 w328 rfl rfl ⟨⟨by decide, by decide⟩, rfl⟩ ⟨(Nat.le_of_ble_eq_true rfl), (Nat.le_of_ble_eq_true rfl)⟩ rfl hl.1 rfl (Nat.le_of_ble_eq_true rfl) d_M_next_75 ⟨(Nat.le_of_ble_eq_true rfl), (Nat.le_of_ble_eq_true rfl)⟩) hP hD hS hA [] [0, 1, 2, 3, 4, 5, 6, 7, 8, 9, 10, 11, 12, 13, 14, 15, 16, 17, 18, 19, 20, 21, 22, 23, 24, 25, 26, 27, 28, 29, 30, 31, 32, 33, 34, 35, 36, 37, 38] (wr := MW dA h ad (MS.s_too (MS.s_frm x d) d)) rfl rfl (by decide) (by decide) (fun r3 u9 H locs hp9 hP hD hS => ?_)
    have hP : va_P D vwCl (MW dA h ad (MS.s_too (MS.s_frm x d) d)) H := hP
    have hD : va_D A (MW dA h ad (MS.s_too (MS.s_frm x d) d)) := hD
    replace hp9 : bI (isDg (x.atN d)) = r3 := Eq.symm hp9
    subst hp9
    refine lv_if_eq hx hb d_M_next_78 (tgt := 86) rfl (fun _ => ?_) (fun h9 => absurd (by rw [hdg]; decide) h9)
    refine lv_iload_n hx hb d_M_next_86 rfl (lv_at hl 0 rfl) ?_
    have hPc := hP.sub (ws' := []) [] rfl
    have hDc := hD.sub (ws' := []) [] (by decide) rfl
    refine jnI (rnS (As := [.int (x.atN d)]) (rest := []) hx hb hml hown hE hK (hN _ _ hS) hPc hDc (k_isLetter l D dA H.size (x.atN d)) w964 w963 w965 w328 rfl rfl ⟨⟨by decide, by decide⟩, rfl⟩ ⟨(Nat.le_of_ble_eq_true rfl), (Nat.le_of_ble_eq_true rfl)⟩ rfl hl.1 rfl (Nat.le_of_ble_eq_true rfl) d_M_next_87 ⟨(Nat.le_of_ble_eq_true rfl), (Nat.le_of_ble_eq_true rfl)⟩) hP hD hS hA [] [0, 1, 2, 3, 4, 5, 6, 7, 8, 9, 10, 11, 12, 13, 14, 15, 16, 17, 18, 19, 20, 21, 22, 23, 24, 25, 26, 27, 28, 29, 30, 31, 32, 33, 34, 35, 36, 37, 38] (wr := MW dA h ad (MS.s_too (MS.s_frm x d) d)) rfl rfl (by decide) (by decide) (fun r5 u9 H locs hp9 hP hD hS => ?_)
    have hP : va_P D vwCl (MW dA h ad (MS.s_too (MS.s_frm x d) d)) H := hP
    have hD : va_D A (MW dA h ad (MS.s_too (MS.s_frm x d) d)) := hD
    replace hp9 : bI (isLt (x.atN d)) = r5 := Eq.symm hp9
    subst hp9
    refine lv_if_eq hx hb d_M_next_90 (tgt := 139) rfl (fun _ => ?_) (fun h9 => absurd (by rw [hlt]; decide) h9)
    refine lv_iload_n hx hb d_M_next_139 rfl (lv_at hl 0 rfl) ?_
    refine lv_bipush (v := 34) hx hb d_M_next_140 (by decide) ?_
    refine lv_icmp_ne hx hb d_M_next_142 (tgt := 259) rfl (fun h9 => absurd htq h9) (fun _ => ?_)
    refine lv_aload_n hx hb d_M_next_145 rfl (lv_at hl 1 rfl) ?_
    refine lv_iconst (v := 3) hx hb d_M_next_146 (by decide) ?_
    refine pF (v := .int 3) hx hb hown hE hK hP hD hS 0 rfl rfl layM tyM tokM nmM 44 (by decide) w469 rfl rfl rfl (Nat.le_of_ble_eq_true rfl) d_M_next_147 (fun H locs hP hD hS => ?_)
    have hP : va_P D vwCl (MW dA h ad (MS.s_too (MS.s_frm (MS.s_kind x 3) d) d)) H := hP
    have hD : va_D A (MW dA h ad (MS.s_too (MS.s_frm (MS.s_kind x 3) d) d)) := hD
    have J223 : ∀ (q : Nat) (i5 : b = q) (i6 : q ≤ x.length), ∀ (H : Heap) (locs : List Loc) (ls : Array Slot) (hP : va_P D vwCl (MW dA h ad (MS.s_too (MS.s_frm (MS.s_kind x 3) d) q)) H) (hD : va_D A (MW dA h ad (MS.s_too (MS.s_frm (MS.s_kind x 3) d) q))) (hS : va_S A s.heap H locs) (hl : lv_has ls 2 [(0, .ref h)]), W p l e ({ frames := 3, cells := 0, slots := 0, locals := 46 } : Room) s m ([.ref h] : List Value).toArray below meth c H locs 0 0 (MQ below (va_Qi (fun (r9 : Int32) (u9 : Unit) => r9 = bI true) (fun (u9 : Unit) t9 => bW D A (MW dA h ad (MS.s_too (MS.s_frm (MS.s_kind x 3) d) (b + 1))) t9) A) ([.ref h] : List Value).toArray s 0 0 A) (F0 m 223 ls []) := by
      intro q i5 i6 H locs ls hP hD hS hl
      refine lv_aload_n hx hb d_M_next_223 rfl (lv_at hl 0 rfl) ?_
      refine lv_aload_n hx hb d_M_next_224 rfl (lv_at hl 0 rfl) ?_
      refine gF (v := .int (nI q)) hx hb hown hE hK hP 0 rfl rfl layM 46 (by decide) w463 rfl d_M_next_225 ?_
      refine jfI (rnV (As := [.int (nI q)]) (rest := []) hx hb hml hown hE hK (hN _ _ hS) hP hD (k_at l D dA H.size h ad (MS.s_too (MS.s_frm (MS.s_kind x 3) d) q) q (show q < 2 ^ 31 from by omega) (show x.length ≤ 65536 from by omega)) (q0 := 0) rfl rfl w466 w465 w467 w468 w328 rfl rfl ⟨⟨by decide, by decide⟩, rfl⟩ ⟨(Nat.le_of_ble_eq_true rfl), (Nat.le_of_ble_eq_true rfl)⟩ rfl hl.1 rfl (Nat.le_of_ble_eq_true rfl) d_M_next_228 ⟨(Nat.le_of_ble_eq_true rfl), (Nat.le_of_ble_eq_true rfl)⟩) hP hD hS hA (fun r7 u8 H locs hp9 hP hD hS => ?_)
      have hP : va_P D vwCl (MW dA h ad (MS.s_too (MS.s_frm (MS.s_kind x 3) d) q)) H := hP
      have hD : va_D A (MW dA h ad (MS.s_too (MS.s_frm (MS.s_kind x 3) d) q)) := hD
      replace hp9 : x.atN q = r7 := Eq.symm hp9
      subst hp9
      refine lv_bipush (v := 34) hx hb d_M_next_231 (by decide) ?_
      refine lv_icmp_eq hx hb d_M_next_233 (tgt := 246) rfl (fun _ => ?_) (fun h9 => absurd (by rw [← i5]; exact hb4) h9)
      refine lv_aload_n hx hb d_M_next_246 rfl (lv_at hl 0 rfl) ?_
      refine lv_dup hx hb d_M_next_247 rfl ?_
      refine gF (v := .int (nI q)) hx hb hown hE hK hP 0 rfl rfl layM 46 (by decide) w463 rfl d_M_next_248 ?_
      refine lv_iconst (v := 1) hx hb d_M_next_251 (by decide) ?_
      refine lv_iadd hx hb d_M_next_252 (tpi (y := nI (q + 1)) (nI_add (q) (1)) ?_)
      refine pF (v := .int (nI (q + 1))) hx hb hown hE hK hP hD hS 0 rfl rfl layM tyM tokM nmM 46 (by decide) w463 rfl rfl rfl (Nat.le_of_ble_eq_true rfl) d_M_next_253 (fun H locs hP hD hS => ?_)
      have hP : va_P D vwCl (MW dA h ad (MS.s_too (MS.s_frm (MS.s_kind x 3) d) (q + 1))) H := hP
      have hD : va_D A (MW dA h ad (MS.s_too (MS.s_frm (MS.s_kind x 3) d) (q + 1))) := hD
      refine lv_goto hx hb d_M_next_256 (tgt := 275) rfl ?_
      refine lv_iconst (v := 1) hx hb d_M_next_275 (by decide) ?_
      have e9 : (MS.s_too (MS.s_frm (MS.s_kind x 3) d) (q + 1) : MS) = MS.s_too (MS.s_frm (MS.s_kind x 3) d) (b + 1) := by rw [show (b + 1) = (q + 1) from by (rw [i5])] <;> rfl
      exact rfZ hx hb hr (bI_nar true) hlk hS () rfl (cvP e9 hP) (cvD e9 hD) (Nat.le_of_ble_eq_true rfl) (Nat.le_of_ble_eq_true rfl) d_M_next_276
    refine lv_aload_n hx hb d_M_next_150 rfl (lv_at hl 1 rfl) ?_
    refine lv_dup hx hb d_M_next_151 rfl ?_
    refine gF (v := .int (nI d)) hx hb hown hE hK hP 0 rfl rfl layM 46 (by decide) w463 rfl d_M_next_152 ?_
    refine lv_iconst (v := 1) hx hb d_M_next_155 (by decide) ?_
    refine lv_iadd hx hb d_M_next_156 (tpi (y := nI (d + 1)) (nI_add (d) (1)) ?_)
    refine pF (v := .int (nI (d + 1))) hx hb hown hE hK hP hD hS 0 rfl rfl layM tyM tokM nmM 46 (by decide) w463 rfl rfl rfl (Nat.le_of_ble_eq_true rfl) d_M_next_157 (fun H locs hP hD hS => ?_)
    have hP : va_P D vwCl (MW dA h ad (MS.s_too (MS.s_frm (MS.s_kind x 3) d) (d + 1))) H := hP
    have hD : va_D A (MW dA h ad (MS.s_too (MS.s_frm (MS.s_kind x 3) d) (d + 1))) := hD
    have L160 : ∀ (k9 : Nat) (q : Nat) (i1 : txG x.tape x.length (x.length + 1 - q) q = b) (i2 : q ≤ x.length) (hk9 : x.length + 1 - q = k9), ∀ (H : Heap) (locs : List Loc) (ls : Array Slot) (hP : va_P D vwCl (MW dA h ad (MS.s_too (MS.s_frm (MS.s_kind x 3) d) q)) H) (hD : va_D A (MW dA h ad (MS.s_too (MS.s_frm (MS.s_kind x 3) d) q))) (hS : va_S A s.heap H locs) (hl : lv_has ls 2 [(0, .ref h)]), W p l e ({ frames := 3, cells := 0, slots := 0, locals := 46 } : Room) s m ([.ref h] : List Value).toArray below meth c H locs 0 0 (MQ below (va_Qi (fun (r9 : Int32) (u9 : Unit) => r9 = bI true) (fun (u9 : Unit) t9 => bW D A (MW dA h ad (MS.s_too (MS.s_frm (MS.s_kind x 3) d) (b + 1))) t9) A) ([.ref h] : List Value).toArray s 0 0 A) (F0 m 160 ls []) := by
      intro k9
      induction k9 using Nat.strongRecOn with
      | ind k9 ih160 =>
        intro q i1 i2 hk9 H locs ls hP hD hS hl
        refine lv_aload_n hx hb d_M_next_160 rfl (lv_at hl 0 rfl) ?_
        refine gF (v := .int (nI q)) hx hb hown hE hK hP 0 rfl rfl layM 46 (by decide) w463 rfl d_M_next_161 ?_
        refine lv_aload_n hx hb d_M_next_164 rfl (lv_at hl 0 rfl) ?_
        refine gF (v := .int (nI x.length)) hx hb hown hE hK hP 0 rfl rfl layM 2 (by decide) w320 rfl d_M_next_165 ?_
        refine lv_icmp_ge hx hb d_M_next_168 (tgt := 223) rfl (fun g9 => ?_) (fun g9 => ?_)
        · have g9 := (nI_leI (a := x.length) (b := q) (by omega) (by omega)).mp g9
          exact J223 q (i1.symm.trans (txG_n (Or.inl g9))) (by omega) H _ ls hP hD hS (lv_sub hl [0] rfl)
        · have g9 := mt (nI_leI (a := x.length) (b := q) (by omega) (by omega)).mpr g9
          refine lv_aload_n hx hb d_M_next_171 rfl (lv_at hl 0 rfl) ?_
          refine lv_aload_n hx hb d_M_next_172 rfl (lv_at hl 0 rfl) ?_
          refine gF (v := .int (nI q)) hx hb hown hE hK hP 0 rfl rfl layM 46 (by decide) w463 rfl d_M_next_173 ?_
          refine jfI (rnV (As := [.int (nI q)]) (rest := []) hx hb hml hown hE hK (hN _ _ hS) hP hD (k_at l D dA H.size h ad (MS.s_too (MS.s_frm (MS.s_kind x 3) d) q) q (show q < 2 ^ 31 from by omega) (show x.length ≤ 65536 from by omega)) (q0 := 0) rfl rfl w466 w465 w467 w468 w328 rfl rfl ⟨⟨by decide, by decide⟩, rfl⟩ ⟨(Nat.le_of_ble_eq_true rfl), (Nat.le_of_ble_eq_true rfl)⟩ rfl hl.1 rfl (Nat.le_of_ble_eq_true rfl) d_M_next_176 ⟨(Nat.le_of_ble_eq_true rfl), (Nat.le_of_ble_eq_true rfl)⟩) hP hD hS hA (fun r10 u11 H locs hp9 hP hD hS => ?_)
          have hP : va_P D vwCl (MW dA h ad (MS.s_too (MS.s_frm (MS.s_kind x 3) d) q)) H := hP
          have hD : va_D A (MW dA h ad (MS.s_too (MS.s_frm (MS.s_kind x 3) d) q)) := hD
          replace hp9 : x.atN q = r10 := Eq.symm hp9
          subst hp9
          refine lv_bipush (v := 31) hx hb d_M_next_179 (by decide) ?_
          refine lv_icmp_le hx hb d_M_next_181 (tgt := 223) rfl (fun g12 => ?_) (fun g12 => ?_)
          · have g12 := g12
            exact J223 q (i1.symm.trans (txG_n (Or.inr (by show (!decide (x.atN q ≤ 31) && (!decide (127 ≤ x.atN q) && !decide (x.atN q = 34))) = false; rw [decide_eq_true g12]; rfl)))) (by omega) H _ ls hP hD hS (lv_sub hl [0] rfl)
          · have g12 := g12
            refine lv_aload_n hx hb d_M_next_184 rfl (lv_at hl 0 rfl) ?_
            refine lv_aload_n hx hb d_M_next_185 rfl (lv_at hl 0 rfl) ?_
            refine gF (v := .int (nI q)) hx hb hown hE hK hP 0 rfl rfl layM 46 (by decide) w463 rfl d_M_next_186 ?_
            refine jfI (rnV (As := [.int (nI q)]) (rest := []) hx hb hml hown hE hK (hN _ _ hS) hP hD (k_at l D dA H.size h ad (MS.s_too (MS.s_frm (MS.s_kind x 3) d) q) q (show q < 2 ^ 31 from by omega) (show x.length ≤ 65536 from by omega)) (q0 := 0) rfl rfl w466 w465 w467 w468 w328 rfl rfl ⟨⟨by decide, by decide⟩, rfl⟩ ⟨(Nat.le_of_ble_eq_true rfl), (Nat.le_of_ble_eq_true rfl)⟩ rfl hl.1 rfl (Nat.le_of_ble_eq_true rfl) d_M_next_189 ⟨(Nat.le_of_ble_eq_true rfl), (Nat.le_of_ble_eq_true rfl)⟩) hP hD hS hA (fun r13 u14 H locs hp9 hP hD hS => ?_)
            have hP : va_P D vwCl (MW dA h ad (MS.s_too (MS.s_frm (MS.s_kind x 3) d) q)) H := hP
            have hD : va_D A (MW dA h ad (MS.s_too (MS.s_frm (MS.s_kind x 3) d) q)) := hD
            replace hp9 : x.atN q = r13 := Eq.symm hp9
            subst hp9
            refine lv_bipush (v := 127) hx hb d_M_next_192 (by decide) ?_
            refine lv_icmp_ge hx hb d_M_next_194 (tgt := 223) rfl (fun g15 => ?_) (fun g15 => ?_)
            · have g15 := g15
              exact J223 q (i1.symm.trans (txG_n (Or.inr (by show (!decide (x.atN q ≤ 31) && (!decide (127 ≤ x.atN q) && !decide (x.atN q = 34))) = false; rw [decide_eq_false g12, decide_eq_true g15]; rfl)))) (by omega) H _ ls hP hD hS (lv_sub hl [0] rfl)
            · have g15 := g15
              refine lv_aload_n hx hb d_M_next_197 rfl (lv_at hl 0 rfl) ?_
              refine lv_aload_n hx hb d_M_next_198 rfl (lv_at hl 0 rfl) ?_
              refine gF (v := .int (nI q)) hx hb hown hE hK hP 0 rfl rfl layM 46 (by decide) w463 rfl d_M_next_199 ?_
              refine jfI (rnV (As := [.int (nI q)]) (rest := []) hx hb hml hown hE hK (hN _ _ hS) hP hD (k_at l D dA H.size h ad (MS.s_too (MS.s_frm (MS.s_kind x 3) d) q) q (show q < 2 ^ 31 from by omega) (show x.length ≤ 65536 from by omega)) (q0 := 0) rfl rfl w466 w465 w467 w468 w328 rfl rfl ⟨⟨by decide, by decide⟩, rfl⟩ ⟨(Nat.le_of_ble_eq_true rfl), (Nat.le_of_ble_eq_true rfl)⟩ rfl hl.1 rfl (Nat.le_of_ble_eq_true rfl) d_M_next_202 ⟨(Nat.le_of_ble_eq_true rfl), (Nat.le_of_ble_eq_true rfl)⟩) hP hD hS hA (fun r16 u17 H locs hp9 hP hD hS => ?_)
              have hP : va_P D vwCl (MW dA h ad (MS.s_too (MS.s_frm (MS.s_kind x 3) d) q)) H := hP
              have hD : va_D A (MW dA h ad (MS.s_too (MS.s_frm (MS.s_kind x 3) d) q)) := hD
              replace hp9 : x.atN q = r16 := Eq.symm hp9
              subst hp9
              refine lv_bipush (v := 34) hx hb d_M_next_205 (by decide) ?_
              refine lv_icmp_eq hx hb d_M_next_207 (tgt := 223) rfl (fun g18 => ?_) (fun g18 => ?_)
              · have g18 := g18
                exact J223 q (i1.symm.trans (txG_n (Or.inr (by show (!decide (x.atN q ≤ 31) && (!decide (127 ≤ x.atN q) && !decide (x.atN q = 34))) = false; rw [decide_eq_false g12, decide_eq_false g15, decide_eq_true g18]; rfl)))) (by omega) H _ ls hP hD hS (lv_sub hl [0] rfl)
              · have g18 := g18
                refine lv_aload_n hx hb d_M_next_210 rfl (lv_at hl 0 rfl) ?_
                refine lv_dup hx hb d_M_next_211 rfl ?_
                refine gF (v := .int (nI q)) hx hb hown hE hK hP 0 rfl rfl layM 46 (by decide) w463 rfl d_M_next_212 ?_
                refine lv_iconst (v := 1) hx hb d_M_next_215 (by decide) ?_
                refine lv_iadd hx hb d_M_next_216 (tpi (y := nI (q + 1)) (nI_add (q) (1)) ?_)
                refine pF (v := .int (nI (q + 1))) hx hb hown hE hK hP hD hS 0 rfl rfl layM tyM tokM nmM 46 (by decide) w463 rfl rfl rfl (Nat.le_of_ble_eq_true rfl) d_M_next_217 (fun H locs hP hD hS => ?_)
                have hP : va_P D vwCl (MW dA h ad (MS.s_too (MS.s_frm (MS.s_kind x 3) d) (q + 1))) H := hP
                have hD : va_D A (MW dA h ad (MS.s_too (MS.s_frm (MS.s_kind x 3) d) (q + 1))) := hD
                refine lv_goto hx hb d_M_next_220 (tgt := 160) rfl ?_
                exact ih160 _ (by omega) (q + 1) (by rw [← i1, txG_t (w := x.length + 1 - q) (by omega) g9 (by show (!decide (x.atN q ≤ 31) && (!decide (127 ≤ x.atN q) && !decide (x.atN q = 34))) = true; rw [decide_eq_false g12, decide_eq_false g15, decide_eq_false g18]; rfl), show x.length + 1 - q - 1 = x.length + 1 - (q + 1) by omega]) (by omega) rfl H _ ls hP hD hS (lv_sub hl [0] rfl)
    exact L160 _ (d + 1) hg (by omega) rfl H _ ls hP hD hS (lv_sub hl [1] rfl)
  have L0 : ∀ (k9 : Nat) (q : Nat) (i1 : skG x.tape x.length (x.length + 1 - q) q = skG x.tape x.length (x.length + 1 - x.too) x.too) (i2 : q ≤ x.length) (hk9 : x.length + 1 - q = k9), ∀ (H : Heap) (locs : List Loc) (ls : Array Slot) (hP : va_P D vwCl (MW dA h ad (MS.s_too x q)) H) (hD : va_D A (MW dA h ad (MS.s_too x q))) (hS : va_S A s.heap H locs) (hl : lv_has ls 2 [(0, .ref h)]), W p l e ({ frames := 3, cells := 0, slots := 0, locals := 46 } : Room) s m ([.ref h] : List Value).toArray below meth c H locs 0 0 (MQ below (va_Qi (fun (r9 : Int32) (u9 : Unit) => r9 = bI true) (fun (u9 : Unit) t9 => bW D A (MW dA h ad (MS.s_too (MS.s_frm (MS.s_kind x 3) d) (b + 1))) t9) A) ([.ref h] : List Value).toArray s 0 0 A) (F0 m 0 ls []) := by
    intro k9
    induction k9 using Nat.strongRecOn with
    | ind k9 ih0 =>
      intro q i1 i2 hk9 H locs ls hP hD hS hl
      refine lv_aload_n hx hb d_M_next_0 rfl (lv_at hl 0 rfl) ?_
      refine gF (v := .int (nI q)) hx hb hown hE hK hP 0 rfl rfl layM 46 (by decide) w463 rfl d_M_next_1 ?_
      refine lv_aload_n hx hb d_M_next_4 rfl (lv_at hl 0 rfl) ?_
      refine gF (v := .int (nI x.length)) hx hb hown hE hK hP 0 rfl rfl layM 2 (by decide) w320 rfl d_M_next_5 ?_
      refine lv_icmp_ge hx hb d_M_next_8 (tgt := 38) rfl (fun g19 => ?_) (fun g19 => ?_)
      · have g19 := (nI_leI (a := x.length) (b := q) (by omega) (by omega)).mp g19
        have e9 : (MS.s_too x q : MS) = MS.s_too x d := by rw [show d = q from (hp.symm.trans (i1.symm.trans (skG_n (Or.inl g19))))] <;> rfl
        exact J38  H _ ls (cvP e9 hP) (cvD e9 hD) hS (lv_sub hl [0] rfl)
      · have g19 := mt (nI_leI (a := x.length) (b := q) (by omega) (by omega)).mpr g19
        refine lv_aload_n hx hb d_M_next_11 rfl (lv_at hl 0 rfl) ?_
        refine gF (v := .ref (ad 1)) hx hb hown hE hK hP 0 rfl rfl layM 1 (by decide) w497 rfl d_M_next_12 ?_
        refine lv_aload_n hx hb d_M_next_15 rfl (lv_at hl 0 rfl) ?_
        refine gF (v := .int (nI q)) hx hb hown hE hK hP 0 rfl rfl layM 46 (by decide) w463 rfl d_M_next_16 ?_
        refine nbld (f := x.tape) hx hb hK hP 1 0 rfl rfl (q) (by omega) (by decide) d_M_next_19 ?_
        refine lv_bipush (v := 32) hx hb d_M_next_20 (by decide) ?_
        refine lv_icmp_ne hx hb d_M_next_22 (tgt := 38) rfl (fun g20 => ?_) (fun g20 => ?_)
        · have g20 := g20
          have e9 : (MS.s_too x q : MS) = MS.s_too x d := by rw [show d = q from (hp.symm.trans (i1.symm.trans (skG_n (Or.inr g20))))] <;> rfl
          exact J38  H _ ls (cvP e9 hP) (cvD e9 hD) hS (lv_sub hl [0] rfl)
        · have g20 := g20
          refine lv_aload_n hx hb d_M_next_25 rfl (lv_at hl 0 rfl) ?_
          refine lv_dup hx hb d_M_next_26 rfl ?_
          refine gF (v := .int (nI q)) hx hb hown hE hK hP 0 rfl rfl layM 46 (by decide) w463 rfl d_M_next_27 ?_
          refine lv_iconst (v := 1) hx hb d_M_next_30 (by decide) ?_
          refine lv_iadd hx hb d_M_next_31 (tpi (y := nI (q + 1)) (nI_add (q) (1)) ?_)
          refine pF (v := .int (nI (q + 1))) hx hb hown hE hK hP hD hS 0 rfl rfl layM tyM tokM nmM 46 (by decide) w463 rfl rfl rfl (Nat.le_of_ble_eq_true rfl) d_M_next_32 (fun H locs hP hD hS => ?_)
          have hP : va_P D vwCl (MW dA h ad (MS.s_too x (q + 1))) H := hP
          have hD : va_D A (MW dA h ad (MS.s_too x (q + 1))) := hD
          refine lv_goto hx hb d_M_next_35 (tgt := 0) rfl ?_
          exact ih0 _ (by omega) (q + 1) (by rw [← i1, skG_t (w := x.length + 1 - q) (by omega) g19 g20, show x.length + 1 - q - 1 = x.length + 1 - (q + 1) by omega]) (by omega) rfl H _ ls hP hD hS (lv_sub hl [0] rfl)
  exact L0 _ x.too rfl ht rfl H _ ls hP hD hS (lv_sub hl [0] rfl)
theorem d_M_next_236 : decode prog_14_method_57_code 236 = .ok (.aload_n 0, 1) := by decide +kernel
theorem d_M_next_237 : decode prog_14_method_57_code 237 = .ok (.iconst 1, 1) := by decide +kernel
theorem d_M_next_238 : decode prog_14_method_57_code 238 = .ok (.aload_n 0, 1) := by decide +kernel
theorem d_M_next_239 : decode prog_14_method_57_code 239 = .ok (.getfield 345, 3) := by decide +kernel
theorem d_M_next_242 : decode prog_14_method_57_code 242 = .ok (.invokevirtual 224, 3) := by decide +kernel
theorem d_M_next_245 : decode prog_14_method_57_code 245 = .ok (.ireturn, 1) := by decide +kernel
set_option maxHeartbeats 4000000 in
set_option maxRecDepth 100000 in
theorem k_next_tx (l : Launch) (D : va_G) (dA : Nat → ClassId) (sz : Nat) (h : Nat) (ad : Nat → Nat) (x : MS) (d : Nat) (b : Nat) (hl1 : x.length ≤ 65536) (ht : x.too ≤ x.length) (hp : skG x.tape x.length (x.length + 1 - x.too) x.too = d) (hk : d < x.length) (hdg : isDg (x.atN d) = false) (hlt : isLt (x.atN d) = false) (htq : x.atN d = 34) (hg : txG x.tape x.length (x.length + 1 - (d + 1)) (d + 1) = b) (hb4 : ¬ x.atN b = 34) (hf : x.faultCode = 0) : Met l ⟨"SeriesVaultModel", "next", "()Z"⟩ [Cond.code ⟨"SeriesVaultModel", "next", "()Z"⟩ prog_14_method_57_code 2 (some FieldType.boolean)] { frames := 3, cells := 0, slots := 0, locals := 46 } (pC D dA [.ref h] (MW dA h ad x) sz) (va_Qi (fun (r9 : Int32) (u9 : Unit) => r9 = bI false) (fun (u9 : Unit) t9 => bW D (va_A (MW dA h ad x) sz) (MW dA h ad (MS.s_too (MS.s_frm (MS.s_kind (MS.s_faultPlace (MS.s_faultCode x 1) (nI d)) 3) d) b)) t9) (va_A (MW dA h ad x) sz)) 0 0 (va_A (MW dA h ad x) sz) := by
  refine mkC (y := ⟨"SeriesVaultModel", "next", "()Z"⟩) (cc := prog_14_method_57_code) (maxL := 2) (av := [.ref h]) (ws := MW dA h ad x) (sz := sz) (Qc := fun A => va_Qi (fun (r9 : Int32) (u9 : Unit) => r9 = bI false) (fun (u9 : Unit) t9 => bW D A (MW dA h ad (MS.s_too (MS.s_frm (MS.s_kind (MS.s_faultPlace (MS.s_faultCode x 1) (nI d)) 3) d) b)) t9) A) (by decide) (Nat.le_of_ble_eq_true rfl) ?_
  intro A p e s m below meth c ls hsz hB
  obtain ⟨hx, hb, hr, hml, hown, hin, hlk, hE, hK, hP, hD, hS, hA, hN, hl⟩ := hB
  have hown : s.vm.findClass "SeriesVaultModel" = some m.cls := hown
  have hl : lv_has ls 2 [(0, .ref h)] := hl
  obtain ⟨H, hH⟩ : ∃ z, z = s.heap := ⟨_, rfl⟩
  have hP : va_P D vwCl (MW dA h ad x) H := by rw [hH]; exact hP
  have hS : va_S A s.heap H [] := by rw [hH]; exact hS
  rw [← hH]
  have J38 : ∀ (H : Heap) (locs : List Loc) (ls : Array Slot) (hP : va_P D vwCl (MW dA h ad (MS.s_too x d)) H) (hD : va_D A (MW dA h ad (MS.s_too x d))) (hS : va_S A s.heap H locs) (hl : lv_has ls 2 [(0, .ref h)]), W p l e ({ frames := 3, cells := 0, slots := 0, locals := 46 } : Room) s m ([.ref h] : List Value).toArray below meth c H locs 0 0 (MQ below (va_Qi (fun (r9 : Int32) (u9 : Unit) => r9 = bI false) (fun (u9 : Unit) t9 => bW D A (MW dA h ad (MS.s_too (MS.s_frm (MS.s_kind (MS.s_faultPlace (MS.s_faultCode x 1) (nI d)) 3) d) b)) t9) A) ([.ref h] : List Value).toArray s 0 0 A) (F0 m 38 ls []) := by
    intro  H locs ls hP hD hS hl
    have d1 : d ≤ x.length := by rw [← hp]; exact skG_le ht
    refine lv_aload_n hx hb d_M_next_38 rfl (lv_at hl 0 rfl) ?_
    refine lv_aload_n hx hb d_M_next_39 rfl (lv_at hl 0 rfl) ?_
    refine gF (v := .int (nI d)) hx hb hown hE hK hP 0 rfl rfl layM 46 (by decide) w463 rfl d_M_next_40 ?_
    refine pF (v := .int (nI d)) hx hb hown hE hK hP hD hS 0 rfl rfl layM tyM tokM nmM 45 (by decide) w464 rfl rfl rfl (Nat.le_of_ble_eq_true rfl) d_M_next_43 (fun H locs hP hD hS => ?_)
    have hP : va_P D vwCl (MW dA h ad (MS.s_too (MS.s_frm x d) d)) H := hP
    have hD : va_D A (MW dA h ad (MS.s_too (MS.s_frm x d) d)) := hD
    refine lv_aload_n hx hb d_M_next_46 rfl (lv_at hl 0 rfl) ?_
    refine lv_aload_n hx hb d_M_next_47 rfl (lv_at hl 0 rfl) ?_
    refine gF (v := .int (nI d)) hx hb hown hE hK hP 0 rfl rfl layM 45 (by decide) w464 rfl d_M_next_48 ?_
    refine jfI (rnV (As := [.int (nI d)]) (rest := []) hx hb hml hown hE hK (hN _ _ hS) hP hD (k_at l D dA H.size h ad (MS.s_too (MS.s_frm x d) d) d (show d < 2 ^ 31 from by omega) (show x.length ≤ 65536 from by omega)) (q0 := 0) rfl rfl w466 w465 w467 w468 w328 rfl rfl ⟨⟨by decide, by decide⟩, rfl⟩ ⟨(Nat.le_of_ble_eq_true rfl), (Nat.le_of_ble_eq_true rfl)⟩ rfl hl.1 rfl (Nat.le_of_ble_eq_true rfl) d_M_next_51 ⟨(Nat.le_of_ble_eq_true rfl), (Nat.le_of_ble_eq_true rfl)⟩) hP hD hS hA (fun r1 u2 H locs hp9 hP hD hS => ?_)
    have hP : va_P D vwCl (MW dA h ad (MS.s_too (MS.s_frm x d) d)) H := hP
    have hD : va_D A (MW dA h ad (MS.s_too (MS.s_frm x d) d)) := hD
    replace hp9 : x.atN d = r1 := Eq.symm hp9
    subst hp9
    refine lv_istore_n hx hb d_M_next_54 rfl hl (by decide) rfl (fun ls hl => ?_)
    have hl : lv_has ls 2 [(1, .int (x.atN d)), (0, .ref h)] := hl
    refine lv_aload_n hx hb d_M_next_55 rfl (lv_at hl 1 rfl) ?_
    refine gF (v := .int (nI d)) hx hb hown hE hK hP 0 rfl rfl layM 45 (by decide) w464 rfl d_M_next_56 ?_
    refine lv_aload_n hx hb d_M_next_59 rfl (lv_at hl 1 rfl) ?_
    refine gF (v := .int (nI x.length)) hx hb hown hE hK hP 0 rfl rfl layM 2 (by decide) w320 rfl d_M_next_60 ?_
    refine lv_icmp_lt hx hb d_M_next_63 (tgt := 74) rfl (fun _ => ?_) (fun h9 => absurd ((nI_ltI (a := d) (b := x.length) (by omega) (by omega)).mpr hk) h9)
    refine lv_iload_n hx hb d_M_next_74 rfl (lv_at hl 0 rfl) ?_
    have hPc := hP.sub (ws' := []) [] rfl
    have hDc := hD.sub (ws' := []) [] (by decide) rfl
    refine jnI (rnS (As := [.int (x.atN d)]) (rest := []) hx hb hml hown hE hK (hN _ _ hS) hPc hDc (k_isDigit l D dA H.size (x.atN d)) w955 w954 w956 w328 rfl rfl ⟨⟨by decide, by decide⟩, rfl⟩ ⟨(Nat.le_of_ble_eq_true rfl), (Nat.le_of_ble_eq_true rfl)⟩ rfl hl.1 rfl (Nat.le_of_ble_eq_true rfl) d_M_next_75 ⟨(Nat.le_of_ble_eq_true rfl), (Nat.le_of_ble_eq_true rfl)⟩) hP hD hS hA [] [0, 1, 2, 3, 4, 5, 6, 7, 8, 9, 10, 11, 12, 13, 14, 15, 16, 17, 18, 19, 20, 21, 22, 23, 24, 25, 26, 27, 28, 29, 30, 31, 32, 33, 34, 35, 36, 37, 38] (wr := MW dA h ad (MS.s_too (MS.s_frm x d) d)) rfl rfl (by decide) (by decide) (fun r3 u9 H locs hp9 hP hD hS => ?_)
    have hP : va_P D vwCl (MW dA h ad (MS.s_too (MS.s_frm x d) d)) H := hP
    have hD : va_D A (MW dA h ad (MS.s_too (MS.s_frm x d) d)) := hD
    replace hp9 : bI (isDg (x.atN d)) = r3 := Eq.symm hp9
    subst hp9
    refine lv_if_eq hx hb d_M_next_78 (tgt := 86) rfl (fun _ => ?_) (fun h9 => absurd (by rw [hdg]; decide) h9)
    refine lv_iload_n hx hb d_M_next_86 rfl (lv_at hl 0 rfl) ?_
    have hPc := hP.sub (ws' := []) [] rfl
    have hDc := hD.sub (ws' := []) [] (by decide) rfl
    refine jnI (rnS (As := [.int (x.atN d)]) (rest := []) hx hb hml hown hE hK (hN _ _ hS) hPc hDc (k_isLetter l D dA H.size (x.atN d)) w964 w963 w965 w328 rfl rfl ⟨⟨by decide, by decide⟩, rfl⟩ ⟨(Nat.le_of_ble_eq_true rfl), (Nat.le_of_ble_eq_true rfl)⟩ rfl hl.1 rfl (Nat.le_of_ble_eq_true rfl) d_M_next_87 ⟨(Nat.le_of_ble_eq_true rfl), (Nat.le_of_ble_eq_true rfl)⟩) hP hD hS hA [] [0, 1, 2, 3, 4, 5, 6, 7, 8, 9, 10, 11, 12, 13, 14, 15, 16, 17, 18, 19, 20, 21, 22, 23, 24, 25, 26, 27, 28, 29, 30, 31, 32, 33, 34, 35, 36, 37, 38] (wr := MW dA h ad (MS.s_too (MS.s_frm x d) d)) rfl rfl (by decide) (by decide) (fun r5 u9 H locs hp9 hP hD hS => ?_)
    have hP : va_P D vwCl (MW dA h ad (MS.s_too (MS.s_frm x d) d)) H := hP
    have hD : va_D A (MW dA h ad (MS.s_too (MS.s_frm x d) d)) := hD
    replace hp9 : bI (isLt (x.atN d)) = r5 := Eq.symm hp9
    subst hp9
    refine lv_if_eq hx hb d_M_next_90 (tgt := 139) rfl (fun _ => ?_) (fun h9 => absurd (by rw [hlt]; decide) h9)
    refine lv_iload_n hx hb d_M_next_139 rfl (lv_at hl 0 rfl) ?_
    refine lv_bipush (v := 34) hx hb d_M_next_140 (by decide) ?_
    refine lv_icmp_ne hx hb d_M_next_142 (tgt := 259) rfl (fun h9 => absurd htq h9) (fun _ => ?_)
    refine lv_aload_n hx hb d_M_next_145 rfl (lv_at hl 1 rfl) ?_
    refine lv_iconst (v := 3) hx hb d_M_next_146 (by decide) ?_
    refine pF (v := .int 3) hx hb hown hE hK hP hD hS 0 rfl rfl layM tyM tokM nmM 44 (by decide) w469 rfl rfl rfl (Nat.le_of_ble_eq_true rfl) d_M_next_147 (fun H locs hP hD hS => ?_)
    have hP : va_P D vwCl (MW dA h ad (MS.s_too (MS.s_frm (MS.s_kind x 3) d) d)) H := hP
    have hD : va_D A (MW dA h ad (MS.s_too (MS.s_frm (MS.s_kind x 3) d) d)) := hD
    have J223 : ∀ (q : Nat) (i5 : b = q) (i6 : q ≤ x.length), ∀ (H : Heap) (locs : List Loc) (ls : Array Slot) (hP : va_P D vwCl (MW dA h ad (MS.s_too (MS.s_frm (MS.s_kind x 3) d) q)) H) (hD : va_D A (MW dA h ad (MS.s_too (MS.s_frm (MS.s_kind x 3) d) q))) (hS : va_S A s.heap H locs) (hl : lv_has ls 2 [(0, .ref h)]), W p l e ({ frames := 3, cells := 0, slots := 0, locals := 46 } : Room) s m ([.ref h] : List Value).toArray below meth c H locs 0 0 (MQ below (va_Qi (fun (r9 : Int32) (u9 : Unit) => r9 = bI false) (fun (u9 : Unit) t9 => bW D A (MW dA h ad (MS.s_too (MS.s_frm (MS.s_kind (MS.s_faultPlace (MS.s_faultCode x 1) (nI d)) 3) d) b)) t9) A) ([.ref h] : List Value).toArray s 0 0 A) (F0 m 223 ls []) := by
      intro q i5 i6 H locs ls hP hD hS hl
      refine lv_aload_n hx hb d_M_next_223 rfl (lv_at hl 0 rfl) ?_
      refine lv_aload_n hx hb d_M_next_224 rfl (lv_at hl 0 rfl) ?_
      refine gF (v := .int (nI q)) hx hb hown hE hK hP 0 rfl rfl layM 46 (by decide) w463 rfl d_M_next_225 ?_
      refine jfI (rnV (As := [.int (nI q)]) (rest := []) hx hb hml hown hE hK (hN _ _ hS) hP hD (k_at l D dA H.size h ad (MS.s_too (MS.s_frm (MS.s_kind x 3) d) q) q (show q < 2 ^ 31 from by omega) (show x.length ≤ 65536 from by omega)) (q0 := 0) rfl rfl w466 w465 w467 w468 w328 rfl rfl ⟨⟨by decide, by decide⟩, rfl⟩ ⟨(Nat.le_of_ble_eq_true rfl), (Nat.le_of_ble_eq_true rfl)⟩ rfl hl.1 rfl (Nat.le_of_ble_eq_true rfl) d_M_next_228 ⟨(Nat.le_of_ble_eq_true rfl), (Nat.le_of_ble_eq_true rfl)⟩) hP hD hS hA (fun r7 u8 H locs hp9 hP hD hS => ?_)
      have hP : va_P D vwCl (MW dA h ad (MS.s_too (MS.s_frm (MS.s_kind x 3) d) q)) H := hP
      have hD : va_D A (MW dA h ad (MS.s_too (MS.s_frm (MS.s_kind x 3) d) q)) := hD
      replace hp9 : x.atN q = r7 := Eq.symm hp9
      subst hp9
      refine lv_bipush (v := 34) hx hb d_M_next_231 (by decide) ?_
      refine lv_icmp_eq hx hb d_M_next_233 (tgt := 246) rfl (fun h9 => absurd h9 (by rw [← i5]; exact hb4)) (fun _ => ?_)
      refine lv_aload_n hx hb d_M_next_236 rfl (lv_at hl 0 rfl) ?_
      refine lv_iconst (v := 1) hx hb d_M_next_237 (by decide) ?_
      refine lv_aload_n hx hb d_M_next_238 rfl (lv_at hl 0 rfl) ?_
      refine gF (v := .int (nI d)) hx hb hown hE hK hP 0 rfl rfl layM 45 (by decide) w464 rfl d_M_next_239 ?_
      refine jfI (rnV (As := [.int 1, .int (nI d)]) (rest := []) hx hb hml hown hE hK (hN _ _ hS) hP hD (k_flaw_0 l D dA H.size h ad (MS.s_too (MS.s_frm (MS.s_kind x 3) d) q) 1 (nI d) hf) (q0 := 0) rfl rfl w431 w430 w432 w433 w328 rfl rfl ⟨⟨by decide, by decide⟩, rfl⟩ ⟨(Nat.le_of_ble_eq_true rfl), (Nat.le_of_ble_eq_true rfl)⟩ rfl hl.1 rfl (Nat.le_of_ble_eq_true rfl) d_M_next_242 ⟨(Nat.le_of_ble_eq_true rfl), (Nat.le_of_ble_eq_true rfl)⟩) hP hD hS hA (fun r9 u10 H locs hp9 hP hD hS => ?_)
      have hP : va_P D vwCl (MW dA h ad (MS.s_too (MS.s_frm (MS.s_kind (MS.s_faultPlace (MS.s_faultCode x 1) (nI d)) 3) d) q)) H := hP
      have hD : va_D A (MW dA h ad (MS.s_too (MS.s_frm (MS.s_kind (MS.s_faultPlace (MS.s_faultCode x 1) (nI d)) 3) d) q)) := hD
      replace hp9 : bI false = r9 := Eq.symm hp9
      subst hp9
      have e9 : (MS.s_too (MS.s_frm (MS.s_kind (MS.s_faultPlace (MS.s_faultCode x 1) (nI d)) 3) d) q : MS) = MS.s_too (MS.s_frm (MS.s_kind (MS.s_faultPlace (MS.s_faultCode x 1) (nI d)) 3) d) b := by rw [show b = q from by (rw [i5])] <;> rfl
      exact rfZ hx hb hr (bI_nar false) hlk hS () rfl (cvP e9 hP) (cvD e9 hD) (Nat.le_of_ble_eq_true rfl) (Nat.le_of_ble_eq_true rfl) d_M_next_245
    refine lv_aload_n hx hb d_M_next_150 rfl (lv_at hl 1 rfl) ?_
    refine lv_dup hx hb d_M_next_151 rfl ?_
    refine gF (v := .int (nI d)) hx hb hown hE hK hP 0 rfl rfl layM 46 (by decide) w463 rfl d_M_next_152 ?_
    refine lv_iconst (v := 1) hx hb d_M_next_155 (by decide) ?_
    refine lv_iadd hx hb d_M_next_156 (tpi (y := nI (d + 1)) (nI_add (d) (1)) ?_)
    refine pF (v := .int (nI (d + 1))) hx hb hown hE hK hP hD hS 0 rfl rfl layM tyM tokM nmM 46 (by decide) w463 rfl rfl rfl (Nat.le_of_ble_eq_true rfl) d_M_next_157 (fun H locs hP hD hS => ?_)
    have hP : va_P D vwCl (MW dA h ad (MS.s_too (MS.s_frm (MS.s_kind x 3) d) (d + 1))) H := hP
    have hD : va_D A (MW dA h ad (MS.s_too (MS.s_frm (MS.s_kind x 3) d) (d + 1))) := hD
    have L160 : ∀ (k9 : Nat) (q : Nat) (i1 : txG x.tape x.length (x.length + 1 - q) q = b) (i2 : q ≤ x.length) (hk9 : x.length + 1 - q = k9), ∀ (H : Heap) (locs : List Loc) (ls : Array Slot) (hP : va_P D vwCl (MW dA h ad (MS.s_too (MS.s_frm (MS.s_kind x 3) d) q)) H) (hD : va_D A (MW dA h ad (MS.s_too (MS.s_frm (MS.s_kind x 3) d) q))) (hS : va_S A s.heap H locs) (hl : lv_has ls 2 [(0, .ref h)]), W p l e ({ frames := 3, cells := 0, slots := 0, locals := 46 } : Room) s m ([.ref h] : List Value).toArray below meth c H locs 0 0 (MQ below (va_Qi (fun (r9 : Int32) (u9 : Unit) => r9 = bI false) (fun (u9 : Unit) t9 => bW D A (MW dA h ad (MS.s_too (MS.s_frm (MS.s_kind (MS.s_faultPlace (MS.s_faultCode x 1) (nI d)) 3) d) b)) t9) A) ([.ref h] : List Value).toArray s 0 0 A) (F0 m 160 ls []) := by
      intro k9
      induction k9 using Nat.strongRecOn with
      | ind k9 ih160 =>
        intro q i1 i2 hk9 H locs ls hP hD hS hl
        refine lv_aload_n hx hb d_M_next_160 rfl (lv_at hl 0 rfl) ?_
        refine gF (v := .int (nI q)) hx hb hown hE hK hP 0 rfl rfl layM 46 (by decide) w463 rfl d_M_next_161 ?_
        refine lv_aload_n hx hb d_M_next_164 rfl (lv_at hl 0 rfl) ?_
        refine gF (v := .int (nI x.length)) hx hb hown hE hK hP 0 rfl rfl layM 2 (by decide) w320 rfl d_M_next_165 ?_
        refine lv_icmp_ge hx hb d_M_next_168 (tgt := 223) rfl (fun g11 => ?_) (fun g11 => ?_)
        · have g11 := (nI_leI (a := x.length) (b := q) (by omega) (by omega)).mp g11
          exact J223 q (i1.symm.trans (txG_n (Or.inl g11))) (by omega) H _ ls hP hD hS (lv_sub hl [0] rfl)
        · have g11 := mt (nI_leI (a := x.length) (b := q) (by omega) (by omega)).mpr g11
          refine lv_aload_n hx hb d_M_next_171 rfl (lv_at hl 0 rfl) ?_
          refine lv_aload_n hx hb d_M_next_172 rfl (lv_at hl 0 rfl) ?_
          refine gF (v := .int (nI q)) hx hb hown hE hK hP 0 rfl rfl layM 46 (by decide) w463 rfl d_M_next_173 ?_
          refine jfI (rnV (As := [.int (nI q)]) (rest := []) hx hb hml hown hE hK (hN _ _ hS) hP hD (k_at l D dA H.size h ad (MS.s_too (MS.s_frm (MS.s_kind x 3) d) q) q (show q < 2 ^ 31 from by omega) (show x.length ≤ 65536 from by omega)) (q0 := 0) rfl rfl w466 w465 w467 w468 w328 rfl rfl ⟨⟨by decide, by decide⟩, rfl⟩ ⟨(Nat.le_of_ble_eq_true rfl), (Nat.le_of_ble_eq_true rfl)⟩ rfl hl.1 rfl (Nat.le_of_ble_eq_true rfl) d_M_next_176 ⟨(Nat.le_of_ble_eq_true rfl), (Nat.le_of_ble_eq_true rfl)⟩) hP hD hS hA (fun r12 u13 H locs hp9 hP hD hS => ?_)
          have hP : va_P D vwCl (MW dA h ad (MS.s_too (MS.s_frm (MS.s_kind x 3) d) q)) H := hP
          have hD : va_D A (MW dA h ad (MS.s_too (MS.s_frm (MS.s_kind x 3) d) q)) := hD
          replace hp9 : x.atN q = r12 := Eq.symm hp9
          subst hp9
          refine lv_bipush (v := 31) hx hb d_M_next_179 (by decide) ?_
          refine lv_icmp_le hx hb d_M_next_181 (tgt := 223) rfl (fun g14 => ?_) (fun g14 => ?_)
          · have g14 := g14
            exact J223 q (i1.symm.trans (txG_n (Or.inr (by show (!decide (x.atN q ≤ 31) && (!decide (127 ≤ x.atN q) && !decide (x.atN q = 34))) = false; rw [decide_eq_true g14]; rfl)))) (by omega) H _ ls hP hD hS (lv_sub hl [0] rfl)
          · have g14 := g14
            refine lv_aload_n hx hb d_M_next_184 rfl (lv_at hl 0 rfl) ?_
            refine lv_aload_n hx hb d_M_next_185 rfl (lv_at hl 0 rfl) ?_
            refine gF (v := .int (nI q)) hx hb hown hE hK hP 0 rfl rfl layM 46 (by decide) w463 rfl d_M_next_186 ?_
            refine jfI (rnV (As := [.int (nI q)]) (rest := []) hx hb hml hown hE hK (hN _ _ hS) hP hD (k_at l D dA H.size h ad (MS.s_too (MS.s_frm (MS.s_kind x 3) d) q) q (show q < 2 ^ 31 from by omega) (show x.length ≤ 65536 from by omega)) (q0 := 0) rfl rfl w466 w465 w467 w468 w328 rfl rfl ⟨⟨by decide, by decide⟩, rfl⟩ ⟨(Nat.le_of_ble_eq_true rfl), (Nat.le_of_ble_eq_true rfl)⟩ rfl hl.1 rfl (Nat.le_of_ble_eq_true rfl) d_M_next_189 ⟨(Nat.le_of_ble_eq_true rfl), (Nat.le_of_ble_eq_true rfl)⟩) hP hD hS hA (fun r15 u16 H locs hp9 hP hD hS => ?_)
            have hP : va_P D vwCl (MW dA h ad (MS.s_too (MS.s_frm (MS.s_kind x 3) d) q)) H := hP
            have hD : va_D A (MW dA h ad (MS.s_too (MS.s_frm (MS.s_kind x 3) d) q)) := hD
            replace hp9 : x.atN q = r15 := Eq.symm hp9
            subst hp9
            refine lv_bipush (v := 127) hx hb d_M_next_192 (by decide) ?_
            refine lv_icmp_ge hx hb d_M_next_194 (tgt := 223) rfl (fun g17 => ?_) (fun g17 => ?_)
            · have g17 := g17
              exact J223 q (i1.symm.trans (txG_n (Or.inr (by show (!decide (x.atN q ≤ 31) && (!decide (127 ≤ x.atN q) && !decide (x.atN q = 34))) = false; rw [decide_eq_false g14, decide_eq_true g17]; rfl)))) (by omega) H _ ls hP hD hS (lv_sub hl [0] rfl)
            · have g17 := g17
              refine lv_aload_n hx hb d_M_next_197 rfl (lv_at hl 0 rfl) ?_
              refine lv_aload_n hx hb d_M_next_198 rfl (lv_at hl 0 rfl) ?_
              refine gF (v := .int (nI q)) hx hb hown hE hK hP 0 rfl rfl layM 46 (by decide) w463 rfl d_M_next_199 ?_
              refine jfI (rnV (As := [.int (nI q)]) (rest := []) hx hb hml hown hE hK (hN _ _ hS) hP hD (k_at l D dA H.size h ad (MS.s_too (MS.s_frm (MS.s_kind x 3) d) q) q (show q < 2 ^ 31 from by omega) (show x.length ≤ 65536 from by omega)) (q0 := 0) rfl rfl w466 w465 w467 w468 w328 rfl rfl ⟨⟨by decide, by decide⟩, rfl⟩ ⟨(Nat.le_of_ble_eq_true rfl), (Nat.le_of_ble_eq_true rfl)⟩ rfl hl.1 rfl (Nat.le_of_ble_eq_true rfl) d_M_next_202 ⟨(Nat.le_of_ble_eq_true rfl), (Nat.le_of_ble_eq_true rfl)⟩) hP hD hS hA (fun r18 u19 H locs hp9 hP hD hS => ?_)
              have hP : va_P D vwCl (MW dA h ad (MS.s_too (MS.s_frm (MS.s_kind x 3) d) q)) H := hP
              have hD : va_D A (MW dA h ad (MS.s_too (MS.s_frm (MS.s_kind x 3) d) q)) := hD
              replace hp9 : x.atN q = r18 := Eq.symm hp9
              subst hp9
              refine lv_bipush (v := 34) hx hb d_M_next_205 (by decide) ?_
              refine lv_icmp_eq hx hb d_M_next_207 (tgt := 223) rfl (fun g20 => ?_) (fun g20 => ?_)
              · have g20 := g20
                exact J223 q (i1.symm.trans (txG_n (Or.inr (by show (!decide (x.atN q ≤ 31) && (!decide (127 ≤ x.atN q) && !decide (x.atN q = 34))) = false; rw [decide_eq_false g14, decide_eq_false g17, decide_eq_true g20]; rfl)))) (by omega) H _ ls hP hD hS (lv_sub hl [0] rfl)
              · have g20 := g20
                refine lv_aload_n hx hb d_M_next_210 rfl (lv_at hl 0 rfl) ?_
                refine lv_dup hx hb d_M_next_211 rfl ?_
                refine gF (v := .int (nI q)) hx hb hown hE hK hP 0 rfl rfl layM 46 (by decide) w463 rfl d_M_next_212 ?_
                refine lv_iconst (v := 1) hx hb d_M_next_215 (by decide) ?_
                refine lv_iadd hx hb d_M_next_216 (tpi (y := nI (q + 1)) (nI_add (q) (1)) ?_)
                refine pF (v := .int (nI (q + 1))) hx hb hown hE hK hP hD hS 0 rfl rfl layM tyM tokM nmM 46 (by decide) w463 rfl rfl rfl (Nat.le_of_ble_eq_true rfl) d_M_next_217 (fun H locs hP hD hS => ?_)
                have hP : va_P D vwCl (MW dA h ad (MS.s_too (MS.s_frm (MS.s_kind x 3) d) (q + 1))) H := hP
                have hD : va_D A (MW dA h ad (MS.s_too (MS.s_frm (MS.s_kind x 3) d) (q + 1))) := hD
                refine lv_goto hx hb d_M_next_220 (tgt := 160) rfl ?_
                exact ih160 _ (by omega) (q + 1) (by rw [← i1, txG_t (w := x.length + 1 - q) (by omega) g11 (by show (!decide (x.atN q ≤ 31) && (!decide (127 ≤ x.atN q) && !decide (x.atN q = 34))) = true; rw [decide_eq_false g14, decide_eq_false g17, decide_eq_false g20]; rfl), show x.length + 1 - q - 1 = x.length + 1 - (q + 1) by omega]) (by omega) rfl H _ ls hP hD hS (lv_sub hl [0] rfl)
    exact L160 _ (d + 1) hg (by omega) rfl H _ ls hP hD hS (lv_sub hl [1] rfl)
  have L0 : ∀ (k9 : Nat) (q : Nat) (i1 : skG x.tape x.length (x.length + 1 - q) q = skG x.tape x.length (x.length + 1 - x.too) x.too) (i2 : q ≤ x.length) (hk9 : x.length + 1 - q = k9), ∀ (H : Heap) (locs : List Loc) (ls : Array Slot) (hP : va_P D vwCl (MW dA h ad (MS.s_too x q)) H) (hD : va_D A (MW dA h ad (MS.s_too x q))) (hS : va_S A s.heap H locs) (hl : lv_has ls 2 [(0, .ref h)]), W p l e ({ frames := 3, cells := 0, slots := 0, locals := 46 } : Room) s m ([.ref h] : List Value).toArray below meth c H locs 0 0 (MQ below (va_Qi (fun (r9 : Int32) (u9 : Unit) => r9 = bI false) (fun (u9 : Unit) t9 => bW D A (MW dA h ad (MS.s_too (MS.s_frm (MS.s_kind (MS.s_faultPlace (MS.s_faultCode x 1) (nI d)) 3) d) b)) t9) A) ([.ref h] : List Value).toArray s 0 0 A) (F0 m 0 ls []) := by
    intro k9
    induction k9 using Nat.strongRecOn with
    | ind k9 ih0 =>
      intro q i1 i2 hk9 H locs ls hP hD hS hl
      refine lv_aload_n hx hb d_M_next_0 rfl (lv_at hl 0 rfl) ?_
      refine gF (v := .int (nI q)) hx hb hown hE hK hP 0 rfl rfl layM 46 (by decide) w463 rfl d_M_next_1 ?_
      refine lv_aload_n hx hb d_M_next_4 rfl (lv_at hl 0 rfl) ?_
      refine gF (v := .int (nI x.length)) hx hb hown hE hK hP 0 rfl rfl layM 2 (by decide) w320 rfl d_M_next_5 ?_
      refine lv_icmp_ge hx hb d_M_next_8 (tgt := 38) rfl (fun g21 => ?_) (fun g21 => ?_)
      · have g21 := (nI_leI (a := x.length) (b := q) (by omega) (by omega)).mp g21
        have e9 : (MS.s_too x q : MS) = MS.s_too x d := by rw [show d = q from (hp.symm.trans (i1.symm.trans (skG_n (Or.inl g21))))] <;> rfl
        exact J38  H _ ls (cvP e9 hP) (cvD e9 hD) hS (lv_sub hl [0] rfl)
      · have g21 := mt (nI_leI (a := x.length) (b := q) (by omega) (by omega)).mpr g21
        refine lv_aload_n hx hb d_M_next_11 rfl (lv_at hl 0 rfl) ?_
        refine gF (v := .ref (ad 1)) hx hb hown hE hK hP 0 rfl rfl layM 1 (by decide) w497 rfl d_M_next_12 ?_
        refine lv_aload_n hx hb d_M_next_15 rfl (lv_at hl 0 rfl) ?_
        refine gF (v := .int (nI q)) hx hb hown hE hK hP 0 rfl rfl layM 46 (by decide) w463 rfl d_M_next_16 ?_
        refine nbld (f := x.tape) hx hb hK hP 1 0 rfl rfl (q) (by omega) (by decide) d_M_next_19 ?_
        refine lv_bipush (v := 32) hx hb d_M_next_20 (by decide) ?_
        refine lv_icmp_ne hx hb d_M_next_22 (tgt := 38) rfl (fun g22 => ?_) (fun g22 => ?_)
        · have g22 := g22
          have e9 : (MS.s_too x q : MS) = MS.s_too x d := by rw [show d = q from (hp.symm.trans (i1.symm.trans (skG_n (Or.inr g22))))] <;> rfl
          exact J38  H _ ls (cvP e9 hP) (cvD e9 hD) hS (lv_sub hl [0] rfl)
        · have g22 := g22
          refine lv_aload_n hx hb d_M_next_25 rfl (lv_at hl 0 rfl) ?_
          refine lv_dup hx hb d_M_next_26 rfl ?_
          refine gF (v := .int (nI q)) hx hb hown hE hK hP 0 rfl rfl layM 46 (by decide) w463 rfl d_M_next_27 ?_
          refine lv_iconst (v := 1) hx hb d_M_next_30 (by decide) ?_
          refine lv_iadd hx hb d_M_next_31 (tpi (y := nI (q + 1)) (nI_add (q) (1)) ?_)
          refine pF (v := .int (nI (q + 1))) hx hb hown hE hK hP hD hS 0 rfl rfl layM tyM tokM nmM 46 (by decide) w463 rfl rfl rfl (Nat.le_of_ble_eq_true rfl) d_M_next_32 (fun H locs hP hD hS => ?_)
          have hP : va_P D vwCl (MW dA h ad (MS.s_too x (q + 1))) H := hP
          have hD : va_D A (MW dA h ad (MS.s_too x (q + 1))) := hD
          refine lv_goto hx hb d_M_next_35 (tgt := 0) rfl ?_
          exact ih0 _ (by omega) (q + 1) (by rw [← i1, skG_t (w := x.length + 1 - q) (by omega) g21 g22, show x.length + 1 - q - 1 = x.length + 1 - (q + 1) by omega]) (by omega) rfl H _ ls hP hD hS (lv_sub hl [0] rfl)
  exact L0 _ x.too rfl ht rfl H _ ls hP hD hS (lv_sub hl [0] rfl)
theorem d_M_next_259 : decode prog_14_method_57_code 259 = .ok (.aload_n 0, 1) := by decide +kernel
theorem d_M_next_260 : decode prog_14_method_57_code 260 = .ok (.iload_n 1, 1) := by decide +kernel
theorem d_M_next_261 : decode prog_14_method_57_code 261 = .ok (.aload_n 0, 1) := by decide +kernel
theorem d_M_next_262 : decode prog_14_method_57_code 262 = .ok (.aload_n 0, 1) := by decide +kernel
theorem d_M_next_263 : decode prog_14_method_57_code 263 = .ok (.getfield 345, 3) := by decide +kernel
theorem d_M_next_266 : decode prog_14_method_57_code 266 = .ok (.iconst 1, 1) := by decide +kernel
theorem d_M_next_267 : decode prog_14_method_57_code 267 = .ok (.iadd, 1) := by decide +kernel
theorem d_M_next_268 : decode prog_14_method_57_code 268 = .ok (.invokevirtual 348, 3) := by decide +kernel
theorem d_M_next_271 : decode prog_14_method_57_code 271 = .ok (.invokevirtual 363, 3) := by decide +kernel
theorem d_M_next_274 : decode prog_14_method_57_code 274 = .ok (.ireturn, 1) := by decide +kernel
theorem w966 : Cond.methodLink "SeriesVaultModel" 363 ⟨"SeriesVaultModel", "readSign", "(II)Z"⟩ ∈ aW := aw_of (tb_10 (List.mem_of_getElem? (i := 177) rfl)) rfl
theorem w967 : Cond.code ⟨"SeriesVaultModel", "readSign", "(II)Z"⟩ prog_14_method_59_code 5 (some FieldType.boolean) ∈ aW := aw_of (tb_10 (List.mem_of_getElem? (i := 180) rfl)) rfl
theorem w968 : Cond.instanceMethod ⟨"SeriesVaultModel", "readSign", "(II)Z"⟩ ∈ aW := aw_of (tb_10 (List.mem_of_getElem? (i := 179) rfl)) rfl
theorem w969 : Cond.selects "SeriesVaultModel" ⟨"SeriesVaultModel", "readSign", "(II)Z"⟩ ⟨"SeriesVaultModel", "readSign", "(II)Z"⟩ ∈ aW := aw_pr (List.mem_map.mpr ⟨_, pv_7 (List.mem_of_getElem? (i := 2) rfl), rfl⟩) rfl
set_option maxHeartbeats 4000000 in
set_option maxRecDepth 100000 in
theorem k_next_sx (l : Launch) (D : va_G) (dA : Nat → ClassId) (sz : Nat) (h : Nat) (ad : Nat → Nat) (x : MS) (d : Nat) (hl1 : x.length ≤ 65536) (ht : x.too ≤ x.length) (hp : skG x.tape x.length (x.length + 1 - x.too) x.too = d) (hk : d < x.length) (hdg : isDg (x.atN d) = false) (hlt : isLt (x.atN d) = false) (htq : ¬ x.atN d = 34) (h0 : sgTwo (x.atN d) (x.atN (d + 1)) = 0) (h1 : sgOne (x.atN d) = false) (hf : x.faultCode = 0) : Met l ⟨"SeriesVaultModel", "next", "()Z"⟩ [Cond.code ⟨"SeriesVaultModel", "next", "()Z"⟩ prog_14_method_57_code 2 (some FieldType.boolean)] { frames := 3, cells := 0, slots := 0, locals := 46 } (pC D dA [.ref h] (MW dA h ad x) sz) (va_Qi (fun (r9 : Int32) (u9 : Unit) => r9 = bI false) (fun (u9 : Unit) t9 => bW D (va_A (MW dA h ad x) sz) (MW dA h ad (MS.s_too (MS.s_frm (MS.s_faultPlace (MS.s_faultCode x 1) (nI d)) d) d)) t9) (va_A (MW dA h ad x) sz)) 0 0 (va_A (MW dA h ad x) sz) := by
  refine mkC (y := ⟨"SeriesVaultModel", "next", "()Z"⟩) (cc := prog_14_method_57_code) (maxL := 2) (av := [.ref h]) (ws := MW dA h ad x) (sz := sz) (Qc := fun A => va_Qi (fun (r9 : Int32) (u9 : Unit) => r9 = bI false) (fun (u9 : Unit) t9 => bW D A (MW dA h ad (MS.s_too (MS.s_frm (MS.s_faultPlace (MS.s_faultCode x 1) (nI d)) d) d)) t9) A) (by decide) (Nat.le_of_ble_eq_true rfl) ?_
  intro A p e s m below meth c ls hsz hB
  obtain ⟨hx, hb, hr, hml, hown, hin, hlk, hE, hK, hP, hD, hS, hA, hN, hl⟩ := hB
  have hown : s.vm.findClass "SeriesVaultModel" = some m.cls := hown
  have hl : lv_has ls 2 [(0, .ref h)] := hl
  obtain ⟨H, hH⟩ : ∃ z, z = s.heap := ⟨_, rfl⟩
  have hP : va_P D vwCl (MW dA h ad x) H := by rw [hH]; exact hP
  have hS : va_S A s.heap H [] := by rw [hH]; exact hS
  rw [← hH]
  have J38 : ∀ (H : Heap) (locs : List Loc) (ls : Array Slot) (hP : va_P D vwCl (MW dA h ad (MS.s_too x d)) H) (hD : va_D A (MW dA h ad (MS.s_too x d))) (hS : va_S A s.heap H locs) (hl : lv_has ls 2 [(0, .ref h)]), W p l e ({ frames := 3, cells := 0, slots := 0, locals := 46 } : Room) s m ([.ref h] : List Value).toArray below meth c H locs 0 0 (MQ below (va_Qi (fun (r9 : Int32) (u9 : Unit) => r9 = bI false) (fun (u9 : Unit) t9 => bW D A (MW dA h ad (MS.s_too (MS.s_frm (MS.s_faultPlace (MS.s_faultCode x 1) (nI d)) d) d)) t9) A) ([.ref h] : List Value).toArray s 0 0 A) (F0 m 38 ls []) := by
    intro  H locs ls hP hD hS hl
    have d1 : d ≤ x.length := by rw [← hp]; exact skG_le ht
    refine lv_aload_n hx hb d_M_next_38 rfl (lv_at hl 0 rfl) ?_
    refine lv_aload_n hx hb d_M_next_39 rfl (lv_at hl 0 rfl) ?_
    refine gF (v := .int (nI d)) hx hb hown hE hK hP 0 rfl rfl layM 46 (by decide) w463 rfl d_M_next_40 ?_
    refine pF (v := .int (nI d)) hx hb hown hE hK hP hD hS 0 rfl rfl layM tyM tokM nmM 45 (by decide) w464 rfl rfl rfl (Nat.le_of_ble_eq_true rfl) d_M_next_43 (fun H locs hP hD hS => ?_)
    have hP : va_P D vwCl (MW dA h ad (MS.s_too (MS.s_frm x d) d)) H := hP
    have hD : va_D A (MW dA h ad (MS.s_too (MS.s_frm x d) d)) := hD
    refine lv_aload_n hx hb d_M_next_46 rfl (lv_at hl 0 rfl) ?_
    refine lv_aload_n hx hb d_M_next_47 rfl (lv_at hl 0 rfl) ?_
    refine gF (v := .int (nI d)) hx hb hown hE hK hP 0 rfl rfl layM 45 (by decide) w464 rfl d_M_next_48 ?_
    refine jfI (rnV (As := [.int (nI d)]) (rest := []) hx hb hml hown hE hK (hN _ _ hS) hP hD (k_at l D dA H.size h ad (MS.s_too (MS.s_frm x d) d) d (show d < 2 ^ 31 from by omega) (show x.length ≤ 65536 from by omega)) (q0 := 0) rfl rfl w466 w465 w467 w468 w328 rfl rfl ⟨⟨by decide, by decide⟩, rfl⟩ ⟨(Nat.le_of_ble_eq_true rfl), (Nat.le_of_ble_eq_true rfl)⟩ rfl hl.1 rfl (Nat.le_of_ble_eq_true rfl) d_M_next_51 ⟨(Nat.le_of_ble_eq_true rfl), (Nat.le_of_ble_eq_true rfl)⟩) hP hD hS hA (fun r1 u2 H locs hp9 hP hD hS => ?_)
    have hP : va_P D vwCl (MW dA h ad (MS.s_too (MS.s_frm x d) d)) H := hP
    have hD : va_D A (MW dA h ad (MS.s_too (MS.s_frm x d) d)) := hD
    replace hp9 : x.atN d = r1 := Eq.symm hp9
    subst hp9
    refine lv_istore_n hx hb d_M_next_54 rfl hl (by decide) rfl (fun ls hl => ?_)
    have hl : lv_has ls 2 [(1, .int (x.atN d)), (0, .ref h)] := hl
    refine lv_aload_n hx hb d_M_next_55 rfl (lv_at hl 1 rfl) ?_
    refine gF (v := .int (nI d)) hx hb hown hE hK hP 0 rfl rfl layM 45 (by decide) w464 rfl d_M_next_56 ?_
    refine lv_aload_n hx hb d_M_next_59 rfl (lv_at hl 1 rfl) ?_
    refine gF (v := .int (nI x.length)) hx hb hown hE hK hP 0 rfl rfl layM 2 (by decide) w320 rfl d_M_next_60 ?_
    refine lv_icmp_lt hx hb d_M_next_63 (tgt := 74) rfl (fun _ => ?_) (fun h9 => absurd ((nI_ltI (a := d) (b := x.length) (by omega) (by omega)).mpr hk) h9)
    refine lv_iload_n hx hb d_M_next_74 rfl (lv_at hl 0 rfl) ?_
    have hPc := hP.sub (ws' := []) [] rfl
    have hDc := hD.sub (ws' := []) [] (by decide) rfl
    refine jnI (rnS (As := [.int (x.atN d)]) (rest := []) hx hb hml hown hE hK (hN _ _ hS) hPc hDc (k_isDigit l D dA H.size (x.atN d)) w955 w954 w956 w328 rfl rfl ⟨⟨by decide, by decide⟩, rfl⟩ ⟨(Nat.le_of_ble_eq_true rfl), (Nat.le_of_ble_eq_true rfl)⟩ rfl hl.1 rfl (Nat.le_of_ble_eq_true rfl) d_M_next_75 ⟨(Nat.le_of_ble_eq_true rfl), (Nat.le_of_ble_eq_true rfl)⟩) hP hD hS hA [] [0, 1, 2, 3, 4, 5, 6, 7, 8, 9, 10, 11, 12, 13, 14, 15, 16, 17, 18, 19, 20, 21, 22, 23, 24, 25, 26, 27, 28, 29, 30, 31, 32, 33, 34, 35, 36, 37, 38] (wr := MW dA h ad (MS.s_too (MS.s_frm x d) d)) rfl rfl (by decide) (by decide) (fun r3 u9 H locs hp9 hP hD hS => ?_)
    have hP : va_P D vwCl (MW dA h ad (MS.s_too (MS.s_frm x d) d)) H := hP
    have hD : va_D A (MW dA h ad (MS.s_too (MS.s_frm x d) d)) := hD
    replace hp9 : bI (isDg (x.atN d)) = r3 := Eq.symm hp9
    subst hp9
    refine lv_if_eq hx hb d_M_next_78 (tgt := 86) rfl (fun _ => ?_) (fun h9 => absurd (by rw [hdg]; decide) h9)
    refine lv_iload_n hx hb d_M_next_86 rfl (lv_at hl 0 rfl) ?_
    have hPc := hP.sub (ws' := []) [] rfl
    have hDc := hD.sub (ws' := []) [] (by decide) rfl
    refine jnI (rnS (As := [.int (x.atN d)]) (rest := []) hx hb hml hown hE hK (hN _ _ hS) hPc hDc (k_isLetter l D dA H.size (x.atN d)) w964 w963 w965 w328 rfl rfl ⟨⟨by decide, by decide⟩, rfl⟩ ⟨(Nat.le_of_ble_eq_true rfl), (Nat.le_of_ble_eq_true rfl)⟩ rfl hl.1 rfl (Nat.le_of_ble_eq_true rfl) d_M_next_87 ⟨(Nat.le_of_ble_eq_true rfl), (Nat.le_of_ble_eq_true rfl)⟩) hP hD hS hA [] [0, 1, 2, 3, 4, 5, 6, 7, 8, 9, 10, 11, 12, 13, 14, 15, 16, 17, 18, 19, 20, 21, 22, 23, 24, 25, 26, 27, 28, 29, 30, 31, 32, 33, 34, 35, 36, 37, 38] (wr := MW dA h ad (MS.s_too (MS.s_frm x d) d)) rfl rfl (by decide) (by decide) (fun r5 u9 H locs hp9 hP hD hS => ?_)
    have hP : va_P D vwCl (MW dA h ad (MS.s_too (MS.s_frm x d) d)) H := hP
    have hD : va_D A (MW dA h ad (MS.s_too (MS.s_frm x d) d)) := hD
    replace hp9 : bI (isLt (x.atN d)) = r5 := Eq.symm hp9
    subst hp9
    refine lv_if_eq hx hb d_M_next_90 (tgt := 139) rfl (fun _ => ?_) (fun h9 => absurd (by rw [hlt]; decide) h9)
    refine lv_iload_n hx hb d_M_next_139 rfl (lv_at hl 0 rfl) ?_
    refine lv_bipush (v := 34) hx hb d_M_next_140 (by decide) ?_
    refine lv_icmp_ne hx hb d_M_next_142 (tgt := 259) rfl (fun _ => ?_) (fun h9 => absurd h9 htq)
    refine lv_aload_n hx hb d_M_next_259 rfl (lv_at hl 1 rfl) ?_
    refine lv_iload_n hx hb d_M_next_260 rfl (lv_at hl 0 rfl) ?_
    refine lv_aload_n hx hb d_M_next_261 rfl (lv_at hl 1 rfl) ?_
    refine lv_aload_n hx hb d_M_next_262 rfl (lv_at hl 1 rfl) ?_
    refine gF (v := .int (nI d)) hx hb hown hE hK hP 0 rfl rfl layM 45 (by decide) w464 rfl d_M_next_263 ?_
    refine lv_iconst (v := 1) hx hb d_M_next_266 (by decide) ?_
    refine lv_iadd hx hb d_M_next_267 (tpi (y := nI (d + 1)) (nI_add (d) (1)) ?_)
    refine jfI (rnV (As := [.int (nI (d + 1))]) (rest := [.int (x.atN d), .ref h]) hx hb hml hown hE hK (hN _ _ hS) hP hD (k_at l D dA H.size h ad (MS.s_too (MS.s_frm x d) d) (d + 1) (show (d + 1) < 2 ^ 31 from by omega) (show x.length ≤ 65536 from by omega)) (q0 := 0) rfl rfl w466 w465 w467 w468 w328 rfl rfl ⟨⟨by decide, by decide⟩, rfl⟩ ⟨(Nat.le_of_ble_eq_true rfl), (Nat.le_of_ble_eq_true rfl)⟩ rfl hl.1 rfl (Nat.le_of_ble_eq_true rfl) d_M_next_268 ⟨(Nat.le_of_ble_eq_true rfl), (Nat.le_of_ble_eq_true rfl)⟩) hP hD hS hA (fun r7 u8 H locs hp9 hP hD hS => ?_)
    have hP : va_P D vwCl (MW dA h ad (MS.s_too (MS.s_frm x d) d)) H := hP
    have hD : va_D A (MW dA h ad (MS.s_too (MS.s_frm x d) d)) := hD
    replace hp9 : x.atN (d + 1) = r7 := Eq.symm hp9
    subst hp9
    refine jfI (rnV (As := [.int (x.atN d), .int (x.atN (d + 1))]) (rest := []) hx hb hml hown hE hK (hN _ _ hS) hP hD (k_readSign_x l D dA H.size h ad (MS.s_too (MS.s_frm x d) d) (x.atN d) (x.atN (d + 1)) h0 h1 hf) (q0 := 0) rfl rfl w967 w966 w968 w969 w328 rfl rfl ⟨⟨by decide, by decide⟩, rfl⟩ ⟨(Nat.le_of_ble_eq_true rfl), (Nat.le_of_ble_eq_true rfl)⟩ rfl hl.1 rfl (Nat.le_of_ble_eq_true rfl) d_M_next_271 ⟨(Nat.le_of_ble_eq_true rfl), (Nat.le_of_ble_eq_true rfl)⟩) hP hD hS hA (fun r9 u10 H locs hp9 hP hD hS => ?_)
    have hP : va_P D vwCl (MW dA h ad (MS.s_too (MS.s_frm (MS.s_faultPlace (MS.s_faultCode x 1) (nI d)) d) d)) H := hP
    have hD : va_D A (MW dA h ad (MS.s_too (MS.s_frm (MS.s_faultPlace (MS.s_faultCode x 1) (nI d)) d) d)) := hD
    replace hp9 : bI false = r9 := Eq.symm hp9
    subst hp9
    exact rfZ hx hb hr (bI_nar false) hlk hS () rfl hP hD (Nat.le_of_ble_eq_true rfl) (Nat.le_of_ble_eq_true rfl) d_M_next_274
  have L0 : ∀ (k9 : Nat) (q : Nat) (i1 : skG x.tape x.length (x.length + 1 - q) q = skG x.tape x.length (x.length + 1 - x.too) x.too) (i2 : q ≤ x.length) (hk9 : x.length + 1 - q = k9), ∀ (H : Heap) (locs : List Loc) (ls : Array Slot) (hP : va_P D vwCl (MW dA h ad (MS.s_too x q)) H) (hD : va_D A (MW dA h ad (MS.s_too x q))) (hS : va_S A s.heap H locs) (hl : lv_has ls 2 [(0, .ref h)]), W p l e ({ frames := 3, cells := 0, slots := 0, locals := 46 } : Room) s m ([.ref h] : List Value).toArray below meth c H locs 0 0 (MQ below (va_Qi (fun (r9 : Int32) (u9 : Unit) => r9 = bI false) (fun (u9 : Unit) t9 => bW D A (MW dA h ad (MS.s_too (MS.s_frm (MS.s_faultPlace (MS.s_faultCode x 1) (nI d)) d) d)) t9) A) ([.ref h] : List Value).toArray s 0 0 A) (F0 m 0 ls []) := by
    intro k9
    induction k9 using Nat.strongRecOn with
    | ind k9 ih0 =>
      intro q i1 i2 hk9 H locs ls hP hD hS hl
      refine lv_aload_n hx hb d_M_next_0 rfl (lv_at hl 0 rfl) ?_
      refine gF (v := .int (nI q)) hx hb hown hE hK hP 0 rfl rfl layM 46 (by decide) w463 rfl d_M_next_1 ?_
      refine lv_aload_n hx hb d_M_next_4 rfl (lv_at hl 0 rfl) ?_
      refine gF (v := .int (nI x.length)) hx hb hown hE hK hP 0 rfl rfl layM 2 (by decide) w320 rfl d_M_next_5 ?_
      refine lv_icmp_ge hx hb d_M_next_8 (tgt := 38) rfl (fun g11 => ?_) (fun g11 => ?_)
      · have g11 := (nI_leI (a := x.length) (b := q) (by omega) (by omega)).mp g11
        have e9 : (MS.s_too x q : MS) = MS.s_too x d := by rw [show d = q from (hp.symm.trans (i1.symm.trans (skG_n (Or.inl g11))))] <;> rfl
        exact J38  H _ ls (cvP e9 hP) (cvD e9 hD) hS (lv_sub hl [0] rfl)
      · have g11 := mt (nI_leI (a := x.length) (b := q) (by omega) (by omega)).mpr g11
        refine lv_aload_n hx hb d_M_next_11 rfl (lv_at hl 0 rfl) ?_
        refine gF (v := .ref (ad 1)) hx hb hown hE hK hP 0 rfl rfl layM 1 (by decide) w497 rfl d_M_next_12 ?_
        refine lv_aload_n hx hb d_M_next_15 rfl (lv_at hl 0 rfl) ?_
        refine gF (v := .int (nI q)) hx hb hown hE hK hP 0 rfl rfl layM 46 (by decide) w463 rfl d_M_next_16 ?_
        refine nbld (f := x.tape) hx hb hK hP 1 0 rfl rfl (q) (by omega) (by decide) d_M_next_19 ?_
        refine lv_bipush (v := 32) hx hb d_M_next_20 (by decide) ?_
        refine lv_icmp_ne hx hb d_M_next_22 (tgt := 38) rfl (fun g12 => ?_) (fun g12 => ?_)
        · have g12 := g12
          have e9 : (MS.s_too x q : MS) = MS.s_too x d := by rw [show d = q from (hp.symm.trans (i1.symm.trans (skG_n (Or.inr g12))))] <;> rfl
          exact J38  H _ ls (cvP e9 hP) (cvD e9 hD) hS (lv_sub hl [0] rfl)
        · have g12 := g12
          refine lv_aload_n hx hb d_M_next_25 rfl (lv_at hl 0 rfl) ?_
          refine lv_dup hx hb d_M_next_26 rfl ?_
          refine gF (v := .int (nI q)) hx hb hown hE hK hP 0 rfl rfl layM 46 (by decide) w463 rfl d_M_next_27 ?_
          refine lv_iconst (v := 1) hx hb d_M_next_30 (by decide) ?_
          refine lv_iadd hx hb d_M_next_31 (tpi (y := nI (q + 1)) (nI_add (q) (1)) ?_)
          refine pF (v := .int (nI (q + 1))) hx hb hown hE hK hP hD hS 0 rfl rfl layM tyM tokM nmM 46 (by decide) w463 rfl rfl rfl (Nat.le_of_ble_eq_true rfl) d_M_next_32 (fun H locs hP hD hS => ?_)
          have hP : va_P D vwCl (MW dA h ad (MS.s_too x (q + 1))) H := hP
          have hD : va_D A (MW dA h ad (MS.s_too x (q + 1))) := hD
          refine lv_goto hx hb d_M_next_35 (tgt := 0) rfl ?_
          exact ih0 _ (by omega) (q + 1) (by rw [← i1, skG_t (w := x.length + 1 - q) (by omega) g11 g12, show x.length + 1 - q - 1 = x.length + 1 - (q + 1) by omega]) (by omega) rfl H _ ls hP hD hS (lv_sub hl [0] rfl)
  exact L0 _ x.too rfl ht rfl H _ ls hP hD hS (lv_sub hl [0] rfl)
set_option maxHeartbeats 4000000 in
set_option maxRecDepth 100000 in
theorem k_next_s1 (l : Launch) (D : va_G) (dA : Nat → ClassId) (sz : Nat) (h : Nat) (ad : Nat → Nat) (x : MS) (d : Nat) (hl1 : x.length ≤ 65536) (ht : x.too ≤ x.length) (hp : skG x.tape x.length (x.length + 1 - x.too) x.too = d) (hk : d < x.length) (hdg : isDg (x.atN d) = false) (hlt : isLt (x.atN d) = false) (htq : ¬ x.atN d = 34) (h0 : sgTwo (x.atN d) (x.atN (d + 1)) = 0) (h1 : sgOne (x.atN d) = true) : Met l ⟨"SeriesVaultModel", "next", "()Z"⟩ [Cond.code ⟨"SeriesVaultModel", "next", "()Z"⟩ prog_14_method_57_code 2 (some FieldType.boolean)] { frames := 3, cells := 0, slots := 0, locals := 46 } (pC D dA [.ref h] (MW dA h ad x) sz) (va_Qi (fun (r9 : Int32) (u9 : Unit) => r9 = bI true) (fun (u9 : Unit) t9 => bW D (va_A (MW dA h ad x) sz) (MW dA h ad (MS.s_too (MS.s_frm (MS.s_kind x (x.atN d)) d) (d + 1))) t9) (va_A (MW dA h ad x) sz)) 0 0 (va_A (MW dA h ad x) sz) := by
  refine mkC (y := ⟨"SeriesVaultModel", "next", "()Z"⟩) (cc := prog_14_method_57_code) (maxL := 2) (av := [.ref h]) (ws := MW dA h ad x) (sz := sz) (Qc := fun A => va_Qi (fun (r9 : Int32) (u9 : Unit) => r9 = bI true) (fun (u9 : Unit) t9 => bW D A (MW dA h ad (MS.s_too (MS.s_frm (MS.s_kind x (x.atN d)) d) (d + 1))) t9) A) (by decide) (Nat.le_of_ble_eq_true rfl) ?_
  intro A p e s m below meth c ls hsz hB
  obtain ⟨hx, hb, hr, hml, hown, hin, hlk, hE, hK, hP, hD, hS, hA, hN, hl⟩ := hB
  have hown : s.vm.findClass "SeriesVaultModel" = some m.cls := hown
  have hl : lv_has ls 2 [(0, .ref h)] := hl
  obtain ⟨H, hH⟩ : ∃ z, z = s.heap := ⟨_, rfl⟩
  have hP : va_P D vwCl (MW dA h ad x) H := by rw [hH]; exact hP
  have hS : va_S A s.heap H [] := by rw [hH]; exact hS
  rw [← hH]
  have J38 : ∀ (H : Heap) (locs : List Loc) (ls : Array Slot) (hP : va_P D vwCl (MW dA h ad (MS.s_too x d)) H) (hD : va_D A (MW dA h ad (MS.s_too x d))) (hS : va_S A s.heap H locs) (hl : lv_has ls 2 [(0, .ref h)]), W p l e ({ frames := 3, cells := 0, slots := 0, locals := 46 } : Room) s m ([.ref h] : List Value).toArray below meth c H locs 0 0 (MQ below (va_Qi (fun (r9 : Int32) (u9 : Unit) => r9 = bI true) (fun (u9 : Unit) t9 => bW D A (MW dA h ad (MS.s_too (MS.s_frm (MS.s_kind x (x.atN d)) d) (d + 1))) t9) A) ([.ref h] : List Value).toArray s 0 0 A) (F0 m 38 ls []) := by
    intro  H locs ls hP hD hS hl
    have d1 : d ≤ x.length := by rw [← hp]; exact skG_le ht
    refine lv_aload_n hx hb d_M_next_38 rfl (lv_at hl 0 rfl) ?_
    refine lv_aload_n hx hb d_M_next_39 rfl (lv_at hl 0 rfl) ?_
    refine gF (v := .int (nI d)) hx hb hown hE hK hP 0 rfl rfl layM 46 (by decide) w463 rfl d_M_next_40 ?_
    refine pF (v := .int (nI d)) hx hb hown hE hK hP hD hS 0 rfl rfl layM tyM tokM nmM 45 (by decide) w464 rfl rfl rfl (Nat.le_of_ble_eq_true rfl) d_M_next_43 (fun H locs hP hD hS => ?_)
    have hP : va_P D vwCl (MW dA h ad (MS.s_too (MS.s_frm x d) d)) H := hP
    have hD : va_D A (MW dA h ad (MS.s_too (MS.s_frm x d) d)) := hD
    refine lv_aload_n hx hb d_M_next_46 rfl (lv_at hl 0 rfl) ?_
    refine lv_aload_n hx hb d_M_next_47 rfl (lv_at hl 0 rfl) ?_
    refine gF (v := .int (nI d)) hx hb hown hE hK hP 0 rfl rfl layM 45 (by decide) w464 rfl d_M_next_48 ?_
    refine jfI (rnV (As := [.int (nI d)]) (rest := []) hx hb hml hown hE hK (hN _ _ hS) hP hD (k_at l D dA H.size h ad (MS.s_too (MS.s_frm x d) d) d (show d < 2 ^ 31 from by omega) (show x.length ≤ 65536 from by omega)) (q0 := 0) rfl rfl w466 w465 w467 w468 w328 rfl rfl ⟨⟨by decide, by decide⟩, rfl⟩ ⟨(Nat.le_of_ble_eq_true rfl), (Nat.le_of_ble_eq_true rfl)⟩ rfl hl.1 rfl (Nat.le_of_ble_eq_true rfl) d_M_next_51 ⟨(Nat.le_of_ble_eq_true rfl), (Nat.le_of_ble_eq_true rfl)⟩) hP hD hS hA (fun r1 u2 H locs hp9 hP hD hS => ?_)
    have hP : va_P D vwCl (MW dA h ad (MS.s_too (MS.s_frm x d) d)) H := hP
    have hD : va_D A (MW dA h ad (MS.s_too (MS.s_frm x d) d)) := hD
    replace hp9 : x.atN d = r1 := Eq.symm hp9
    subst hp9
    refine lv_istore_n hx hb d_M_next_54 rfl hl (by decide) rfl (fun ls hl => ?_)
    have hl : lv_has ls 2 [(1, .int (x.atN d)), (0, .ref h)] := hl
    refine lv_aload_n hx hb d_M_next_55 rfl (lv_at hl 1 rfl) ?_
    refine gF (v := .int (nI d)) hx hb hown hE hK hP 0 rfl rfl layM 45 (by decide) w464 rfl d_M_next_56 ?_
    refine lv_aload_n hx hb d_M_next_59 rfl (lv_at hl 1 rfl) ?_
    refine gF (v := .int (nI x.length)) hx hb hown hE hK hP 0 rfl rfl layM 2 (by decide) w320 rfl d_M_next_60 ?_
    refine lv_icmp_lt hx hb d_M_next_63 (tgt := 74) rfl (fun _ => ?_) (fun h9 => absurd ((nI_ltI (a := d) (b := x.length) (by omega) (by omega)).mpr hk) h9)
    refine lv_iload_n hx hb d_M_next_74 rfl (lv_at hl 0 rfl) ?_
    have hPc := hP.sub (ws' := []) [] rfl
    have hDc := hD.sub (ws' := []) [] (by decide) rfl
    refine jnI (rnS (As := [.int (x.atN d)]) (rest := []) hx hb hml hown hE hK (hN _ _ hS) hPc hDc (k_isDigit l D dA H.size (x.atN d)) w955 w954 w956 w328 rfl rfl ⟨⟨by decide, by decide⟩, rfl⟩ ⟨(Nat.le_of_ble_eq_true rfl), (Nat.le_of_ble_eq_true rfl)⟩ rfl hl.1 rfl (Nat.le_of_ble_eq_true rfl) d_M_next_75 ⟨(Nat.le_of_ble_eq_true rfl), (Nat.le_of_ble_eq_true rfl)⟩) hP hD hS hA [] [0, 1, 2, 3, 4, 5, 6, 7, 8, 9, 10, 11, 12, 13, 14, 15, 16, 17, 18, 19, 20, 21, 22, 23, 24, 25, 26, 27, 28, 29, 30, 31, 32, 33, 34, 35, 36, 37, 38] (wr := MW dA h ad (MS.s_too (MS.s_frm x d) d)) rfl rfl (by decide) (by decide) (fun r3 u9 H locs hp9 hP hD hS => ?_)
    have hP : va_P D vwCl (MW dA h ad (MS.s_too (MS.s_frm x d) d)) H := hP
    have hD : va_D A (MW dA h ad (MS.s_too (MS.s_frm x d) d)) := hD
    replace hp9 : bI (isDg (x.atN d)) = r3 := Eq.symm hp9
    subst hp9
    refine lv_if_eq hx hb d_M_next_78 (tgt := 86) rfl (fun _ => ?_) (fun h9 => absurd (by rw [hdg]; decide) h9)
    refine lv_iload_n hx hb d_M_next_86 rfl (lv_at hl 0 rfl) ?_
    have hPc := hP.sub (ws' := []) [] rfl
    have hDc := hD.sub (ws' := []) [] (by decide) rfl
    refine jnI (rnS (As := [.int (x.atN d)]) (rest := []) hx hb hml hown hE hK (hN _ _ hS) hPc hDc (k_isLetter l D dA H.size (x.atN d)) w964 w963 w965 w328 rfl rfl ⟨⟨by decide, by decide⟩, rfl⟩ ⟨(Nat.le_of_ble_eq_true rfl), (Nat.le_of_ble_eq_true rfl)⟩ rfl hl.1 rfl (Nat.le_of_ble_eq_true rfl) d_M_next_87 ⟨(Nat.le_of_ble_eq_true rfl), (Nat.le_of_ble_eq_true rfl)⟩) hP hD hS hA [] [0, 1, 2, 3, 4, 5, 6, 7, 8, 9, 10, 11, 12, 13, 14, 15, 16, 17, 18, 19, 20, 21, 22, 23, 24, 25, 26, 27, 28, 29, 30, 31, 32, 33, 34, 35, 36, 37, 38] (wr := MW dA h ad (MS.s_too (MS.s_frm x d) d)) rfl rfl (by decide) (by decide) (fun r5 u9 H locs hp9 hP hD hS => ?_)
    have hP : va_P D vwCl (MW dA h ad (MS.s_too (MS.s_frm x d) d)) H := hP
    have hD : va_D A (MW dA h ad (MS.s_too (MS.s_frm x d) d)) := hD
    replace hp9 : bI (isLt (x.atN d)) = r5 := Eq.symm hp9
    subst hp9
    refine lv_if_eq hx hb d_M_next_90 (tgt := 139) rfl (fun _ => ?_) (fun h9 => absurd (by rw [hlt]; decide) h9)
    refine lv_iload_n hx hb d_M_next_139 rfl (lv_at hl 0 rfl) ?_
    refine lv_bipush (v := 34) hx hb d_M_next_140 (by decide) ?_
    refine lv_icmp_ne hx hb d_M_next_142 (tgt := 259) rfl (fun _ => ?_) (fun h9 => absurd h9 htq)
    refine lv_aload_n hx hb d_M_next_259 rfl (lv_at hl 1 rfl) ?_
    refine lv_iload_n hx hb d_M_next_260 rfl (lv_at hl 0 rfl) ?_
    refine lv_aload_n hx hb d_M_next_261 rfl (lv_at hl 1 rfl) ?_
    refine lv_aload_n hx hb d_M_next_262 rfl (lv_at hl 1 rfl) ?_
    refine gF (v := .int (nI d)) hx hb hown hE hK hP 0 rfl rfl layM 45 (by decide) w464 rfl d_M_next_263 ?_
    refine lv_iconst (v := 1) hx hb d_M_next_266 (by decide) ?_
    refine lv_iadd hx hb d_M_next_267 (tpi (y := nI (d + 1)) (nI_add (d) (1)) ?_)
    refine jfI (rnV (As := [.int (nI (d + 1))]) (rest := [.int (x.atN d), .ref h]) hx hb hml hown hE hK (hN _ _ hS) hP hD (k_at l D dA H.size h ad (MS.s_too (MS.s_frm x d) d) (d + 1) (show (d + 1) < 2 ^ 31 from by omega) (show x.length ≤ 65536 from by omega)) (q0 := 0) rfl rfl w466 w465 w467 w468 w328 rfl rfl ⟨⟨by decide, by decide⟩, rfl⟩ ⟨(Nat.le_of_ble_eq_true rfl), (Nat.le_of_ble_eq_true rfl)⟩ rfl hl.1 rfl (Nat.le_of_ble_eq_true rfl) d_M_next_268 ⟨(Nat.le_of_ble_eq_true rfl), (Nat.le_of_ble_eq_true rfl)⟩) hP hD hS hA (fun r7 u8 H locs hp9 hP hD hS => ?_)
    have hP : va_P D vwCl (MW dA h ad (MS.s_too (MS.s_frm x d) d)) H := hP
    have hD : va_D A (MW dA h ad (MS.s_too (MS.s_frm x d) d)) := hD
    replace hp9 : x.atN (d + 1) = r7 := Eq.symm hp9
    subst hp9
    refine jfI (rnV (As := [.int (x.atN d), .int (x.atN (d + 1))]) (rest := []) hx hb hml hown hE hK (hN _ _ hS) hP hD (k_readSign_1 l D dA H.size h ad (MS.s_too (MS.s_frm x d) d) (x.atN d) (x.atN (d + 1)) h0 h1) (q0 := 0) rfl rfl w967 w966 w968 w969 w328 rfl rfl ⟨⟨by decide, by decide⟩, rfl⟩ ⟨(Nat.le_of_ble_eq_true rfl), (Nat.le_of_ble_eq_true rfl)⟩ rfl hl.1 rfl (Nat.le_of_ble_eq_true rfl) d_M_next_271 ⟨(Nat.le_of_ble_eq_true rfl), (Nat.le_of_ble_eq_true rfl)⟩) hP hD hS hA (fun r9 u10 H locs hp9 hP hD hS => ?_)
    have hP : va_P D vwCl (MW dA h ad (MS.s_too (MS.s_frm (MS.s_kind x (x.atN d)) d) (d + 1))) H := hP
    have hD : va_D A (MW dA h ad (MS.s_too (MS.s_frm (MS.s_kind x (x.atN d)) d) (d + 1))) := hD
    replace hp9 : bI true = r9 := Eq.symm hp9
    subst hp9
    exact rfZ hx hb hr (bI_nar true) hlk hS () rfl hP hD (Nat.le_of_ble_eq_true rfl) (Nat.le_of_ble_eq_true rfl) d_M_next_274
  have L0 : ∀ (k9 : Nat) (q : Nat) (i1 : skG x.tape x.length (x.length + 1 - q) q = skG x.tape x.length (x.length + 1 - x.too) x.too) (i2 : q ≤ x.length) (hk9 : x.length + 1 - q = k9), ∀ (H : Heap) (locs : List Loc) (ls : Array Slot) (hP : va_P D vwCl (MW dA h ad (MS.s_too x q)) H) (hD : va_D A (MW dA h ad (MS.s_too x q))) (hS : va_S A s.heap H locs) (hl : lv_has ls 2 [(0, .ref h)]), W p l e ({ frames := 3, cells := 0, slots := 0, locals := 46 } : Room) s m ([.ref h] : List Value).toArray below meth c H locs 0 0 (MQ below (va_Qi (fun (r9 : Int32) (u9 : Unit) => r9 = bI true) (fun (u9 : Unit) t9 => bW D A (MW dA h ad (MS.s_too (MS.s_frm (MS.s_kind x (x.atN d)) d) (d + 1))) t9) A) ([.ref h] : List Value).toArray s 0 0 A) (F0 m 0 ls []) := by
    intro k9
    induction k9 using Nat.strongRecOn with
    | ind k9 ih0 =>
      intro q i1 i2 hk9 H locs ls hP hD hS hl
      refine lv_aload_n hx hb d_M_next_0 rfl (lv_at hl 0 rfl) ?_
      refine gF (v := .int (nI q)) hx hb hown hE hK hP 0 rfl rfl layM 46 (by decide) w463 rfl d_M_next_1 ?_
      refine lv_aload_n hx hb d_M_next_4 rfl (lv_at hl 0 rfl) ?_
      refine gF (v := .int (nI x.length)) hx hb hown hE hK hP 0 rfl rfl layM 2 (by decide) w320 rfl d_M_next_5 ?_
      refine lv_icmp_ge hx hb d_M_next_8 (tgt := 38) rfl (fun g11 => ?_) (fun g11 => ?_)
      · have g11 := (nI_leI (a := x.length) (b := q) (by omega) (by omega)).mp g11
        have e9 : (MS.s_too x q : MS) = MS.s_too x d := by rw [show d = q from (hp.symm.trans (i1.symm.trans (skG_n (Or.inl g11))))] <;> rfl
        exact J38  H _ ls (cvP e9 hP) (cvD e9 hD) hS (lv_sub hl [0] rfl)
      · have g11 := mt (nI_leI (a := x.length) (b := q) (by omega) (by omega)).mpr g11
        refine lv_aload_n hx hb d_M_next_11 rfl (lv_at hl 0 rfl) ?_
        refine gF (v := .ref (ad 1)) hx hb hown hE hK hP 0 rfl rfl layM 1 (by decide) w497 rfl d_M_next_12 ?_
        refine lv_aload_n hx hb d_M_next_15 rfl (lv_at hl 0 rfl) ?_
        refine gF (v := .int (nI q)) hx hb hown hE hK hP 0 rfl rfl layM 46 (by decide) w463 rfl d_M_next_16 ?_
        refine nbld (f := x.tape) hx hb hK hP 1 0 rfl rfl (q) (by omega) (by decide) d_M_next_19 ?_
        refine lv_bipush (v := 32) hx hb d_M_next_20 (by decide) ?_
        refine lv_icmp_ne hx hb d_M_next_22 (tgt := 38) rfl (fun g12 => ?_) (fun g12 => ?_)
        · have g12 := g12
          have e9 : (MS.s_too x q : MS) = MS.s_too x d := by rw [show d = q from (hp.symm.trans (i1.symm.trans (skG_n (Or.inr g12))))] <;> rfl
          exact J38  H _ ls (cvP e9 hP) (cvD e9 hD) hS (lv_sub hl [0] rfl)
        · have g12 := g12
          refine lv_aload_n hx hb d_M_next_25 rfl (lv_at hl 0 rfl) ?_
          refine lv_dup hx hb d_M_next_26 rfl ?_
          refine gF (v := .int (nI q)) hx hb hown hE hK hP 0 rfl rfl layM 46 (by decide) w463 rfl d_M_next_27 ?_
          refine lv_iconst (v := 1) hx hb d_M_next_30 (by decide) ?_
          refine lv_iadd hx hb d_M_next_31 (tpi (y := nI (q + 1)) (nI_add (q) (1)) ?_)
          refine pF (v := .int (nI (q + 1))) hx hb hown hE hK hP hD hS 0 rfl rfl layM tyM tokM nmM 46 (by decide) w463 rfl rfl rfl (Nat.le_of_ble_eq_true rfl) d_M_next_32 (fun H locs hP hD hS => ?_)
          have hP : va_P D vwCl (MW dA h ad (MS.s_too x (q + 1))) H := hP
          have hD : va_D A (MW dA h ad (MS.s_too x (q + 1))) := hD
          refine lv_goto hx hb d_M_next_35 (tgt := 0) rfl ?_
          exact ih0 _ (by omega) (q + 1) (by rw [← i1, skG_t (w := x.length + 1 - q) (by omega) g11 g12, show x.length + 1 - q - 1 = x.length + 1 - (q + 1) by omega]) (by omega) rfl H _ ls hP hD hS (lv_sub hl [0] rfl)
  exact L0 _ x.too rfl ht rfl H _ ls hP hD hS (lv_sub hl [0] rfl)
set_option maxHeartbeats 4000000 in
set_option maxRecDepth 100000 in
theorem k_next_s2 (l : Launch) (D : va_G) (dA : Nat → ClassId) (sz : Nat) (h : Nat) (ad : Nat → Nat) (x : MS) (d : Nat) (n : Nat) (hl1 : x.length ≤ 65536) (ht : x.too ≤ x.length) (hp : skG x.tape x.length (x.length + 1 - x.too) x.too = d) (hk : d < x.length) (hdg : isDg (x.atN d) = false) (hlt : isLt (x.atN d) = false) (htq : ¬ x.atN d = 34) (h0 : sgTwo (x.atN d) (x.atN (d + 1)) = n) (h2 : 0 < n) (h3 : n ≤ 258) : Met l ⟨"SeriesVaultModel", "next", "()Z"⟩ [Cond.code ⟨"SeriesVaultModel", "next", "()Z"⟩ prog_14_method_57_code 2 (some FieldType.boolean)] { frames := 3, cells := 0, slots := 0, locals := 46 } (pC D dA [.ref h] (MW dA h ad x) sz) (va_Qi (fun (r9 : Int32) (u9 : Unit) => r9 = bI true) (fun (u9 : Unit) t9 => bW D (va_A (MW dA h ad x) sz) (MW dA h ad (MS.s_too (MS.s_frm (MS.s_kind x (nI n)) d) (d + 2))) t9) (va_A (MW dA h ad x) sz)) 0 0 (va_A (MW dA h ad x) sz) := by
  refine mkC (y := ⟨"SeriesVaultModel", "next", "()Z"⟩) (cc := prog_14_method_57_code) (maxL := 2) (av := [.ref h]) (ws := MW dA h ad x) (sz := sz) (Qc := fun A => va_Qi (fun (r9 : Int32) (u9 : Unit) => r9 = bI true) (fun (u9 : Unit) t9 => bW D A (MW dA h ad (MS.s_too (MS.s_frm (MS.s_kind x (nI n)) d) (d + 2))) t9) A) (by decide) (Nat.le_of_ble_eq_true rfl) ?_
  intro A p e s m below meth c ls hsz hB
  obtain ⟨hx, hb, hr, hml, hown, hin, hlk, hE, hK, hP, hD, hS, hA, hN, hl⟩ := hB
  have hown : s.vm.findClass "SeriesVaultModel" = some m.cls := hown
  have hl : lv_has ls 2 [(0, .ref h)] := hl
  obtain ⟨H, hH⟩ : ∃ z, z = s.heap := ⟨_, rfl⟩
  have hP : va_P D vwCl (MW dA h ad x) H := by rw [hH]; exact hP
  have hS : va_S A s.heap H [] := by rw [hH]; exact hS
  rw [← hH]
  have J38 : ∀ (H : Heap) (locs : List Loc) (ls : Array Slot) (hP : va_P D vwCl (MW dA h ad (MS.s_too x d)) H) (hD : va_D A (MW dA h ad (MS.s_too x d))) (hS : va_S A s.heap H locs) (hl : lv_has ls 2 [(0, .ref h)]), W p l e ({ frames := 3, cells := 0, slots := 0, locals := 46 } : Room) s m ([.ref h] : List Value).toArray below meth c H locs 0 0 (MQ below (va_Qi (fun (r9 : Int32) (u9 : Unit) => r9 = bI true) (fun (u9 : Unit) t9 => bW D A (MW dA h ad (MS.s_too (MS.s_frm (MS.s_kind x (nI n)) d) (d + 2))) t9) A) ([.ref h] : List Value).toArray s 0 0 A) (F0 m 38 ls []) := by
    intro  H locs ls hP hD hS hl
    have d1 : d ≤ x.length := by rw [← hp]; exact skG_le ht
    refine lv_aload_n hx hb d_M_next_38 rfl (lv_at hl 0 rfl) ?_
    refine lv_aload_n hx hb d_M_next_39 rfl (lv_at hl 0 rfl) ?_
    refine gF (v := .int (nI d)) hx hb hown hE hK hP 0 rfl rfl layM 46 (by decide) w463 rfl d_M_next_40 ?_
    refine pF (v := .int (nI d)) hx hb hown hE hK hP hD hS 0 rfl rfl layM tyM tokM nmM 45 (by decide) w464 rfl rfl rfl (Nat.le_of_ble_eq_true rfl) d_M_next_43 (fun H locs hP hD hS => ?_)
    have hP : va_P D vwCl (MW dA h ad (MS.s_too (MS.s_frm x d) d)) H := hP
    have hD : va_D A (MW dA h ad (MS.s_too (MS.s_frm x d) d)) := hD
    refine lv_aload_n hx hb d_M_next_46 rfl (lv_at hl 0 rfl) ?_
    refine lv_aload_n hx hb d_M_next_47 rfl (lv_at hl 0 rfl) ?_
    refine gF (v := .int (nI d)) hx hb hown hE hK hP 0 rfl rfl layM 45 (by decide) w464 rfl d_M_next_48 ?_
    refine jfI (rnV (As := [.int (nI d)]) (rest := []) hx hb hml hown hE hK (hN _ _ hS) hP hD (k_at l D dA H.size h ad (MS.s_too (MS.s_frm x d) d) d (show d < 2 ^ 31 from by omega) (show x.length ≤ 65536 from by omega)) (q0 := 0) rfl rfl w466 w465 w467 w468 w328 rfl rfl ⟨⟨by decide, by decide⟩, rfl⟩ ⟨(Nat.le_of_ble_eq_true rfl), (Nat.le_of_ble_eq_true rfl)⟩ rfl hl.1 rfl (Nat.le_of_ble_eq_true rfl) d_M_next_51 ⟨(Nat.le_of_ble_eq_true rfl), (Nat.le_of_ble_eq_true rfl)⟩) hP hD hS hA (fun r1 u2 H locs hp9 hP hD hS => ?_)
    have hP : va_P D vwCl (MW dA h ad (MS.s_too (MS.s_frm x d) d)) H := hP
    have hD : va_D A (MW dA h ad (MS.s_too (MS.s_frm x d) d)) := hD
    replace hp9 : x.atN d = r1 := Eq.symm hp9
    subst hp9
    refine lv_istore_n hx hb d_M_next_54 rfl hl (by decide) rfl (fun ls hl => ?_)
    have hl : lv_has ls 2 [(1, .int (x.atN d)), (0, .ref h)] := hl
    refine lv_aload_n hx hb d_M_next_55 rfl (lv_at hl 1 rfl) ?_
    refine gF (v := .int (nI d)) hx hb hown hE hK hP 0 rfl rfl layM 45 (by decide) w464 rfl d_M_next_56 ?_
    refine lv_aload_n hx hb d_M_next_59 rfl (lv_at hl 1 rfl) ?_
    refine gF (v := .int (nI x.length)) hx hb hown hE hK hP 0 rfl rfl layM 2 (by decide) w320 rfl d_M_next_60 ?_
    refine lv_icmp_lt hx hb d_M_next_63 (tgt := 74) rfl (fun _ => ?_) (fun h9 => absurd ((nI_ltI (a := d) (b := x.length) (by omega) (by omega)).mpr hk) h9)
    refine lv_iload_n hx hb d_M_next_74 rfl (lv_at hl 0 rfl) ?_
    have hPc := hP.sub (ws' := []) [] rfl
    have hDc := hD.sub (ws' := []) [] (by decide) rfl
    refine jnI (rnS (As := [.int (x.atN d)]) (rest := []) hx hb hml hown hE hK (hN _ _ hS) hPc hDc (k_isDigit l D dA H.size (x.atN d)) w955 w954 w956 w328 rfl rfl ⟨⟨by decide, by decide⟩, rfl⟩ ⟨(Nat.le_of_ble_eq_true rfl), (Nat.le_of_ble_eq_true rfl)⟩ rfl hl.1 rfl (Nat.le_of_ble_eq_true rfl) d_M_next_75 ⟨(Nat.le_of_ble_eq_true rfl), (Nat.le_of_ble_eq_true rfl)⟩) hP hD hS hA [] [0, 1, 2, 3, 4, 5, 6, 7, 8, 9, 10, 11, 12, 13, 14, 15, 16, 17, 18, 19, 20, 21, 22, 23, 24, 25, 26, 27, 28, 29, 30, 31, 32, 33, 34, 35, 36, 37, 38] (wr := MW dA h ad (MS.s_too (MS.s_frm x d) d)) rfl rfl (by decide) (by decide) (fun r3 u9 H locs hp9 hP hD hS => ?_)
    have hP : va_P D vwCl (MW dA h ad (MS.s_too (MS.s_frm x d) d)) H := hP
    have hD : va_D A (MW dA h ad (MS.s_too (MS.s_frm x d) d)) := hD
    replace hp9 : bI (isDg (x.atN d)) = r3 := Eq.symm hp9
    subst hp9
    refine lv_if_eq hx hb d_M_next_78 (tgt := 86) rfl (fun _ => ?_) (fun h9 => absurd (by rw [hdg]; decide) h9)
    refine lv_iload_n hx hb d_M_next_86 rfl (lv_at hl 0 rfl) ?_
    have hPc := hP.sub (ws' := []) [] rfl
    have hDc := hD.sub (ws' := []) [] (by decide) rfl
    refine jnI (rnS (As := [.int (x.atN d)]) (rest := []) hx hb hml hown hE hK (hN _ _ hS) hPc hDc (k_isLetter l D dA H.size (x.atN d)) w964 w963 w965 w328 rfl rfl ⟨⟨by decide, by decide⟩, rfl⟩ ⟨(Nat.le_of_ble_eq_true rfl), (Nat.le_of_ble_eq_true rfl)⟩ rfl hl.1 rfl (Nat.le_of_ble_eq_true rfl) d_M_next_87 ⟨(Nat.le_of_ble_eq_true rfl), (Nat.le_of_ble_eq_true rfl)⟩) hP hD hS hA [] [0, 1, 2, 3, 4, 5, 6, 7, 8, 9, 10, 11, 12, 13, 14, 15, 16, 17, 18, 19, 20, 21, 22, 23, 24, 25, 26, 27, 28, 29, 30, 31, 32, 33, 34, 35, 36, 37, 38] (wr := MW dA h ad (MS.s_too (MS.s_frm x d) d)) rfl rfl (by decide) (by decide) (fun r5 u9 H locs hp9 hP hD hS => ?_)
    have hP : va_P D vwCl (MW dA h ad (MS.s_too (MS.s_frm x d) d)) H := hP
    have hD : va_D A (MW dA h ad (MS.s_too (MS.s_frm x d) d)) := hD
    replace hp9 : bI (isLt (x.atN d)) = r5 := Eq.symm hp9
    subst hp9
    refine lv_if_eq hx hb d_M_next_90 (tgt := 139) rfl (fun _ => ?_) (fun h9 => absurd (by rw [hlt]; decide) h9)
    refine lv_iload_n hx hb d_M_next_139 rfl (lv_at hl 0 rfl) ?_
    refine lv_bipush (v := 34) hx hb d_M_next_140 (by decide) ?_
    refine lv_icmp_ne hx hb d_M_next_142 (tgt := 259) rfl (fun _ => ?_) (fun h9 => absurd h9 htq)
    refine lv_aload_n hx hb d_M_next_259 rfl (lv_at hl 1 rfl) ?_
    refine lv_iload_n hx hb d_M_next_260 rfl (lv_at hl 0 rfl) ?_
    refine lv_aload_n hx hb d_M_next_261 rfl (lv_at hl 1 rfl) ?_
    refine lv_aload_n hx hb d_M_next_262 rfl (lv_at hl 1 rfl) ?_
    refine gF (v := .int (nI d)) hx hb hown hE hK hP 0 rfl rfl layM 45 (by decide) w464 rfl d_M_next_263 ?_
    refine lv_iconst (v := 1) hx hb d_M_next_266 (by decide) ?_
    refine lv_iadd hx hb d_M_next_267 (tpi (y := nI (d + 1)) (nI_add (d) (1)) ?_)
    refine jfI (rnV (As := [.int (nI (d + 1))]) (rest := [.int (x.atN d), .ref h]) hx hb hml hown hE hK (hN _ _ hS) hP hD (k_at l D dA H.size h ad (MS.s_too (MS.s_frm x d) d) (d + 1) (show (d + 1) < 2 ^ 31 from by omega) (show x.length ≤ 65536 from by omega)) (q0 := 0) rfl rfl w466 w465 w467 w468 w328 rfl rfl ⟨⟨by decide, by decide⟩, rfl⟩ ⟨(Nat.le_of_ble_eq_true rfl), (Nat.le_of_ble_eq_true rfl)⟩ rfl hl.1 rfl (Nat.le_of_ble_eq_true rfl) d_M_next_268 ⟨(Nat.le_of_ble_eq_true rfl), (Nat.le_of_ble_eq_true rfl)⟩) hP hD hS hA (fun r7 u8 H locs hp9 hP hD hS => ?_)
    have hP : va_P D vwCl (MW dA h ad (MS.s_too (MS.s_frm x d) d)) H := hP
    have hD : va_D A (MW dA h ad (MS.s_too (MS.s_frm x d) d)) := hD
    replace hp9 : x.atN (d + 1) = r7 := Eq.symm hp9
    subst hp9
    refine jfI (rnV (As := [.int (x.atN d), .int (x.atN (d + 1))]) (rest := []) hx hb hml hown hE hK (hN _ _ hS) hP hD (k_readSign_2 l D dA H.size h ad (MS.s_too (MS.s_frm x d) d) (x.atN d) (x.atN (d + 1)) n h0 h2 h3) (q0 := 0) rfl rfl w967 w966 w968 w969 w328 rfl rfl ⟨⟨by decide, by decide⟩, rfl⟩ ⟨(Nat.le_of_ble_eq_true rfl), (Nat.le_of_ble_eq_true rfl)⟩ rfl hl.1 rfl (Nat.le_of_ble_eq_true rfl) d_M_next_271 ⟨(Nat.le_of_ble_eq_true rfl), (Nat.le_of_ble_eq_true rfl)⟩) hP hD hS hA (fun r9 u10 H locs hp9 hP hD hS => ?_)
    have hP : va_P D vwCl (MW dA h ad (MS.s_too (MS.s_frm (MS.s_kind x (nI n)) d) (d + 2))) H := hP
    have hD : va_D A (MW dA h ad (MS.s_too (MS.s_frm (MS.s_kind x (nI n)) d) (d + 2))) := hD
    replace hp9 : bI true = r9 := Eq.symm hp9
    subst hp9
    exact rfZ hx hb hr (bI_nar true) hlk hS () rfl hP hD (Nat.le_of_ble_eq_true rfl) (Nat.le_of_ble_eq_true rfl) d_M_next_274
  have L0 : ∀ (k9 : Nat) (q : Nat) (i1 : skG x.tape x.length (x.length + 1 - q) q = skG x.tape x.length (x.length + 1 - x.too) x.too) (i2 : q ≤ x.length) (hk9 : x.length + 1 - q = k9), ∀ (H : Heap) (locs : List Loc) (ls : Array Slot) (hP : va_P D vwCl (MW dA h ad (MS.s_too x q)) H) (hD : va_D A (MW dA h ad (MS.s_too x q))) (hS : va_S A s.heap H locs) (hl : lv_has ls 2 [(0, .ref h)]), W p l e ({ frames := 3, cells := 0, slots := 0, locals := 46 } : Room) s m ([.ref h] : List Value).toArray below meth c H locs 0 0 (MQ below (va_Qi (fun (r9 : Int32) (u9 : Unit) => r9 = bI true) (fun (u9 : Unit) t9 => bW D A (MW dA h ad (MS.s_too (MS.s_frm (MS.s_kind x (nI n)) d) (d + 2))) t9) A) ([.ref h] : List Value).toArray s 0 0 A) (F0 m 0 ls []) := by
    intro k9
    induction k9 using Nat.strongRecOn with
    | ind k9 ih0 =>
      intro q i1 i2 hk9 H locs ls hP hD hS hl
      refine lv_aload_n hx hb d_M_next_0 rfl (lv_at hl 0 rfl) ?_
      refine gF (v := .int (nI q)) hx hb hown hE hK hP 0 rfl rfl layM 46 (by decide) w463 rfl d_M_next_1 ?_
      refine lv_aload_n hx hb d_M_next_4 rfl (lv_at hl 0 rfl) ?_
      refine gF (v := .int (nI x.length)) hx hb hown hE hK hP 0 rfl rfl layM 2 (by decide) w320 rfl d_M_next_5 ?_
      refine lv_icmp_ge hx hb d_M_next_8 (tgt := 38) rfl (fun g11 => ?_) (fun g11 => ?_)
      · have g11 := (nI_leI (a := x.length) (b := q) (by omega) (by omega)).mp g11
        have e9 : (MS.s_too x q : MS) = MS.s_too x d := by rw [show d = q from (hp.symm.trans (i1.symm.trans (skG_n (Or.inl g11))))] <;> rfl
        exact J38  H _ ls (cvP e9 hP) (cvD e9 hD) hS (lv_sub hl [0] rfl)
      · have g11 := mt (nI_leI (a := x.length) (b := q) (by omega) (by omega)).mpr g11
        refine lv_aload_n hx hb d_M_next_11 rfl (lv_at hl 0 rfl) ?_
        refine gF (v := .ref (ad 1)) hx hb hown hE hK hP 0 rfl rfl layM 1 (by decide) w497 rfl d_M_next_12 ?_
        refine lv_aload_n hx hb d_M_next_15 rfl (lv_at hl 0 rfl) ?_
        refine gF (v := .int (nI q)) hx hb hown hE hK hP 0 rfl rfl layM 46 (by decide) w463 rfl d_M_next_16 ?_
        refine nbld (f := x.tape) hx hb hK hP 1 0 rfl rfl (q) (by omega) (by decide) d_M_next_19 ?_
        refine lv_bipush (v := 32) hx hb d_M_next_20 (by decide) ?_
        refine lv_icmp_ne hx hb d_M_next_22 (tgt := 38) rfl (fun g12 => ?_) (fun g12 => ?_)
        · have g12 := g12
          have e9 : (MS.s_too x q : MS) = MS.s_too x d := by rw [show d = q from (hp.symm.trans (i1.symm.trans (skG_n (Or.inr g12))))] <;> rfl
          exact J38  H _ ls (cvP e9 hP) (cvD e9 hD) hS (lv_sub hl [0] rfl)
        · have g12 := g12
          refine lv_aload_n hx hb d_M_next_25 rfl (lv_at hl 0 rfl) ?_
          refine lv_dup hx hb d_M_next_26 rfl ?_
          refine gF (v := .int (nI q)) hx hb hown hE hK hP 0 rfl rfl layM 46 (by decide) w463 rfl d_M_next_27 ?_
          refine lv_iconst (v := 1) hx hb d_M_next_30 (by decide) ?_
          refine lv_iadd hx hb d_M_next_31 (tpi (y := nI (q + 1)) (nI_add (q) (1)) ?_)
          refine pF (v := .int (nI (q + 1))) hx hb hown hE hK hP hD hS 0 rfl rfl layM tyM tokM nmM 46 (by decide) w463 rfl rfl rfl (Nat.le_of_ble_eq_true rfl) d_M_next_32 (fun H locs hP hD hS => ?_)
          have hP : va_P D vwCl (MW dA h ad (MS.s_too x (q + 1))) H := hP
          have hD : va_D A (MW dA h ad (MS.s_too x (q + 1))) := hD
          refine lv_goto hx hb d_M_next_35 (tgt := 0) rfl ?_
          exact ih0 _ (by omega) (q + 1) (by rw [← i1, skG_t (w := x.length + 1 - q) (by omega) g11 g12, show x.length + 1 - q - 1 = x.length + 1 - (q + 1) by omega]) (by omega) rfl H _ ls hP hD hS (lv_sub hl [0] rfl)
  exact L0 _ x.too rfl ht rfl H _ ls hP hD hS (lv_sub hl [0] rfl)
