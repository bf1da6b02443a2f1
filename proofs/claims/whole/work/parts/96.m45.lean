theorem d_M_question_67 : decode prog_14_method_89_code 67 = .ok (.aload_n 0, 1) := by decide +kernel
theorem d_M_question_68 : decode prog_14_method_89_code 68 = .ok (.invokevirtual 492, 3) := by decide +kernel
theorem d_M_question_79 : decode prog_14_method_89_code 79 = .ok (.aload_n 0, 1) := by decide +kernel
theorem d_M_question_80 : decode prog_14_method_89_code 80 = .ok (.invokevirtual 486, 3) := by decide +kernel
theorem d_M_question_83 : decode prog_14_method_89_code 83 = .ok (.ifCond .eq 13, 3) := by decide +kernel
theorem d_M_question_100 : decode prog_14_method_89_code 100 = .ok (.aload_n 0, 1) := by decide +kernel
theorem d_M_question_101 : decode prog_14_method_89_code 101 = .ok (.iconst 1, 1) := by decide +kernel
theorem d_M_question_102 : decode prog_14_method_89_code 102 = .ok (.invokevirtual 483, 3) := by decide +kernel
theorem d_M_question_105 : decode prog_14_method_89_code 105 = .ok (.ifCond .eq 7, 3) := by decide +kernel
theorem d_M_question_108 : decode prog_14_method_89_code 108 = .ok (.iconst 1, 1) := by decide +kernel
theorem d_M_question_109 : decode prog_14_method_89_code 109 = .ok (.goto 4, 3) := by decide +kernel
theorem d_M_question_86 : decode prog_14_method_89_code 86 = .ok (.aload_n 0, 1) := by decide +kernel
theorem d_M_question_87 : decode prog_14_method_89_code 87 = .ok (.iconst 2, 1) := by decide +kernel
theorem d_M_question_88 : decode prog_14_method_89_code 88 = .ok (.aload_n 0, 1) := by decide +kernel
theorem d_M_question_89 : decode prog_14_method_89_code 89 = .ok (.getfield 345, 3) := by decide +kernel
theorem d_M_question_92 : decode prog_14_method_89_code 92 = .ok (.invokevirtual 224, 3) := by decide +kernel
theorem d_M_question_95 : decode prog_14_method_89_code 95 = .ok (.ireturn, 1) := by decide +kernel
theorem w1073 : Cond.methodLink "SeriesVaultModel" 492 ⟨"SeriesVaultModel", "operator", "()Z"⟩ ∈ aW := aw_of (tb_11 (List.mem_of_getElem? (i := 47) rfl)) rfl
theorem w1074 : Cond.code ⟨"SeriesVaultModel", "operator", "()Z"⟩ prog_14_method_88_code 2 (some FieldType.boolean) ∈ aW := aw_of (tb_11 (List.mem_of_getElem? (i := 50) rfl)) rfl
theorem w1075 : Cond.instanceMethod ⟨"SeriesVaultModel", "operator", "()Z"⟩ ∈ aW := aw_of (tb_11 (List.mem_of_getElem? (i := 49) rfl)) rfl
theorem w1076 : Cond.selects "SeriesVaultModel" ⟨"SeriesVaultModel", "operator", "()Z"⟩ ⟨"SeriesVaultModel", "operator", "()Z"⟩ ∈ aW := aw_pr (List.mem_map.mpr ⟨_, pv_8 (List.mem_of_getElem? (i := 12) rfl), rfl⟩) rfl
set_option maxHeartbeats 4000000 in
set_option maxRecDepth 100000 in
theorem k_question (l : Launch) (D : va_G) (dA : Nat → ClassId) (sz : Nat) (h : Nat) (ad : Nat → Nat) (x : MS) (how : Bool) (hqw : x.qW how) : Met l ⟨"SeriesVaultModel", "question", "(Z)Z"⟩ [Cond.code ⟨"SeriesVaultModel", "question", "(Z)Z"⟩ prog_14_method_89_code 3 (some FieldType.boolean)] { frames := 8, cells := 0, slots := 0, locals := 175 } (pC D dA [.ref h, .int (bI how)] (MW dA h ad x) sz) (va_Qi (fun (r9 : Int32) (u9 : MS) => r9 = bI (x.quF how).1 ∧ u9 = (x.quF how).2) (fun (u9 : MS) t9 => bW D (va_A (MW dA h ad x) sz) (MW dA h ad u9) t9) (va_A (MW dA h ad x) sz)) 0 0 (va_A (MW dA h ad x) sz) := by
  refine mkC (y := ⟨"SeriesVaultModel", "question", "(Z)Z"⟩) (cc := prog_14_method_89_code) (maxL := 3) (av := [.ref h, .int (bI how)]) (ws := MW dA h ad x) (sz := sz) (Qc := fun A => va_Qi (fun (r9 : Int32) (u9 : MS) => r9 = bI (x.quF how).1 ∧ u9 = (x.quF how).2) (fun (u9 : MS) t9 => bW D A (MW dA h ad u9) t9) A) (by decide) (Nat.le_of_ble_eq_true rfl) ?_
  intro A p e s m below meth c ls hsz hB
  obtain ⟨hx, hb, hr, hml, hown, hin, hlk, hE, hK, hP, hD, hS, hA, hN, hl⟩ := hB
  have hown : s.vm.findClass "SeriesVaultModel" = some m.cls := hown
  have hl : lv_has ls 3 [(0, .ref h), (1, .int (bI how))] := hl
  obtain ⟨H, hH⟩ : ∃ z, z = s.heap := ⟨_, rfl⟩
  have hP : va_P D vwCl (MW dA h ad x) H := by rw [hH]; exact hP
  have hS : va_S A s.heap H [] := by rw [hH]; exact hS
  rw [← hH]
  have hl1 := hqw.1
  refine lv_aload_n hx hb d_M_question_0 rfl (lv_at hl 0 rfl) ?_
  refine lv_iload_n hx hb d_M_question_1 rfl (lv_at hl 1 rfl) ?_
  refine pF (v := .int (bI how)) hx hb hown hE hK hP hD hS 0 rfl rfl layM tyM tokM nmM 56 (by decide) w475 rfl (bI_nar how) (bI_fit how) (Nat.le_of_ble_eq_true rfl) d_M_question_2 (fun H locs hP hD hS => ?_)
  have hP : va_P D vwCl (MW dA h ad (MS.s_works x how)) H := hP
  have hD : va_D A (MW dA h ad (MS.s_works x how)) := hD
  refine lv_aload_n hx hb d_M_question_5 rfl (lv_at hl 0 rfl) ?_
  refine lv_iconst (v := 0) hx hb d_M_question_6 (by decide) ?_
  refine pF (v := .int (nI 0)) hx hb hown hE hK hP hD hS 0 rfl rfl layM tyM tokM nmM 55 (by decide) w476 rfl rfl rfl (Nat.le_of_ble_eq_true rfl) d_M_question_7 (fun H locs hP hD hS => ?_)
  have hP : va_P D vwCl (MW dA h ad (MS.s_works (MS.s_pile x 0) how)) H := hP
  have hD : va_D A (MW dA h ad (MS.s_works (MS.s_pile x 0) how)) := hD
  refine lv_aload_n hx hb d_M_question_10 rfl (lv_at hl 0 rfl) ?_
  refine lv_iconst (v := 0) hx hb d_M_question_11 (by decide) ?_
  refine pF (v := .int (nI 0)) hx hb hown hE hK hP hD hS 0 rfl rfl layM tyM tokM nmM 68 (by decide) w477 rfl rfl rfl (Nat.le_of_ble_eq_true rfl) d_M_question_12 (fun H locs hP hD hS => ?_)
  have hP : va_P D vwCl (MW dA h ad (MS.s_signCount (MS.s_works (MS.s_pile x 0) how) 0)) H := hP
  have hD : va_D A (MW dA h ad (MS.s_signCount (MS.s_works (MS.s_pile x 0) how) 0)) := hD
  refine lv_aload_n hx hb d_M_question_15 rfl (lv_at hl 0 rfl) ?_
  refine lv_iconst (v := 0) hx hb d_M_question_16 (by decide) ?_
  refine pF (v := .int (nI 0)) hx hb hown hE hK hP hD hS 0 rfl rfl layM tyM tokM nmM 69 (by decide) w478 rfl rfl rfl (Nat.le_of_ble_eq_true rfl) d_M_question_17 (fun H locs hP hD hS => ?_)
  have hP : va_P D vwCl (MW dA h ad (MS.s_opn (MS.s_signCount (MS.s_works (MS.s_pile x 0) how) 0) 0)) H := hP
  have hD : va_D A (MW dA h ad (MS.s_opn (MS.s_signCount (MS.s_works (MS.s_pile x 0) how) 0) 0)) := hD
  refine lv_aload_n hx hb d_M_question_20 rfl (lv_at hl 0 rfl) ?_
  refine lv_iconst (v := 0) hx hb d_M_question_21 (by decide) ?_
  refine pF (v := .int (nI 0)) hx hb hown hE hK hP hD hS 0 rfl rfl layM tyM tokM nmM 46 (by decide) w463 rfl rfl rfl (Nat.le_of_ble_eq_true rfl) d_M_question_22 (fun H locs hP hD hS => ?_)
  have hP : va_P D vwCl (MW dA h ad (MS.s_opn (MS.s_signCount (MS.s_works (MS.s_pile (MS.s_too x 0) 0) how) 0) 0)) H := hP
  have hD : va_D A (MW dA h ad (MS.s_opn (MS.s_signCount (MS.s_works (MS.s_pile (MS.s_too x 0) 0) how) 0) 0)) := hD
  refine lv_aload_n hx hb d_M_question_25 rfl (lv_at hl 0 rfl) ?_
  refine lv_iconst (v := 1) hx hb d_M_question_26 (by decide) ?_
  refine pF (v := .int (bI true)) hx hb hown hE hK hP hD hS 0 rfl rfl layM tyM tokM nmM 70 (by decide) w470 rfl (bI_nar true) (bI_fit true) (Nat.le_of_ble_eq_true rfl) d_M_question_27 (fun H locs hP hD hS => ?_)
  have hP : va_P D vwCl (MW dA h ad (MS.s_wants (MS.s_opn (MS.s_signCount (MS.s_works (MS.s_pile (MS.s_too x 0) 0) how) 0) 0) true)) H := hP
  have hD : va_D A (MW dA h ad (MS.s_wants (MS.s_opn (MS.s_signCount (MS.s_works (MS.s_pile (MS.s_too x 0) 0) how) 0) 0) true)) := hD
  refine lv_aload_n hx hb d_M_question_30 rfl (lv_at hl 0 rfl) ?_
  refine jfI (rnV (As := []) (rest := []) hx hb hml hown hE hK (hN _ _ hS) hP hD (k_next l D dA H.size h ad (MS.s_wants (MS.s_opn (MS.s_signCount (MS.s_works (MS.s_pile (MS.s_too x 0) 0) how) 0) 0) true) hl1 (Nat.zero_le _) hqw.2.1) (q0 := 0) rfl rfl w480 w479 w481 w482 w328 rfl rfl ⟨⟨by decide, by decide⟩, rfl⟩ ⟨(Nat.le_of_ble_eq_true rfl), (Nat.le_of_ble_eq_true rfl)⟩ rfl hl.1 rfl (Nat.le_of_ble_eq_true rfl) d_M_question_31 ⟨(Nat.le_of_ble_eq_true rfl), (Nat.le_of_ble_eq_true rfl)⟩) hP hD hS hA (fun r1 u2 H locs hp9 hP hD hS => ?_)
  obtain ⟨y3, h9u⟩ : ∃ z9, z9 = u2 := ⟨_, rfl⟩
  subst h9u
  have hP : va_P D vwCl (MW dA h ad y3) H := hP
  have hD : va_D A (MW dA h ad y3) := hD
  obtain ⟨hp9, f_e_4⟩ := hp9
  replace hp9 : bI ((MS.s_wants (MS.s_opn (MS.s_signCount (MS.s_works (MS.s_pile (MS.s_too x 0) 0) how) 0) 0) true).nx).1 = r1 := Eq.symm hp9
  subst hp9
  refine lv_istore_n hx hb d_M_question_34 rfl hl (by decide) rfl (fun ls hl => ?_)
  have hl : lv_has ls 3 [(2, .int (bI ((MS.s_wants (MS.s_opn (MS.s_signCount (MS.s_works (MS.s_pile (MS.s_too x 0) 0) how) 0) 0) true).nx).1)), (0, .ref h), (1, .int (bI how))] := hl
  have L35 : ∀ (k9 : Nat) (yy : MS) (g : Bool) (w : Nat) (i1 : x.quF how = (if g = true then MS.quR w yy else (false, yy))) (i2 : g = true → yy.lI) (i3 : g = true → x.length + 1 ≤ w + yy.frm ∧ yy.length = x.length) (hk9 : w + (if g = true then 1 else 0) = k9), ∀ (H : Heap) (locs : List Loc) (ls : Array Slot) (hP : va_P D vwCl (MW dA h ad yy) H) (hD : va_D A (MW dA h ad yy)) (hS : va_S A s.heap H locs) (hl : lv_has ls 3 [(2, .int (bI g)), (0, .ref h)]), W p l e ({ frames := 8, cells := 0, slots := 0, locals := 175 } : Room) s m ([.ref h, .int (bI how)] : List Value).toArray below meth c H locs 0 0 (MQ below (va_Qi (fun (r9 : Int32) (u9 : MS) => r9 = bI (x.quF how).1 ∧ u9 = (x.quF how).2) (fun (u9 : MS) t9 => bW D A (MW dA h ad u9) t9) A) ([.ref h, .int (bI how)] : List Value).toArray s 0 0 A) (F0 m 35 ls []) := by
    intro k9
    induction k9 using Nat.strongRecOn with
    | ind k9 ih35 =>
      intro yy g w i1 i2 i3 hk9 H locs ls hP hD hS hl
      refine lv_iload_n hx hb d_M_question_35 rfl (lv_at hl 0 rfl) ?_
      refine lv_if_eq hx hb d_M_question_36 (tgt := 75) rfl (fun g5 => ?_) (fun g5 => ?_)
      · have g5 := bI_0 g5
        refine lv_iload_n hx hb d_M_question_75 rfl (lv_at hl 0 rfl) ?_
        refine lv_if_eq hx hb d_M_question_76 (tgt := 96) rfl (fun _ => ?_) (fun h9 => absurd (by rw [g5]; decide) h9)
        refine lv_iload_n hx hb d_M_question_96 rfl (lv_at hl 0 rfl) ?_
        refine lv_if_eq hx hb d_M_question_97 (tgt := 112) rfl (fun _ => ?_) (fun h9 => absurd (by rw [g5]; decide) h9)
        refine lv_iconst (v := 0) hx hb d_M_question_112 (by decide) ?_
        exact rfZ hx hb hr (bI_nar false) hlk hS yy (by rw [i1, if_neg (by rw [g5]; decide)]; exact ⟨rfl, rfl⟩) hP hD (Nat.le_of_ble_eq_true rfl) (Nat.le_of_ble_eq_true rfl) d_M_question_113
      · have g5 := bI_n0 g5
        have i1b : x.quF how = MS.quR w yy := i1.trans (if_pos g5)
        have i2b := i2 g5
        obtain ⟨i3b, i3c⟩ := i3 g5
        have i4 := lI_frm i2b
        refine lv_aload_n hx hb d_M_question_39 rfl (lv_at hl 1 rfl) ?_
        refine gF (v := .int yy.kind) hx hb hown hE hK hP 0 rfl rfl layM 44 (by decide) w469 rfl d_M_question_40 ?_
        refine lv_if_ne hx hb d_M_question_43 (tgt := 53) rfl (fun g6 => ?_) (fun g6 => ?_)
        · have g6 := g6
          refine lv_aload_n hx hb d_M_question_53 rfl (lv_at hl 1 rfl) ?_
          refine gF (v := .int (bI yy.wants)) hx hb hown hE hK hP 0 rfl rfl layM 70 (by decide) w470 rfl d_M_question_54 ?_
          refine lv_if_eq hx hb d_M_question_57 (tgt := 67) rfl (fun g7 => ?_) (fun g7 => ?_)
          · have g7 := bI_0 g7
            refine lv_aload_n hx hb d_M_question_67 rfl (lv_at hl 1 rfl) ?_
            refine jfI (rnV (As := []) (rest := []) hx hb hml hown hE hK (hN _ _ hS) hP hD (k_operator l D dA H.size h ad yy (lI_1 i2b g7)) (q0 := 0) rfl rfl w1074 w1073 w1075 w1076 w328 rfl rfl ⟨⟨by decide, by decide⟩, rfl⟩ ⟨(Nat.le_of_ble_eq_true rfl), (Nat.le_of_ble_eq_true rfl)⟩ rfl hl.1 rfl (Nat.le_of_ble_eq_true rfl) d_M_question_68 ⟨(Nat.le_of_ble_eq_true rfl), (Nat.le_of_ble_eq_true rfl)⟩) hP hD hS hA (fun r8 u9 H locs hp9 hP hD hS => ?_)
            obtain ⟨y10, h9u⟩ : ∃ z9, z9 = u9 := ⟨_, rfl⟩
            subst h9u
            have hP : va_P D vwCl (MW dA h ad y10) H := hP
            have hD : va_D A (MW dA h ad y10) := hD
            obtain ⟨hp9, f_e_11⟩ := hp9
            replace hp9 : bI (yy.opr).1 = r8 := Eq.symm hp9
            subst hp9
            refine lv_istore_n hx hb d_M_question_71 rfl hl (by decide) rfl (fun ls hl => ?_)
            have hl : lv_has ls 3 [(2, .int (bI (yy.opr).1)), (0, .ref h)] := hl
            refine lv_goto hx hb d_M_question_72 (tgt := 35) rfl ?_
            exact ih35 _ (by rw [← hk9, if_pos g5]; split <;> omega) y10 ((yy.opr).1) (w - 1) (i1b.trans ((quR_s (by omega) (Or.inl g6) (show y10 = yy.q1.2 from f_e_11.trans (by rw [show yy.q1 = yy.opr from if_neg (by rw [g7]; decide)]))).trans (by rw [(show yy.q1 = yy.opr from if_neg (by rw [g7]; decide))]))) (fun z9 => (q1_in i2b (Prod.ext (by rw [(show yy.q1 = yy.opr from if_neg (by rw [g7]; decide))]; exact z9) (show y10 = yy.q1.2 from f_e_11.trans (by rw [show yy.q1 = yy.opr from if_neg (by rw [g7]; decide)])).symm)).1) (fun z9 => by have a9 := q1_in i2b (Prod.ext (by rw [(show yy.q1 = yy.opr from if_neg (by rw [g7]; decide))]; exact z9) (show y10 = yy.q1.2 from f_e_11.trans (by rw [show yy.q1 = yy.opr from if_neg (by rw [g7]; decide)])).symm); have b9 := qk_f a9.2.1 MS.length rfl; have c9 := a9.2.2.1; exact ⟨by omega, b9.trans i3c⟩) rfl H _ ls hP hD hS (lv_sub hl [0, 1] rfl)
          · have g7 := bI_n0 g7
            refine lv_aload_n hx hb d_M_question_60 rfl (lv_at hl 1 rfl) ?_
            refine jfI (rnV (As := []) (rest := []) hx hb hml hown hE hK (hN _ _ hS) hP hD (k_operand l D dA H.size h ad yy (lI_0 i2b g7)) (q0 := 0) rfl rfl w484 w483 w485 w486 w328 rfl rfl ⟨⟨by decide, by decide⟩, rfl⟩ ⟨(Nat.le_of_ble_eq_true rfl), (Nat.le_of_ble_eq_true rfl)⟩ rfl hl.1 rfl (Nat.le_of_ble_eq_true rfl) d_M_question_61 ⟨(Nat.le_of_ble_eq_true rfl), (Nat.le_of_ble_eq_true rfl)⟩) hP hD hS hA (fun r12 u13 H locs hp9 hP hD hS => ?_)
            obtain ⟨y14, h9u⟩ : ∃ z9, z9 = u13 := ⟨_, rfl⟩
            subst h9u
            have hP : va_P D vwCl (MW dA h ad y14) H := hP
            have hD : va_D A (MW dA h ad y14) := hD
            obtain ⟨hp9, f_e_15⟩ := hp9
            replace hp9 : bI (yy.odF).1 = r12 := Eq.symm hp9
            subst hp9
            refine lv_goto hx hb d_M_question_64 (tgt := 71) rfl ?_
            refine lv_istore_n hx hb d_M_question_71 rfl hl (by decide) rfl (fun ls hl => ?_)
            have hl : lv_has ls 3 [(2, .int (bI (yy.odF).1)), (0, .ref h)] := hl
            refine lv_goto hx hb d_M_question_72 (tgt := 35) rfl ?_
            exact ih35 _ (by rw [← hk9, if_pos g5]; split <;> omega) y14 ((yy.odF).1) (w - 1) (i1b.trans ((quR_s (by omega) (Or.inl g6) (show y14 = yy.q1.2 from f_e_15.trans (by rw [show yy.q1 = yy.odF from if_pos g7]))).trans (by rw [(show yy.q1 = yy.odF from if_pos g7)]))) (fun z9 => (q1_in i2b (Prod.ext (by rw [(show yy.q1 = yy.odF from if_pos g7)]; exact z9) (show y14 = yy.q1.2 from f_e_15.trans (by rw [show yy.q1 = yy.odF from if_pos g7])).symm)).1) (fun z9 => by have a9 := q1_in i2b (Prod.ext (by rw [(show yy.q1 = yy.odF from if_pos g7)]; exact z9) (show y14 = yy.q1.2 from f_e_15.trans (by rw [show yy.q1 = yy.odF from if_pos g7])).symm); have b9 := qk_f a9.2.1 MS.length rfl; have c9 := a9.2.2.1; exact ⟨by omega, b9.trans i3c⟩) rfl H _ ls hP hD hS (lv_sub hl [0, 1] rfl)
        · have g6 := g6
          refine lv_aload_n hx hb d_M_question_46 rfl (lv_at hl 1 rfl) ?_
          refine gF (v := .int (bI yy.wants)) hx hb hown hE hK hP 0 rfl rfl layM 70 (by decide) w470 rfl d_M_question_47 ?_
          refine lv_if_eq hx hb d_M_question_50 (tgt := 75) rfl (fun g16 => ?_) (fun g16 => ?_)
          · have g16 := bI_0 g16
            refine lv_iload_n hx hb d_M_question_75 rfl (lv_at hl 0 rfl) ?_
            refine lv_if_eq hx hb d_M_question_76 (tgt := 96) rfl (fun h9 => absurd h9 (by rw [g5]; decide)) (fun _ => ?_)
            refine lv_aload_n hx hb d_M_question_79 rfl (lv_at hl 1 rfl) ?_
            refine jfI (rnV (As := []) (rest := []) hx hb hml hown hE hK (hN _ _ hS) hP hD (k_isOpen l D dA H.size h ad yy (Nat.le_trans (sI_26 (lI_1 i2b g16).2.2.2.1) (by decide)) (fun k hk => Nat.lt_of_le_of_lt (sI_lt (lI_1 i2b g16).2.2.2.1 hk) (by decide))) (q0 := 0) rfl rfl w1070 w1069 w1071 w1072 w328 rfl rfl ⟨⟨by decide, by decide⟩, rfl⟩ ⟨(Nat.le_of_ble_eq_true rfl), (Nat.le_of_ble_eq_true rfl)⟩ rfl hl.1 rfl (Nat.le_of_ble_eq_true rfl) d_M_question_80 ⟨(Nat.le_of_ble_eq_true rfl), (Nat.le_of_ble_eq_true rfl)⟩) hP hD hS hA (fun r17 u18 H locs hp9 hP hD hS => ?_)
            have hP : va_P D vwCl (MW dA h ad yy) H := hP
            have hD : va_D A (MW dA h ad yy) := hD
            replace hp9 : bI yy.opnB = r17 := Eq.symm hp9
            subst hp9
            refine lv_if_eq hx hb d_M_question_83 (tgt := 96) rfl (fun g19 => ?_) (fun g19 => ?_)
            · have g19 := bI_0 g19
              refine lv_iload_n hx hb d_M_question_96 rfl (lv_at hl 0 rfl) ?_
              refine lv_if_eq hx hb d_M_question_97 (tgt := 112) rfl (fun h9 => absurd h9 (by rw [g5]; decide)) (fun _ => ?_)
              refine lv_aload_n hx hb d_M_question_100 rfl (lv_at hl 1 rfl) ?_
              refine lv_iconst (v := 1) hx hb d_M_question_101 (by decide) ?_
              refine jfI (rnV (As := [.int 1]) (rest := []) hx hb hml hown hE hK (hN _ _ hS) hP hD (k_doneTo l D dA H.size h ad yy 1 (oI_dI (lI_1 i2b g16)) (by decide) (by decide)) (q0 := 0) rfl rfl w1058 w1057 w1059 w1060 w328 rfl rfl ⟨⟨by decide, by decide⟩, rfl⟩ ⟨(Nat.le_of_ble_eq_true rfl), (Nat.le_of_ble_eq_true rfl)⟩ rfl hl.1 rfl (Nat.le_of_ble_eq_true rfl) d_M_question_102 ⟨(Nat.le_of_ble_eq_true rfl), (Nat.le_of_ble_eq_true rfl)⟩) hP hD hS hA (fun r20 u21 H locs hp9 hP hD hS => ?_)
              obtain ⟨y22, h9u⟩ : ∃ z9, z9 = u21 := ⟨_, rfl⟩
              subst h9u
              have hP : va_P D vwCl (MW dA h ad y22) H := hP
              have hD : va_D A (MW dA h ad y22) := hD
              obtain ⟨hp9, f_e_23⟩ := hp9
              replace hp9 : bI (yy.dt 1).1 = r20 := Eq.symm hp9
              subst hp9
              refine lv_if_eq hx hb d_M_question_105 (tgt := 112) rfl (fun g24 => ?_) (fun g24 => ?_)
              · have g24 := bI_0 g24
                refine lv_iconst (v := 0) hx hb d_M_question_112 (by decide) ?_
                exact rfZ hx hb hr (bI_nar false) hlk hS y22 (by rw [i1, if_pos g5, quR_e (by omega) g6 g16, show yy.qu3 = yy.dt 1 from if_neg (by rw [g19]; decide)]; exact ⟨by rw [g24]; rfl, f_e_23⟩) hP hD (Nat.le_of_ble_eq_true rfl) (Nat.le_of_ble_eq_true rfl) d_M_question_113
              · have g24 := bI_n0 g24
                refine lv_iconst (v := 1) hx hb d_M_question_108 (by decide) ?_
                refine lv_goto hx hb d_M_question_109 (tgt := 113) rfl ?_
                exact rfZ hx hb hr (bI_nar true) hlk hS y22 (by rw [i1, if_pos g5, quR_e (by omega) g6 g16, show yy.qu3 = yy.dt 1 from if_neg (by rw [g19]; decide)]; exact ⟨by rw [g24]; rfl, f_e_23⟩) hP hD (Nat.le_of_ble_eq_true rfl) (Nat.le_of_ble_eq_true rfl) d_M_question_113
            · have g19 := bI_n0 g19
              refine lv_aload_n hx hb d_M_question_86 rfl (lv_at hl 1 rfl) ?_
              refine lv_iconst (v := 2) hx hb d_M_question_87 (by decide) ?_
              refine lv_aload_n hx hb d_M_question_88 rfl (lv_at hl 1 rfl) ?_
              refine gF (v := .int (nI yy.frm)) hx hb hown hE hK hP 0 rfl rfl layM 45 (by decide) w464 rfl d_M_question_89 ?_
              refine jfI (rnV (As := [.int 2, .int (nI yy.frm)]) (rest := []) hx hb hml hown hE hK (hN _ _ hS) hP hD (k_flaw_0 l D dA H.size h ad yy 2 (nI yy.frm) (lI_1 i2b g16).1.2.2.2) (q0 := 0) rfl rfl w431 w430 w432 w433 w328 rfl rfl ⟨⟨by decide, by decide⟩, rfl⟩ ⟨(Nat.le_of_ble_eq_true rfl), (Nat.le_of_ble_eq_true rfl)⟩ rfl hl.1 rfl (Nat.le_of_ble_eq_true rfl) d_M_question_92 ⟨(Nat.le_of_ble_eq_true rfl), (Nat.le_of_ble_eq_true rfl)⟩) hP hD hS hA (fun r25 u26 H locs hp9 hP hD hS => ?_)
              have hP : va_P D vwCl (MW dA h ad (MS.s_faultPlace (MS.s_faultCode yy 2) (nI yy.frm))) H := hP
              have hD : va_D A (MW dA h ad (MS.s_faultPlace (MS.s_faultCode yy 2) (nI yy.frm))) := hD
              replace hp9 : bI false = r25 := Eq.symm hp9
              subst hp9
              exact rfZ hx hb hr (bI_nar false) hlk hS (MS.s_faultPlace (MS.s_faultCode yy 2) (nI yy.frm)) (by rw [i1, if_pos g5, quR_e (by omega) g6 g16, show yy.qu3 = _ from if_pos g19]; exact ⟨rfl, rfl⟩) hP hD (Nat.le_of_ble_eq_true rfl) (Nat.le_of_ble_eq_true rfl) d_M_question_95
          · have g16 := bI_n0 g16
            refine lv_aload_n hx hb d_M_question_53 rfl (lv_at hl 1 rfl) ?_
            refine gF (v := .int (bI yy.wants)) hx hb hown hE hK hP 0 rfl rfl layM 70 (by decide) w470 rfl d_M_question_54 ?_
            refine lv_if_eq hx hb d_M_question_57 (tgt := 67) rfl (fun h9 => absurd h9 (by rw [g16]; decide)) (fun _ => ?_)
            refine lv_aload_n hx hb d_M_question_60 rfl (lv_at hl 1 rfl) ?_
            refine jfI (rnV (As := []) (rest := []) hx hb hml hown hE hK (hN _ _ hS) hP hD (k_operand l D dA H.size h ad yy (lI_0 i2b g16)) (q0 := 0) rfl rfl w484 w483 w485 w486 w328 rfl rfl ⟨⟨by decide, by decide⟩, rfl⟩ ⟨(Nat.le_of_ble_eq_true rfl), (Nat.le_of_ble_eq_true rfl)⟩ rfl hl.1 rfl (Nat.le_of_ble_eq_true rfl) d_M_question_61 ⟨(Nat.le_of_ble_eq_true rfl), (Nat.le_of_ble_eq_true rfl)⟩) hP hD hS hA (fun r27 u28 H locs hp9 hP hD hS => ?_)
            obtain ⟨y29, h9u⟩ : ∃ z9, z9 = u28 := ⟨_, rfl⟩
            subst h9u
            have hP : va_P D vwCl (MW dA h ad y29) H := hP
            have hD : va_D A (MW dA h ad y29) := hD
            obtain ⟨hp9, f_e_30⟩ := hp9
            replace hp9 : bI (yy.odF).1 = r27 := Eq.symm hp9
            subst hp9
            refine lv_goto hx hb d_M_question_64 (tgt := 71) rfl ?_
            refine lv_istore_n hx hb d_M_question_71 rfl hl (by decide) rfl (fun ls hl => ?_)
            have hl : lv_has ls 3 [(2, .int (bI (yy.odF).1)), (0, .ref h)] := hl
            refine lv_goto hx hb d_M_question_72 (tgt := 35) rfl ?_
            exact ih35 _ (by rw [← hk9, if_pos g5]; split <;> omega) y29 ((yy.odF).1) (w - 1) (i1b.trans ((quR_s (by omega) (Or.inr g16) (show y29 = yy.q1.2 from f_e_30.trans (by rw [show yy.q1 = yy.odF from if_pos g16]))).trans (by rw [(show yy.q1 = yy.odF from if_pos g16)]))) (fun z9 => (q1_in i2b (Prod.ext (by rw [(show yy.q1 = yy.odF from if_pos g16)]; exact z9) (show y29 = yy.q1.2 from f_e_30.trans (by rw [show yy.q1 = yy.odF from if_pos g16])).symm)).1) (fun z9 => by have a9 := q1_in i2b (Prod.ext (by rw [(show yy.q1 = yy.odF from if_pos g16)]; exact z9) (show y29 = yy.q1.2 from f_e_30.trans (by rw [show yy.q1 = yy.odF from if_pos g16])).symm); have b9 := qk_f a9.2.1 MS.length rfl; have c9 := a9.2.2.1; exact ⟨by omega, b9.trans i3c⟩) rfl H _ ls hP hD hS (lv_sub hl [0, 1] rfl)
  exact L35 _ y3 (((MS.s_wants (MS.s_opn (MS.s_signCount (MS.s_works (MS.s_pile (MS.s_too x 0) 0) how) 0) 0) true).nx).1) (x.length + 1) (quF_0 f_e_4) (fun z9 => by rw [f_e_4]; exact (qu0_lI hqw z9).1) (fun z9 => ⟨by omega, by rw [f_e_4]; exact qk_f (qu0_lI hqw z9).2 MS.length rfl⟩) rfl H _ ls hP hD hS (lv_sub hl [0, 1] rfl)
