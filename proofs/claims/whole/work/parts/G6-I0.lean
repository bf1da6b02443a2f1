section
theorem d_Q_readFactor_48 : decode prog_6_method_7_code 48 = .ok (.aload_n 0, 1) := by decide +kernel
theorem d_Q_readFactor_49 : decode prog_6_method_7_code 49 = .ok (.getfield 18, 3) := by decide +kernel
theorem d_Q_readFactor_52 : decode prog_6_method_7_code 52 = .ok (.new 58, 3) := by decide +kernel
theorem d_Q_readFactor_55 : decode prog_6_method_7_code 55 = .ok (.dup, 1) := by decide +kernel
theorem d_Q_readFactor_56 : decode prog_6_method_7_code 56 = .ok (.sipush 257, 3) := by decide +kernel
theorem d_Q_readFactor_59 : decode prog_6_method_7_code 59 = .ok (.aload_n 0, 1) := by decide +kernel
theorem d_Q_readFactor_60 : decode prog_6_method_7_code 60 = .ok (.getfield 48, 3) := by decide +kernel
theorem d_Q_readFactor_63 : decode prog_6_method_7_code 63 = .ok (.aload_n 0, 1) := by decide +kernel
theorem d_Q_readFactor_64 : decode prog_6_method_7_code 64 = .ok (.getfield 73, 3) := by decide +kernel
theorem d_Q_readFactor_67 : decode prog_6_method_7_code 67 = .ok (.invokespecial 60, 3) := by decide +kernel
theorem d_Q_readFactor_70 : decode prog_6_method_7_code 70 = .ok (.invokevirtual 63, 3) := by decide +kernel
theorem d_Q_readFactor_73 : decode prog_6_method_7_code 73 = .ok (.pop, 1) := by decide +kernel
theorem d_Q_readFactor_74 : decode prog_6_method_7_code 74 = .ok (.aload_n 0, 1) := by decide +kernel
theorem d_Q_readFactor_75 : decode prog_6_method_7_code 75 = .ok (.invokevirtual 38, 3) := by decide +kernel
theorem d_Q_readFactor_78 : decode prog_6_method_7_code 78 = .ok (.iconst 1, 1) := by decide +kernel
theorem d_Q_readFactor_79 : decode prog_6_method_7_code 79 = .ok (.ireturn, 1) := by decide +kernel
theorem d_Q_readFactor_80 : decode prog_6_method_7_code 80 = .ok (.aload_n 0, 1) := by decide +kernel
theorem d_Q_readFactor_81 : decode prog_6_method_7_code 81 = .ok (.invokevirtual 77, 3) := by decide +kernel
theorem d_Q_readFactor_84 : decode prog_6_method_7_code 84 = .ok (.ireturn, 1) := by decide +kernel
theorem d_Q_readFactor_85 : decode prog_6_method_7_code 85 = .ok (.iload_n 1, 1) := by decide +kernel
theorem d_Q_readFactor_86 : decode prog_6_method_7_code 86 = .ok (.bipush 8, 2) := by decide +kernel
theorem d_Q_readFactor_88 : decode prog_6_method_7_code 88 = .ok (.if_icmp .ge 13, 3) := by decide +kernel
theorem d_Q_readFactor_91 : decode prog_6_method_7_code 91 = .ok (.aload_n 0, 1) := by decide +kernel
theorem d_Q_readFactor_92 : decode prog_6_method_7_code 92 = .ok (.iload_n 1, 1) := by decide +kernel
theorem d_Q_readFactor_93 : decode prog_6_method_7_code 93 = .ok (.iconst 1, 1) := by decide +kernel
theorem d_Q_readFactor_94 : decode prog_6_method_7_code 94 = .ok (.iadd, 1) := by decide +kernel
theorem d_Q_readFactor_95 : decode prog_6_method_7_code 95 = .ok (.invokevirtual 81, 3) := by decide +kernel
theorem d_Q_readFactor_98 : decode prog_6_method_7_code 98 = .ok (.goto 12, 3) := by decide +kernel
theorem d_Q_readFactor_110 : decode prog_6_method_7_code 110 = .ok (.ireturn, 1) := by decide +kernel
theorem w1669 : Cond.methodLink "SeriesVault$Question" 77 ⟨"SeriesVault$Question", "readFunc", "()Z"⟩ ∈ aW := aw_of (tb_7 (List.mem_of_getElem? (i := 41) rfl)) rfl
theorem w1670 : Cond.code ⟨"SeriesVault$Question", "readFunc", "()Z"⟩ prog_6_method_10_code 4 (some FieldType.boolean) ∈ aW := aw_of (tb_7 (List.mem_of_getElem? (i := 44) rfl)) rfl
theorem w1671 : Cond.instanceMethod ⟨"SeriesVault$Question", "readFunc", "()Z"⟩ ∈ aW := aw_of (tb_7 (List.mem_of_getElem? (i := 43) rfl)) rfl
theorem w1672 : Cond.selects "SeriesVault$Question" ⟨"SeriesVault$Question", "readFunc", "()Z"⟩ ⟨"SeriesVault$Question", "readFunc", "()Z"⟩ ∈ aW := aw_pr (List.mem_map.mpr ⟨_, pv_3 (List.mem_of_getElem? (i := 13) rfl), rfl⟩) rfl
theorem w1673 : Cond.methodLink "SeriesVault$Question" 81 ⟨"SeriesVault$Question", "readOpened", "(I)Z"⟩ ∈ aW := aw_of (tb_7 (List.mem_of_getElem? (i := 123) rfl)) rfl
theorem w1674 : Cond.code ⟨"SeriesVault$Question", "readOpened", "(I)Z"⟩ prog_6_method_8_code 5 (some FieldType.boolean) ∈ aW := aw_of (tb_7 (List.mem_of_getElem? (i := 126) rfl)) rfl
theorem w1675 : Cond.instanceMethod ⟨"SeriesVault$Question", "readOpened", "(I)Z"⟩ ∈ aW := aw_of (tb_7 (List.mem_of_getElem? (i := 125) rfl)) rfl
theorem w1676 : Cond.selects "SeriesVault$Question" ⟨"SeriesVault$Question", "readOpened", "(I)Z"⟩ ⟨"SeriesVault$Question", "readOpened", "(I)Z"⟩ ∈ aW := aw_pr (List.mem_map.mpr ⟨_, pv_4 (List.mem_of_getElem? (i := 2) rfl), rfl⟩) rfl
set_option maxHeartbeats 4000000 in
set_option maxRecDepth 100000 in
theorem v_QreadFactor (l : Launch) (D : va_G) (dA : Nat → ClassId) (sz : Nat) (e0 mi : Nat) (kA vA : Nat → Nat) (fm : Nat) (h : Nat) (ad : Nat → Nat) (sa : Nat) (g : LI) (r : va_W) (x : VS) (o : Nat) (O : PF) (fr : Nat) (lo : Nat) (hsa : sa = ad 23) (hw : VS.pw dA e0 sa r x g) (hO : OpnC (o + 1) O fr lo) (hgO : gdO O) (ho : o < 8) : Met l ⟨"SeriesVault$Question", "readFactor", "(I)Z"⟩ [Cond.code ⟨"SeriesVault$Question", "readFactor", "(I)Z"⟩ prog_6_method_7_code 2 (some FieldType.boolean)] { frames := fr + 10, cells := 8 * (rqP (pFc O x.tape x.qlen x.tk).1 (pFc O x.tape x.qlen x.tk).2.1 - x.qst), slots := 64 * (rqP (pFc O x.tape x.qlen x.tk).1 (pFc O x.tape x.qlen x.tk).2.1 - x.qst) + 4 * (cpR g.eN g.sz (pFc O x.tape x.qlen x.tk).2.2.length - g.eN), locals := lo + 242 } (pCs D dA e0 mi kA vA fm [.ref (ad 22), .int (nI o)] (VW dA h ad x) sz) (va_Qi (fun (r9 : Int32) (u9 : VS × LI) => r9 = bI (pFc O x.tape x.qlen x.tk).1 ∧ VS.pq dA e0 sa r x g (pFc O x.tape x.qlen x.tk) u9.1 u9.2) (fun (u9 : VS × LI) t9 => bW D (va_A (VW dA h ad x) sz) (VW dA h ad u9.1) t9) (va_A (VW dA h ad x) sz)) (8 * (rqP (pFc O x.tape x.qlen x.tk).1 (pFc O x.tape x.qlen x.tk).2.1 - x.qst)) (64 * (rqP (pFc O x.tape x.qlen x.tk).1 (pFc O x.tape x.qlen x.tk).2.1 - x.qst) + 4 * (cpR g.eN g.sz (pFc O x.tape x.qlen x.tk).2.2.length - g.eN)) (va_A (VW dA h ad x) sz) := by
  refine mkS (y := ⟨"SeriesVault$Question", "readFactor", "(I)Z"⟩) (cc := prog_6_method_7_code) (maxL := 2) (av := [.ref (ad 22), .int (nI o)]) (ws := VW dA h ad x) (sz := sz) (Qc := fun A => va_Qi (fun (r9 : Int32) (u9 : VS × LI) => r9 = bI (pFc O x.tape x.qlen x.tk).1 ∧ VS.pq dA e0 sa r x g (pFc O x.tape x.qlen x.tk) u9.1 u9.2) (fun (u9 : VS × LI) t9 => bW D A (VW dA h ad u9.1) t9) A) (by decide) (Nat.le_of_ble_eq_true rfl) ?_
  intro A p e s m below meth c ls hsz hZ hT hM hQ hB
  obtain ⟨hx, hb, hr, hml, hown, hin, hlk, hE, hK, hP, hD, hS, hA, hN, hl⟩ := hB
  have hown : s.vm.findClass "SeriesVault$Question" = some m.cls := hown
  have hl : lv_has ls 2 [(0, .ref (ad 22)), (1, .int (nI o))] := hl
  obtain ⟨H, hH⟩ : ∃ z, z = s.heap := ⟨_, rfl⟩
  have hP : va_P D vwCl (VW dA h ad x) H := by rw [hH]; exact hP
  have hS : va_S A s.heap H [] := by rw [hH]; exact hS
  rw [← hH]
  have kb : x.qst ≤ x.qen ∧ x.qen ≤ x.qlen ∧ x.qlen ≤ x.tpN ∧ x.tpN ≤ 131072 ∧ x.qlen ≤ 16384 := ⟨hw.1.2.2.2.2.2.1, hw.1.2.2.2.2.2.2.1, hw.1.2.1, hw.1.2.2.1, hw.1.2.2.2.1⟩
  have kq : x.qtp = x.tpA := hw.1.1
  have tx0 : tkok x.qlen x.tk := hw.1.2.2.2.2.2
  have gz0 : x.qen ≤ rqP (pFc O x.tape x.qlen x.tk).1 (pFc O x.tape x.qlen x.tk).2.1 := (pFc_g hgO x.tape x.qlen x.tk tx0).2.1
  refine lv_aload_n hx hb d_Q_readFactor_0 rfl (lv_at hl 0 rfl) ?_
  refine gF (v := .int x.qk) hx hb hown hE hK hP 36 rfl rfl layQ 2 (by decide) w663 rfl d_Q_readFactor_1 ?_
  rcases fc4 x.qk with h1 | h1 | h1 | h1
  · refine lv_lookup (x := x.qk) (off := 44) (tgt := 48) hx hb d_Q_readFactor_4 (by decide) (by rw [h1]; decide) rfl ?_
    refine lv_aload_n hx hb d_Q_readFactor_48 rfl (lv_at hl 0 rfl) ?_
    have E0 : pFc O x.tape x.qlen x.tk = (true, nxT x.tape x.qlen x.tk, [spO 257 x.tk.2.1 x.tk.2.2.2.1]) := pFc_1 h1
    have nx0 : x.qst < x.qen := tx0.2.2.1 (show ¬ x.qk = 256 by rw [h1]; decide)
    have lE : (pFc O x.tape x.qlen x.tk).2.2.length = 1 := by rw [E0]; rfl
    have cE : cpR g.eN g.sz (pFc O x.tape x.qlen x.tk).2.2.length = gqN g := by rw [lE]; rfl
    have b3 := gq_S g
    refine gF (v := .ref (ad 23)) hx hb hown hE hK hP 36 rfl rfl layQ 8 (by decide) w678 rfl d_Q_readFactor_49 ?_
    refine nOf hx hb hown hE hK hP hD hS hA (ci := 13) rfl layE tyE tokE w1648 w859 w1496 (fs := [.int 0, .int 0, .long 0, .null, .int 0, .null, .null, .null]) dfE (show 0 + 1 ≤ 8 * (rqP (pFc O x.tape x.qlen x.tk).1 (pFc O x.tape x.qlen x.tk).2.1 - x.qst) by omega) (show 0 + 8 ≤ 64 * (rqP (pFc O x.tape x.qlen x.tk).1 (pFc O x.tape x.qlen x.tk).2.1 - x.qst) + 4 * (cpR g.eN g.sz (pFc O x.tape x.qlen x.tk).2.2.length - g.eN) by omega) d_Q_readFactor_52 (fun sp H hP hD hS => ?_)
    have hP : va_P D vwCl ([(sp, .inr (13, [.int 0, .int 0, .long 0, .null, .int 0, .null, .null, .null]))] ++ (VW dA h ad x)) H := hP
    have hD : va_D A ([(sp, .inr (13, [.int 0, .int 0, .long 0, .null, .int 0, .null, .null, .null]))] ++ (VW dA h ad x)) := hD
    refine lv_dup hx hb d_Q_readFactor_55 rfl ?_
    refine lv_sipush (v := 257) hx hb d_Q_readFactor_56 (by decide) ?_
    refine lv_aload_n hx hb d_Q_readFactor_59 rfl (lv_at hl 0 rfl) ?_
    refine gF (v := .int (nI x.qst)) hx hb hown hE hK hP 37 rfl rfl layQ 3 (by decide) w662 rfl d_Q_readFactor_60 ?_
    refine lv_aload_n hx hb d_Q_readFactor_63 rfl (lv_at hl 0 rfl) ?_
    refine gF (v := .long x.qnum) hx hb hown hE hK hP 37 rfl rfl layQ 5 (by decide) w1560 rfl d_Q_readFactor_64 ?_
    refine jkV (wr := []) (rnIy (As := [.int 257, .int (nI x.qst), .long x.qnum]) (rest := [.ref sp, .ref (ad 23)]) hx hb hml hown hE hK hZ hT hM hS (hN _ _ hS) hP hD (v_Einit_o l D dA H.size e0 mi (VW dA h ad x) sp 257 x.qst x.qnum (by decide)) w1651 w1650 w1652 w1496 rfl rfl rfl ⟨⟨by decide, by decide⟩, rfl⟩ ⟨(by first | exact Nat.le_of_ble_eq_true rfl | (dsimp only; omega)), (by first | exact Nat.le_of_ble_eq_true rfl | (dsimp only; omega))⟩ rfl hl.1 rfl (by first | exact Nat.le_of_ble_eq_true rfl | (dsimp only; omega)) d_Q_readFactor_67 ⟨(show 0 + 1 + 4 ≤ 8 * (rqP (pFc O x.tape x.qlen x.tk).1 (pFc O x.tape x.qlen x.tk).2.1 - x.qst) by omega), (show 0 + 8 + 6 ≤ 64 * (rqP (pFc O x.tape x.qlen x.tk).1 (pFc O x.tape x.qlen x.tk).2.1 - x.qst) + 4 * (cpR g.eN g.sz (pFc O x.tape x.qlen x.tk).2.2.length - g.eN) by omega)⟩) hP hD hS hA (fun u2 H locs hp9 hP hD hS => ?_)
    obtain ⟨na, ln, lt, mk⟩ := u2
    have hP : va_P D vwCl ([(na, .inl (dA 6, 0, .inr (.inr (.inr (.inr (fun _ => none))))))] ++ ([(ln, .inr (6, [.ref e0, .int 0, .int 0]))] ++ ([(lt, .inr (6, [.ref e0, .int 0, .int 0]))] ++ ([(mk, .inl (dA 1, 0, .inl (fun _ => 0)))] ++ ([(sp, .inr (13, [.int 257, .int (nI x.qst), .long x.qnum, .ref na, .int 0, .ref ln, .ref lt, .ref mk]))] ++ (VW dA h ad x)))))) H := hP
    have hD : va_D A ([(na, .inl (dA 6, 0, .inr (.inr (.inr (.inr (fun _ => none))))))] ++ ([(ln, .inr (6, [.ref e0, .int 0, .int 0]))] ++ ([(lt, .inr (6, [.ref e0, .int 0, .int 0]))] ++ ([(mk, .inl (dA 1, 0, .inl (fun _ => 0)))] ++ ([(sp, .inr (13, [.int 257, .int (nI x.qst), .long x.qnum, .ref na, .int 0, .ref ln, .ref lt, .ref mk]))] ++ (VW dA h ad x)))))) := hD
    have hP : va_P D vwCl (VW dA h ad (VS.s_pl x (x.pl ++ ([(na, .inl (dA 6, 0, .inr (.inr (.inr (.inr (fun _ => none))))))] ++ ([(ln, .inr (6, [.ref e0, .int 0, .int 0]))] ++ ([(lt, .inr (6, [.ref e0, .int 0, .int 0]))] ++ ([(mk, .inl (dA 1, 0, .inl (fun _ => 0)))] ++ ([(sp, .inr (13, [.int 257, .int (nI x.qst), .long x.qnum, .ref na, .int 0, .ref ln, .ref lt, .ref mk]))])))))))) H := pmP (show List.Perm (α := Nat × va_E) ([(na, .inl (dA 6, 0, .inr (.inr (.inr (.inr (fun _ => none))))))] ++ ([(ln, .inr (6, [.ref e0, .int 0, .int 0]))] ++ ([(lt, .inr (6, [.ref e0, .int 0, .int 0]))] ++ ([(mk, .inl (dA 1, 0, .inl (fun _ => 0)))] ++ ([(sp, .inr (13, [.int 257, .int (nI x.qst), .long x.qnum, .ref na, .int 0, .ref ln, .ref lt, .ref mk]))] ++ (VW dA h ad x)))))) (VW dA h ad (VS.s_pl x (x.pl ++ ([(na, .inl (dA 6, 0, .inr (.inr (.inr (.inr (fun _ => none))))))] ++ ([(ln, .inr (6, [.ref e0, .int 0, .int 0]))] ++ ([(lt, .inr (6, [.ref e0, .int 0, .int 0]))] ++ ([(mk, .inl (dA 1, 0, .inl (fun _ => 0)))] ++ ([(sp, .inr (13, [.int 257, .int (nI x.qst), .long x.qnum, .ref na, .int 0, .ref ln, .ref lt, .ref mk]))])))))))) from plP5 (dA := dA) (h := h) (ad := ad) x ([(na, .inl (dA 6, 0, .inr (.inr (.inr (.inr (fun _ => none))))))]) ([(ln, .inr (6, [.ref e0, .int 0, .int 0]))]) ([(lt, .inr (6, [.ref e0, .int 0, .int 0]))]) ([(mk, .inl (dA 1, 0, .inl (fun _ => 0)))]) ([(sp, .inr (13, [.int 257, .int (nI x.qst), .long x.qnum, .ref na, .int 0, .ref ln, .ref lt, .ref mk]))])) hP
    have hD : va_D A (VW dA h ad (VS.s_pl x (x.pl ++ ([(na, .inl (dA 6, 0, .inr (.inr (.inr (.inr (fun _ => none))))))] ++ ([(ln, .inr (6, [.ref e0, .int 0, .int 0]))] ++ ([(lt, .inr (6, [.ref e0, .int 0, .int 0]))] ++ ([(mk, .inl (dA 1, 0, .inl (fun _ => 0)))] ++ ([(sp, .inr (13, [.int 257, .int (nI x.qst), .long x.qnum, .ref na, .int 0, .ref ln, .ref lt, .ref mk]))])))))))) := pmD (show List.Perm (α := Nat × va_E) ([(na, .inl (dA 6, 0, .inr (.inr (.inr (.inr (fun _ => none))))))] ++ ([(ln, .inr (6, [.ref e0, .int 0, .int 0]))] ++ ([(lt, .inr (6, [.ref e0, .int 0, .int 0]))] ++ ([(mk, .inl (dA 1, 0, .inl (fun _ => 0)))] ++ ([(sp, .inr (13, [.int 257, .int (nI x.qst), .long x.qnum, .ref na, .int 0, .ref ln, .ref lt, .ref mk]))] ++ (VW dA h ad x)))))) (VW dA h ad (VS.s_pl x (x.pl ++ ([(na, .inl (dA 6, 0, .inr (.inr (.inr (.inr (fun _ => none))))))] ++ ([(ln, .inr (6, [.ref e0, .int 0, .int 0]))] ++ ([(lt, .inr (6, [.ref e0, .int 0, .int 0]))] ++ ([(mk, .inl (dA 1, 0, .inl (fun _ => 0)))] ++ ([(sp, .inr (13, [.int 257, .int (nI x.qst), .long x.qnum, .ref na, .int 0, .ref ln, .ref lt, .ref mk]))])))))))) from plP5 (dA := dA) (h := h) (ad := ad) x ([(na, .inl (dA 6, 0, .inr (.inr (.inr (.inr (fun _ => none))))))]) ([(ln, .inr (6, [.ref e0, .int 0, .int 0]))]) ([(lt, .inr (6, [.ref e0, .int 0, .int 0]))]) ([(mk, .inl (dA 1, 0, .inl (fun _ => 0)))]) ([(sp, .inr (13, [.int 257, .int (nI x.qst), .long x.qnum, .ref na, .int 0, .ref ln, .ref lt, .ref mk]))])) hD
    obtain ⟨pl3, e_pl3⟩ : ∃ z9, z9 = x.pl ++ ([(na, .inl (dA 6, 0, .inr (.inr (.inr (.inr (fun _ => none))))))] ++ ([(ln, .inr (6, [.ref e0, .int 0, .int 0]))] ++ ([(lt, .inr (6, [.ref e0, .int 0, .int 0]))] ++ ([(mk, .inl (dA 1, 0, .inl (fun _ => 0)))] ++ ([(sp, .inr (13, [.int 257, .int (nI x.qst), .long x.qnum, .ref na, .int 0, .ref ln, .ref lt, .ref mk]))]))))) := ⟨_, rfl⟩
    rw [← e_pl3] at hP hD
    have s_pl3 : ∀ c, c ∈ x.pl → c ∈ pl3 := by rw [e_pl3]; exact fun _ hm => List.mem_append_left _ hm
    have t_pl3_0 : ((na, .inl (dA 6, 0, .inr (.inr (.inr (.inr (fun _ => none)))))) : Nat × va_E) ∈ pl3 := by rw [e_pl3]; exact List.mem_append_right _ (List.mem_of_getElem? (i := 0) rfl)
    have t_pl3_1 : ((ln, .inr (6, [.ref e0, .int 0, .int 0])) : Nat × va_E) ∈ pl3 := by rw [e_pl3]; exact List.mem_append_right _ (List.mem_of_getElem? (i := 1) rfl)
    have t_pl3_2 : ((lt, .inr (6, [.ref e0, .int 0, .int 0])) : Nat × va_E) ∈ pl3 := by rw [e_pl3]; exact List.mem_append_right _ (List.mem_of_getElem? (i := 2) rfl)
    have t_pl3_3 : ((mk, .inl (dA 1, 0, .inl (fun _ => 0))) : Nat × va_E) ∈ pl3 := by rw [e_pl3]; exact List.mem_append_right _ (List.mem_of_getElem? (i := 3) rfl)
    have t_pl3_4 : ((sp, .inr (13, [.int 257, .int (nI x.qst), .long x.qnum, .ref na, .int 0, .ref ln, .ref lt, .ref mk])) : Nat × va_E) ∈ pl3 := by rw [e_pl3]; exact List.mem_append_right _ (List.mem_of_getElem? (i := 4) rfl)
    have hP : va_P D vwCl (VW dA h ad (VS.s_pl x pl3)) H := hP
    have hD : va_D A (VW dA h ad (VS.s_pl x pl3)) := hD
    obtain ⟨y6, e_y6⟩ : ∃ w9, w9 = VS.s_pl x pl3 := ⟨_, rfl⟩
    rw [← e_y6] at hP hD
    have hP : va_P D vwCl (VW dA h ad y6) H := hP
    have hD : va_D A (VW dA h ad y6) := hD
    have pk6 : x.pk y6 := by rw [e_y6]; exact ⟨rfl, s_pl3⟩
    have ep6 : y6.pl = pl3 := by rw [e_y6]
    obtain ⟨hk_y6, qq_y6, tk_y6⟩ := qok_pk hw.1 pk6
    have ms6 : (sp, .inr (13, [.int 257, .int (nI x.qst), .long x.qnum, .ref na, .int 0, .ref ln, .ref lt, .ref mk])) ∈ y6.pl := by rw [ep6]; exact t_pl3_4
    have is6 : isSP dA y6.pl sp (spO 257 x.qst x.qnum) := by rw [ep6]; exact isSP_o t_pl3_4 t_pl3_0 t_pl3_1 t_pl3_2 t_pl3_3
    have hl6 : y6.ll = LqW dA sa g ++ r := (qp_ll qq_y6).trans hw.2.1
    rw [← hsa]
    have hP := pmP (show List.Perm (α := Nat × va_E) (VW dA h ad y6) (LqW dA sa g ++ (VW dA h ad (VS.s_ll y6 r))) from llP (dA := dA) (h := h) (ad := ad) (x := y6) (L := LqW dA sa g) (r := r) hl6) hP
    have hD := pmD (show List.Perm (α := Nat × va_E) (VW dA h ad y6) (LqW dA sa g ++ (VW dA h ad (VS.s_ll y6 r))) from llP (dA := dA) (h := h) (ad := ad) (x := y6) (L := LqW dA sa g) (r := r) hl6) hD
    have hP : va_P D vwCl (LqW dA sa g ++ (VW dA h ad (VS.s_ll y6 r))) H := hP
    have hD : va_D A (LqW dA sa g ++ (VW dA h ad (VS.s_ll y6 r))) := hD
    refine jkI (wr := []) (rnVy (As := [.ref sp]) (rest := []) hx hb hml hown hE hK hZ hT hM hS (hN _ _ hS) hP hD (v_LaddQ_E l D dA H.size e0 mi (VW dA h ad (VS.s_ll y6 r)) sa g sp ([.int 257, .int (nI x.qst), .long x.qnum, .ref na, .int 0, .ref ln, .ref lt, .ref mk]) hw.2.2.1.1 (fun i hi y hy => by obtain ⟨vs, hv⟩ := hw.2.2.1.2 i hi y hy; have h9 : (y, .inr (13, vs)) ∈ (VS.s_ll y6 r).pl := qq_y6.2 _ hv; exact ⟨vs, (fun _ hm => (plm hm)) _ h9⟩) (by have h9 : (sp, .inr (13, [.int 257, .int (nI x.qst), .long x.qnum, .ref na, .int 0, .ref ln, .ref lt, .ref mk])) ∈ (VS.s_ll y6 r).pl := ms6; exact ((fun _ hm => (plm hm)) _ h9))) (q0 := 0) rfl rfl w812 w1653 w813 w814 w680 rfl rfl ⟨⟨by decide, by decide⟩, rfl⟩ ⟨(by first | exact Nat.le_of_ble_eq_true rfl | (dsimp only; omega)), (by first | exact Nat.le_of_ble_eq_true rfl | (dsimp only; omega))⟩ rfl hl.1 rfl (by first | exact Nat.le_of_ble_eq_true rfl | (dsimp only; omega)) d_Q_readFactor_70 ⟨(show 0 + 1 + 4 + 1 ≤ 8 * (rqP (pFc O x.tape x.qlen x.tk).1 (pFc O x.tape x.qlen x.tk).2.1 - x.qst) by omega), (show 0 + 8 + 6 + (gqS g) ≤ 64 * (rqP (pFc O x.tape x.qlen x.tk).1 (pFc O x.tape x.qlen x.tk).2.1 - x.qst) + 4 * (cpR g.eN g.sz (pFc O x.tape x.qlen x.tk).2.2.length - g.eN) by omega)⟩) hP hD hS hA (fun r4 u5 H locs hp9 hP hD hS => ?_)
    obtain ⟨gs1, h9u⟩ : ∃ z9, z9 = u5 := ⟨_, rfl⟩
    subst h9u
    have hP : va_P D vwCl (LqW dA sa gs1 ++ (VW dA h ad (VS.s_ll y6 r))) H := hP
    have hD : va_D A (LqW dA sa gs1 ++ (VW dA h ad (VS.s_ll y6 r))) := hD
    obtain ⟨hp9, f_f_6⟩ := hp9
    replace hp9 : 1 = r4 := Eq.symm hp9
    subst hp9
    refine lv_pop hx hb d_Q_readFactor_73 rfl ?_
    refine lv_aload_n hx hb d_Q_readFactor_74 rfl (lv_at hl 0 rfl) ?_
    have hP := pmP (show List.Perm (α := Nat × va_E) (LqW dA sa gs1 ++ (VW dA h ad (VS.s_ll y6 r))) (VW dA h ad (VS.s_ll y6 (LqW dA sa gs1 ++ r))) from (llP (dA := dA) (h := h) (ad := ad) (x := (VS.s_ll y6 (LqW dA sa gs1 ++ r))) (L := LqW dA sa gs1) (r := r) rfl).symm) hP
    have hD := pmD (show List.Perm (α := Nat × va_E) (LqW dA sa gs1 ++ (VW dA h ad (VS.s_ll y6 r))) (VW dA h ad (VS.s_ll y6 (LqW dA sa gs1 ++ r))) from (llP (dA := dA) (h := h) (ad := ad) (x := (VS.s_ll y6 (LqW dA sa gs1 ++ r))) (L := LqW dA sa gs1) (r := r) rfl).symm) hD
    have hP : va_P D vwCl (VW dA h ad (VS.s_ll y6 (LqW dA sa gs1 ++ r))) H := hP
    have hD : va_D A (VW dA h ad (VS.s_ll y6 (LqW dA sa gs1 ++ r))) := hD
    obtain ⟨y7, e_y7⟩ : ∃ w9, w9 = VS.s_ll y6 (LqW dA sa gs1 ++ r) := ⟨_, rfl⟩
    rw [← e_y7] at hP hD
    have hP : va_P D vwCl (VW dA h ad y7) H := hP
    have hD : va_D A (VW dA h ad y7) := hD
    have hk7 : y7.qok := by rw [e_y7]; exact qok_ll hk_y6
    have q7 : x.qr y7 := by rw [e_y7]; exact qr_tr (qp_qr qq_y6) (qr_ll y6 _)
    have tt7 : y7.tk = x.tk := by rw [e_y7]; exact tk_y6
    have hl7 : y7.ll = LqW dA sa gs1 ++ r := by rw [e_y7]
    have ep7 : y7.pl = y6.pl := by rw [e_y7]
    have kb_y7 : y7.qst ≤ y7.qen ∧ y7.qen ≤ y7.qlen ∧ y7.qlen ≤ y7.tpN ∧ y7.tpN ≤ 131072 ∧ y7.qlen ≤ 16384 := ⟨hk7.2.2.2.2.2.1, hk7.2.2.2.2.2.2.1, hk7.2.1, hk7.2.2.1, hk7.2.2.2.1⟩
    have kq_y7 : y7.qtp = y7.tpA := hk7.1
    refine jkV (wr := []) (rnV (As := []) (rest := []) hx hb hml hown hE hK (hN _ _ hS) hP hD (v_Qadvance l D dA H.size h ad y7 kq_y7 (show y7.qlen ≤ y7.tpN from by omega) (show y7.tpN ≤ 131072 from by omega) (show y7.qen ≤ y7.qlen from by omega)) (q0 := 36) rfl rfl w685 w684 w686 w687 w665 rfl rfl ⟨⟨by decide, by decide⟩, rfl⟩ ⟨(by first | exact Nat.le_of_ble_eq_true rfl | (dsimp only; omega)), (by first | exact Nat.le_of_ble_eq_true rfl | (dsimp only; omega))⟩ rfl hl.1 rfl (by first | exact Nat.le_of_ble_eq_true rfl | (dsimp only; omega)) d_Q_readFactor_75 ⟨(show 0 + 1 + 4 + 1 + 0 ≤ 8 * (rqP (pFc O x.tape x.qlen x.tk).1 (pFc O x.tape x.qlen x.tk).2.1 - x.qst) by omega), (show 0 + 8 + 6 + (gqS g) + 0 ≤ 64 * (rqP (pFc O x.tape x.qlen x.tk).1 (pFc O x.tape x.qlen x.tk).2.1 - x.qst) + 4 * (cpR g.eN g.sz (pFc O x.tape x.qlen x.tk).2.2.length - g.eN) by omega)⟩) hP hD hS hA (fun u8 H locs hp9 hP hD hS => ?_)
    obtain ⟨y8, h9u⟩ : ∃ z9, z9 = u8 := ⟨_, rfl⟩
    subst h9u
    have hP : va_P D vwCl (VW dA h ad y8) H := hP
    have hD : va_D A (VW dA h ad y8) := hD
    have f_e_9 := hp9
    refine lv_iconst (v := 1) hx hb d_Q_readFactor_78 (by decide) ?_
    obtain ⟨hk8, qq8, tk8⟩ := qok_adv hk7 f_e_9
    have kf7 : y7.tape = x.tape ∧ y7.qlen = x.qlen := ⟨(qr_f q7).2.2.1, (qr_f q7).2.1⟩
    have tt8 : y8.tk = nxT x.tape x.qlen x.tk := by rw [tk8, kf7.1, kf7.2, tt7]
    have st8 : x.qst < y8.qst := by have e9 := (nx_ok (f := x.tape) tx0.2.1).2; have e8 : y8.qst = (nxT x.tape x.qlen x.tk).2.1 := congrArg (fun q : TKQ => q.2.1) tt8; have e7 : x.qen ≤ (nxT x.tape x.qlen x.tk).2.1 := e9; omega
    exact rfZ hx hb hr (bI_nar true) hlk hS (⟨y8, gs1⟩) ⟨by rw [E0]; rfl, by rw [E0]; exact pq_fn hw (qr_tr q7 (qp_qr qq8)) hk8 tt8 ((qp_ll qq8).trans hl7) f_f_6 ⟨_, qq8.2 _ (by rw [ep7]; exact ms6)⟩ (fun _ => isSP_m qq8.2 (by rw [ep7]; exact is6)) st8⟩ hP hD (show 0 + 1 + 4 + 1 + 0 ≤ 8 * (rqP (pFc O x.tape x.qlen x.tk).1 (pFc O x.tape x.qlen x.tk).2.1 - x.qst) by omega) (show 0 + 8 + 6 + (gqS g) + 0 ≤ 64 * (rqP (pFc O x.tape x.qlen x.tk).1 (pFc O x.tape x.qlen x.tk).2.1 - x.qst) + 4 * (cpR g.eN g.sz (pFc O x.tape x.qlen x.tk).2.2.length - g.eN) by omega) d_Q_readFactor_79
  · refine lv_lookup (x := x.qk) (off := 76) (tgt := 80) hx hb d_Q_readFactor_4 (by decide) (by rw [h1]; decide) rfl ?_
    refine lv_aload_n hx hb d_Q_readFactor_80 rfl (lv_at hl 0 rfl) ?_
    have E0 : pFc O x.tape x.qlen x.tk = pFn x.tape x.qlen x.tk := pFc_2 h1
    have rE : rqP (pFn x.tape x.qlen x.tk).1 (pFn x.tape x.qlen x.tk).2.1 = rqP (pFc O x.tape x.qlen x.tk).1 (pFc O x.tape x.qlen x.tk).2.1 := by rw [E0]
    have cE : cpR g.eN g.sz (pFn x.tape x.qlen x.tk).2.2.length = cpR g.eN g.sz (pFc O x.tape x.qlen x.tk).2.2.length := by rw [E0]
    refine jkI (wr := []) (rnVs (As := []) (rest := []) hx hb hml hown hE hK hZ hT hM hQ hS (hN _ _ hS) hP hD (v_QreadFunc l D dA H.size e0 mi kA vA fm h ad sa g r x hsa hw h1) (q0 := 36) rfl rfl w1670 w1669 w1671 w1672 w665 rfl rfl ⟨⟨by decide, by decide⟩, rfl⟩ ⟨(by first | exact Nat.le_of_ble_eq_true rfl | (dsimp only; omega)), (by first | exact Nat.le_of_ble_eq_true rfl | (dsimp only; omega))⟩ rfl hl.1 rfl (by first | exact Nat.le_of_ble_eq_true rfl | (dsimp only; omega)) d_Q_readFactor_81 ⟨(show 0 + (8 * (rqP (pFn x.tape x.qlen x.tk).1 (pFn x.tape x.qlen x.tk).2.1 - x.qst)) ≤ 8 * (rqP (pFc O x.tape x.qlen x.tk).1 (pFc O x.tape x.qlen x.tk).2.1 - x.qst) by omega), (show 0 + (64 * (rqP (pFn x.tape x.qlen x.tk).1 (pFn x.tape x.qlen x.tk).2.1 - x.qst) + 4 * (cpR g.eN g.sz (pFn x.tape x.qlen x.tk).2.2.length - g.eN)) ≤ 64 * (rqP (pFc O x.tape x.qlen x.tk).1 (pFc O x.tape x.qlen x.tk).2.1 - x.qst) + 4 * (cpR g.eN g.sz (pFc O x.tape x.qlen x.tk).2.2.length - g.eN) by omega)⟩) hP hD hS hA (fun r10 u11 H locs hp9 hP hD hS => ?_)
    obtain ⟨y2, gy2⟩ := u11
    have hP : va_P D vwCl (VW dA h ad y2) H := hP
    have hD : va_D A (VW dA h ad y2) := hD
    obtain ⟨hp9, f_p_12⟩ := hp9
    replace hp9 : bI (pFn x.tape x.qlen x.tk).1 = r10 := Eq.symm hp9
    subst hp9
    exact rfZ hx hb hr (bI_nar ((pFn x.tape x.qlen x.tk).1)) hlk hS (⟨y2, gy2⟩) ⟨by rw [E0], by rw [E0]; exact f_p_12⟩ hP hD (show 0 + (8 * (rqP (pFn x.tape x.qlen x.tk).1 (pFn x.tape x.qlen x.tk).2.1 - x.qst)) ≤ 8 * (rqP (pFc O x.tape x.qlen x.tk).1 (pFc O x.tape x.qlen x.tk).2.1 - x.qst) by omega) (show 0 + (64 * (rqP (pFn x.tape x.qlen x.tk).1 (pFn x.tape x.qlen x.tk).2.1 - x.qst) + 4 * (cpR g.eN g.sz (pFn x.tape x.qlen x.tk).2.2.length - g.eN)) ≤ 64 * (rqP (pFc O x.tape x.qlen x.tk).1 (pFc O x.tape x.qlen x.tk).2.1 - x.qst) + 4 * (cpR g.eN g.sz (pFc O x.tape x.qlen x.tk).2.2.length - g.eN) by omega) d_Q_readFactor_84
  · refine lv_lookup (x := x.qk) (off := 81) (tgt := 85) hx hb d_Q_readFactor_4 (by decide) (ls4_o h1) rfl ?_
    refine lv_iload_n hx hb d_Q_readFactor_85 rfl (lv_at hl 1 rfl) ?_
    refine lv_bipush (v := 8) hx hb d_Q_readFactor_86 (by decide) ?_
    refine lv_icmp_ge hx hb d_Q_readFactor_88 (tgt := 101) rfl (fun h9 => absurd h9 (mt (nI_leI (a := 8) (b := o) (by omega) (by omega)).mp (Nat.not_le.mpr ho))) (fun _ => ?_)
    refine lv_aload_n hx hb d_Q_readFactor_91 rfl (lv_at hl 0 rfl) ?_
    refine lv_iload_n hx hb d_Q_readFactor_92 rfl (lv_at hl 1 rfl) ?_
    refine lv_iconst (v := 1) hx hb d_Q_readFactor_93 (by decide) ?_
    refine lv_iadd hx hb d_Q_readFactor_94 (tpi (y := nI (o + 1)) (nI_add (o) (1)) ?_)
    have E0 : pFc O x.tape x.qlen x.tk = O x.tape x.qlen x.tk := pFc_3 h1
    have rE : rqP (O x.tape x.qlen x.tk).1 (O x.tape x.qlen x.tk).2.1 = rqP (pFc O x.tape x.qlen x.tk).1 (pFc O x.tape x.qlen x.tk).2.1 := by rw [E0]
    have cE : cpR g.eN g.sz (O x.tape x.qlen x.tk).2.2.length = cpR g.eN g.sz (pFc O x.tape x.qlen x.tk).2.2.length := by rw [E0]
    refine jkI (wr := []) (rnVs (As := [.int (nI (o + 1))]) (rest := []) hx hb hml hown hE hK hZ hT hM hQ hS (hN _ _ hS) hP hD (hO l D dA H.size e0 mi kA vA fm h ad sa g r x hsa hw h1) (q0 := 36) rfl rfl w1674 w1673 w1675 w1676 w665 rfl rfl ⟨⟨by decide, by decide⟩, rfl⟩ ⟨(by first | exact Nat.le_of_ble_eq_true rfl | (dsimp only; omega)), (by first | exact Nat.le_of_ble_eq_true rfl | (dsimp only; omega))⟩ rfl hl.1 rfl (by first | exact Nat.le_of_ble_eq_true rfl | (dsimp only; omega)) d_Q_readFactor_95 ⟨(show 0 + (8 * (rqP (O x.tape x.qlen x.tk).1 (O x.tape x.qlen x.tk).2.1 - x.qst)) ≤ 8 * (rqP (pFc O x.tape x.qlen x.tk).1 (pFc O x.tape x.qlen x.tk).2.1 - x.qst) by omega), (show 0 + (64 * (rqP (O x.tape x.qlen x.tk).1 (O x.tape x.qlen x.tk).2.1 - x.qst) + 4 * (cpR g.eN g.sz (O x.tape x.qlen x.tk).2.2.length - g.eN)) ≤ 64 * (rqP (pFc O x.tape x.qlen x.tk).1 (pFc O x.tape x.qlen x.tk).2.1 - x.qst) + 4 * (cpR g.eN g.sz (pFc O x.tape x.qlen x.tk).2.2.length - g.eN) by omega)⟩) hP hD hS hA (fun r13 u14 H locs hp9 hP hD hS => ?_)
    obtain ⟨y2, gy2⟩ := u14
    have hP : va_P D vwCl (VW dA h ad y2) H := hP
    have hD : va_D A (VW dA h ad y2) := hD
    obtain ⟨hp9, f_p_15⟩ := hp9
    replace hp9 : bI (O x.tape x.qlen x.tk).1 = r13 := Eq.symm hp9
    subst hp9
    refine lv_goto hx hb d_Q_readFactor_98 (tgt := 110) rfl ?_
    exact rfZ hx hb hr (bI_nar ((O x.tape x.qlen x.tk).1)) hlk hS (⟨y2, gy2⟩) ⟨by rw [E0], by rw [E0]; exact f_p_15⟩ hP hD (show 0 + (8 * (rqP (O x.tape x.qlen x.tk).1 (O x.tape x.qlen x.tk).2.1 - x.qst)) ≤ 8 * (rqP (pFc O x.tape x.qlen x.tk).1 (pFc O x.tape x.qlen x.tk).2.1 - x.qst) by omega) (show 0 + (64 * (rqP (O x.tape x.qlen x.tk).1 (O x.tape x.qlen x.tk).2.1 - x.qst) + 4 * (cpR g.eN g.sz (O x.tape x.qlen x.tk).2.2.length - g.eN)) ≤ 64 * (rqP (pFc O x.tape x.qlen x.tk).1 (pFc O x.tape x.qlen x.tk).2.1 - x.qst) + 4 * (cpR g.eN g.sz (pFc O x.tape x.qlen x.tk).2.2.length - g.eN) by omega) d_Q_readFactor_110
  · refine lv_lookup (x := x.qk) (off := 107) (tgt := 111) hx hb d_Q_readFactor_4 (by decide) (ls4_no h1.1 h1.2.1 h1.2.2.1 h1.2.2.2) rfl ?_
    refine lv_aload_n hx hb d_Q_readFactor_111 rfl (lv_at hl 0 rfl) ?_
    refine lv_iconst (v := 2) hx hb d_Q_readFactor_112 (by decide) ?_
    refine lv_aload_n hx hb d_Q_readFactor_113 rfl (lv_at hl 0 rfl) ?_
    refine gF (v := .int (nI x.qst)) hx hb hown hE hK hP 36 rfl rfl layQ 3 (by decide) w662 rfl d_Q_readFactor_114 ?_
    refine jkI (wr := []) (rnV (As := [.int 2, .int (nI x.qst)]) (rest := []) hx hb hml hown hE hK (hN _ _ hS) hP hD (v_Qrefuse l D dA H.size h ad x 2 x.qst) (q0 := 36) rfl rfl w666 w664 w667 w668 w665 rfl rfl ⟨⟨by decide, by decide⟩, rfl⟩ ⟨(by first | exact Nat.le_of_ble_eq_true rfl | (dsimp only; omega)), (by first | exact Nat.le_of_ble_eq_true rfl | (dsimp only; omega))⟩ rfl hl.1 rfl (by first | exact Nat.le_of_ble_eq_true rfl | (dsimp only; omega)) d_Q_readFactor_117 ⟨(show 0 + 0 ≤ 8 * (rqP (pFc O x.tape x.qlen x.tk).1 (pFc O x.tape x.qlen x.tk).2.1 - x.qst) by omega), (show 0 + 0 ≤ 64 * (rqP (pFc O x.tape x.qlen x.tk).1 (pFc O x.tape x.qlen x.tk).2.1 - x.qst) + 4 * (cpR g.eN g.sz (pFc O x.tape x.qlen x.tk).2.2.length - g.eN) by omega)⟩) hP hD hS hA (fun r16 u17 H locs hp9 hP hD hS => ?_)
    obtain ⟨y4, h9u⟩ : ∃ z9, z9 = u17 := ⟨_, rfl⟩
    subst h9u
    have hP : va_P D vwCl (VW dA h ad y4) H := hP
    have hD : va_D A (VW dA h ad y4) := hD
    obtain ⟨hp9, f_e_18⟩ := hp9
    replace hp9 : 0 = r16 := Eq.symm hp9
    subst hp9
    obtain ⟨hk_y4, qq_y4, tk_y4⟩ := qok_rfq hw.1 f_e_18
    exact rfZ hx hb hr (bI_nar false) hlk hS (⟨y4, g⟩) (by have E : pFc O x.tape x.qlen x.tk = (false, rfT x.tk 2 x.tk.2.1, []) := (pFc_4 h1); exact ⟨by rw [E]; rfl, by rw [E]; exact pq_0 hw qq_y4 hk_y4 tk_y4 (show x.tk.2.1 ≤ _ from Nat.le_of_eq (rfT_e x.tk 2 x.tk.2.1).2.1.symm)⟩) hP hD (show 0 + 0 ≤ 8 * (rqP (pFc O x.tape x.qlen x.tk).1 (pFc O x.tape x.qlen x.tk).2.1 - x.qst) by omega) (show 0 + 0 ≤ 64 * (rqP (pFc O x.tape x.qlen x.tk).1 (pFc O x.tape x.qlen x.tk).2.1 - x.qst) + 4 * (cpR g.eN g.sz (pFc O x.tape x.qlen x.tk).2.2.length - g.eN) by omega) d_Q_readFactor_120
theorem d_Q_readFactor_101 : decode prog_6_method_7_code 101 = .ok (.aload_n 0, 1) := by decide +kernel
theorem d_Q_readFactor_102 : decode prog_6_method_7_code 102 = .ok (.iconst 3, 1) := by decide +kernel
theorem d_Q_readFactor_103 : decode prog_6_method_7_code 103 = .ok (.aload_n 0, 1) := by decide +kernel
theorem d_Q_readFactor_104 : decode prog_6_method_7_code 104 = .ok (.getfield 48, 3) := by decide +kernel
theorem d_Q_readFactor_107 : decode prog_6_method_7_code 107 = .ok (.invokevirtual 51, 3) := by decide +kernel
set_option maxHeartbeats 4000000 in
set_option maxRecDepth 100000 in
theorem v_QreadFactor8 (l : Launch) (D : va_G) (dA : Nat → ClassId) (sz : Nat) (e0 mi : Nat) (kA vA : Nat → Nat) (fm : Nat) (h : Nat) (ad : Nat → Nat) (sa : Nat) (g : LI) (r : va_W) (x : VS) (o : Nat) (hsa : sa = ad 23) (hw : VS.pw dA e0 sa r x g) (ho : o = 8) : Met l ⟨"SeriesVault$Question", "readFactor", "(I)Z"⟩ [Cond.code ⟨"SeriesVault$Question", "readFactor", "(I)Z"⟩ prog_6_method_7_code 2 (some FieldType.boolean)] { frames := 10, cells := 8 * (rqP (pFc pO3 x.tape x.qlen x.tk).1 (pFc pO3 x.tape x.qlen x.tk).2.1 - x.qst), slots := 64 * (rqP (pFc pO3 x.tape x.qlen x.tk).1 (pFc pO3 x.tape x.qlen x.tk).2.1 - x.qst) + 4 * (cpR g.eN g.sz (pFc pO3 x.tape x.qlen x.tk).2.2.length - g.eN), locals := 242 } (pCs D dA e0 mi kA vA fm [.ref (ad 22), .int (nI o)] (VW dA h ad x) sz) (va_Qi (fun (r9 : Int32) (u9 : VS × LI) => r9 = bI (pFc pO3 x.tape x.qlen x.tk).1 ∧ VS.pq dA e0 sa r x g (pFc pO3 x.tape x.qlen x.tk) u9.1 u9.2) (fun (u9 : VS × LI) t9 => bW D (va_A (VW dA h ad x) sz) (VW dA h ad u9.1) t9) (va_A (VW dA h ad x) sz)) (8 * (rqP (pFc pO3 x.tape x.qlen x.tk).1 (pFc pO3 x.tape x.qlen x.tk).2.1 - x.qst)) (64 * (rqP (pFc pO3 x.tape x.qlen x.tk).1 (pFc pO3 x.tape x.qlen x.tk).2.1 - x.qst) + 4 * (cpR g.eN g.sz (pFc pO3 x.tape x.qlen x.tk).2.2.length - g.eN)) (va_A (VW dA h ad x) sz) := by
  refine mkS (y := ⟨"SeriesVault$Question", "readFactor", "(I)Z"⟩) (cc := prog_6_method_7_code) (maxL := 2) (av := [.ref (ad 22), .int (nI o)]) (ws := VW dA h ad x) (sz := sz) (Qc := fun A => va_Qi (fun (r9 : Int32) (u9 : VS × LI) => r9 = bI (pFc pO3 x.tape x.qlen x.tk).1 ∧ VS.pq dA e0 sa r x g (pFc pO3 x.tape x.qlen x.tk) u9.1 u9.2) (fun (u9 : VS × LI) t9 => bW D A (VW dA h ad u9.1) t9) A) (by decide) (Nat.le_of_ble_eq_true rfl) ?_
  intro A p e s m below meth c ls hsz hZ hT hM hQ hB
  obtain ⟨hx, hb, hr, hml, hown, hin, hlk, hE, hK, hP, hD, hS, hA, hN, hl⟩ := hB
  have hown : s.vm.findClass "SeriesVault$Question" = some m.cls := hown
  have hl : lv_has ls 2 [(0, .ref (ad 22)), (1, .int (nI o))] := hl
  obtain ⟨H, hH⟩ : ∃ z, z = s.heap := ⟨_, rfl⟩
  have hP : va_P D vwCl (VW dA h ad x) H := by rw [hH]; exact hP
  have hS : va_S A s.heap H [] := by rw [hH]; exact hS
  rw [← hH]
  have kb : x.qst ≤ x.qen ∧ x.qen ≤ x.qlen ∧ x.qlen ≤ x.tpN ∧ x.tpN ≤ 131072 ∧ x.qlen ≤ 16384 := ⟨hw.1.2.2.2.2.2.1, hw.1.2.2.2.2.2.2.1, hw.1.2.1, hw.1.2.2.1, hw.1.2.2.2.1⟩
  have kq : x.qtp = x.tpA := hw.1.1
  have tx0 : tkok x.qlen x.tk := hw.1.2.2.2.2.2
  have gz0 : x.qen ≤ rqP (pFc pO3 x.tape x.qlen x.tk).1 (pFc pO3 x.tape x.qlen x.tk).2.1 := (pFc_g pO3_g x.tape x.qlen x.tk tx0).2.1
  refine lv_aload_n hx hb d_Q_readFactor_0 rfl (lv_at hl 0 rfl) ?_
  refine gF (v := .int x.qk) hx hb hown hE hK hP 36 rfl rfl layQ 2 (by decide) w663 rfl d_Q_readFactor_1 ?_
  rcases fc4 x.qk with h1 | h1 | h1 | h1
  · refine lv_lookup (x := x.qk) (off := 44) (tgt := 48) hx hb d_Q_readFactor_4 (by decide) (by rw [h1]; decide) rfl ?_
    refine lv_aload_n hx hb d_Q_readFactor_48 rfl (lv_at hl 0 rfl) ?_
    have E0 : pFc pO3 x.tape x.qlen x.tk = (true, nxT x.tape x.qlen x.tk, [spO 257 x.tk.2.1 x.tk.2.2.2.1]) := pFc_1 h1
    have nx0 : x.qst < x.qen := tx0.2.2.1 (show ¬ x.qk = 256 by rw [h1]; decide)
    have lE : (pFc pO3 x.tape x.qlen x.tk).2.2.length = 1 := by rw [E0]; rfl
    have cE : cpR g.eN g.sz (pFc pO3 x.tape x.qlen x.tk).2.2.length = gqN g := by rw [lE]; rfl
    have b3 := gq_S g
    refine gF (v := .ref (ad 23)) hx hb hown hE hK hP 36 rfl rfl layQ 8 (by decide) w678 rfl d_Q_readFactor_49 ?_
    refine nOf hx hb hown hE hK hP hD hS hA (ci := 13) rfl layE tyE tokE w1648 w859 w1496 (fs := [.int 0, .int 0, .long 0, .null, .int 0, .null, .null, .null]) dfE (show 0 + 1 ≤ 8 * (rqP (pFc pO3 x.tape x.qlen x.tk).1 (pFc pO3 x.tape x.qlen x.tk).2.1 - x.qst) by omega) (show 0 + 8 ≤ 64 * (rqP (pFc pO3 x.tape x.qlen x.tk).1 (pFc pO3 x.tape x.qlen x.tk).2.1 - x.qst) + 4 * (cpR g.eN g.sz (pFc pO3 x.tape x.qlen x.tk).2.2.length - g.eN) by omega) d_Q_readFactor_52 (fun sp H hP hD hS => ?_)
    have hP : va_P D vwCl ([(sp, .inr (13, [.int 0, .int 0, .long 0, .null, .int 0, .null, .null, .null]))] ++ (VW dA h ad x)) H := hP
    have hD : va_D A ([(sp, .inr (13, [.int 0, .int 0, .long 0, .null, .int 0, .null, .null, .null]))] ++ (VW dA h ad x)) := hD
    refine lv_dup hx hb d_Q_readFactor_55 rfl ?_
    refine lv_sipush (v := 257) hx hb d_Q_readFactor_56 (by decide) ?_
    refine lv_aload_n hx hb d_Q_readFactor_59 rfl (lv_at hl 0 rfl) ?_
    refine gF (v := .int (nI x.qst)) hx hb hown hE hK hP 37 rfl rfl layQ 3 (by decide) w662 rfl d_Q_readFactor_60 ?_
    refine lv_aload_n hx hb d_Q_readFactor_63 rfl (lv_at hl 0 rfl) ?_
    refine gF (v := .long x.qnum) hx hb hown hE hK hP 37 rfl rfl layQ 5 (by decide) w1560 rfl d_Q_readFactor_64 ?_
    refine jkV (wr := []) (rnIy (As := [.int 257, .int (nI x.qst), .long x.qnum]) (rest := [.ref sp, .ref (ad 23)]) hx hb hml hown hE hK hZ hT hM hS (hN _ _ hS) hP hD (v_Einit_o l D dA H.size e0 mi (VW dA h ad x) sp 257 x.qst x.qnum (by decide)) w1651 w1650 w1652 w1496 rfl rfl rfl ⟨⟨by decide, by decide⟩, rfl⟩ ⟨(Nat.le_of_ble_eq_true rfl), (Nat.le_of_ble_eq_true rfl)⟩ rfl hl.1 rfl (Nat.le_of_ble_eq_true rfl) d_Q_readFactor_67 ⟨(show 0 + 1 + 4 ≤ 8 * (rqP (pFc pO3 x.tape x.qlen x.tk).1 (pFc pO3 x.tape x.qlen x.tk).2.1 - x.qst) by omega), (show 0 + 8 + 6 ≤ 64 * (rqP (pFc pO3 x.tape x.qlen x.tk).1 (pFc pO3 x.tape x.qlen x.tk).2.1 - x.qst) + 4 * (cpR g.eN g.sz (pFc pO3 x.tape x.qlen x.tk).2.2.length - g.eN) by omega)⟩) hP hD hS hA (fun u2 H locs hp9 hP hD hS => ?_)
    obtain ⟨na, ln, lt, mk⟩ := u2
    have hP : va_P D vwCl ([(na, .inl (dA 6, 0, .inr (.inr (.inr (.inr (fun _ => none))))))] ++ ([(ln, .inr (6, [.ref e0, .int 0, .int 0]))] ++ ([(lt, .inr (6, [.ref e0, .int 0, .int 0]))] ++ ([(mk, .inl (dA 1, 0, .inl (fun _ => 0)))] ++ ([(sp, .inr (13, [.int 257, .int (nI x.qst), .long x.qnum, .ref na, .int 0, .ref ln, .ref lt, .ref mk]))] ++ (VW dA h ad x)))))) H := hP
    have hD : va_D A ([(na, .inl (dA 6, 0, .inr (.inr (.inr (.inr (fun _ => none))))))] ++ ([(ln, .inr (6, [.ref e0, .int 0, .int 0]))] ++ ([(lt, .inr (6, [.ref e0, .int 0, .int 0]))] ++ ([(mk, .inl (dA 1, 0, .inl (fun _ => 0)))] ++ ([(sp, .inr (13, [.int 257, .int (nI x.qst), .long x.qnum, .ref na, .int 0, .ref ln, .ref lt, .ref mk]))] ++ (VW dA h ad x)))))) := hD
    have hP : va_P D vwCl (VW dA h ad (VS.s_pl x (x.pl ++ ([(na, .inl (dA 6, 0, .inr (.inr (.inr (.inr (fun _ => none))))))] ++ ([(ln, .inr (6, [.ref e0, .int 0, .int 0]))] ++ ([(lt, .inr (6, [.ref e0, .int 0, .int 0]))] ++ ([(mk, .inl (dA 1, 0, .inl (fun _ => 0)))] ++ ([(sp, .inr (13, [.int 257, .int (nI x.qst), .long x.qnum, .ref na, .int 0, .ref ln, .ref lt, .ref mk]))])))))))) H := pmP (show List.Perm (α := Nat × va_E) ([(na, .inl (dA 6, 0, .inr (.inr (.inr (.inr (fun _ => none))))))] ++ ([(ln, .inr (6, [.ref e0, .int 0, .int 0]))] ++ ([(lt, .inr (6, [.ref e0, .int 0, .int 0]))] ++ ([(mk, .inl (dA 1, 0, .inl (fun _ => 0)))] ++ ([(sp, .inr (13, [.int 257, .int (nI x.qst), .long x.qnum, .ref na, .int 0, .ref ln, .ref lt, .ref mk]))] ++ (VW dA h ad x)))))) (VW dA h ad (VS.s_pl x (x.pl ++ ([(na, .inl (dA 6, 0, .inr (.inr (.inr (.inr (fun _ => none))))))] ++ ([(ln, .inr (6, [.ref e0, .int 0, .int 0]))] ++ ([(lt, .inr (6, [.ref e0, .int 0, .int 0]))] ++ ([(mk, .inl (dA 1, 0, .inl (fun _ => 0)))] ++ ([(sp, .inr (13, [.int 257, .int (nI x.qst), .long x.qnum, .ref na, .int 0, .ref ln, .ref lt, .ref mk]))])))))))) from plP5 (dA := dA) (h := h) (ad := ad) x ([(na, .inl (dA 6, 0, .inr (.inr (.inr (.inr (fun _ => none))))))]) ([(ln, .inr (6, [.ref e0, .int 0, .int 0]))]) ([(lt, .inr (6, [.ref e0, .int 0, .int 0]))]) ([(mk, .inl (dA 1, 0, .inl (fun _ => 0)))]) ([(sp, .inr (13, [.int 257, .int (nI x.qst), .long x.qnum, .ref na, .int 0, .ref ln, .ref lt, .ref mk]))])) hP
    have hD : va_D A (VW dA h ad (VS.s_pl x (x.pl ++ ([(na, .inl (dA 6, 0, .inr (.inr (.inr (.inr (fun _ => none))))))] ++ ([(ln, .inr (6, [.ref e0, .int 0, .int 0]))] ++ ([(lt, .inr (6, [.ref e0, .int 0, .int 0]))] ++ ([(mk, .inl (dA 1, 0, .inl (fun _ => 0)))] ++ ([(sp, .inr (13, [.int 257, .int (nI x.qst), .long x.qnum, .ref na, .int 0, .ref ln, .ref lt, .ref mk]))])))))))) := pmD (show List.Perm (α := Nat × va_E) ([(na, .inl (dA 6, 0, .inr (.inr (.inr (.inr (fun _ => none))))))] ++ ([(ln, .inr (6, [.ref e0, .int 0, .int 0]))] ++ ([(lt, .inr (6, [.ref e0, .int 0, .int 0]))] ++ ([(mk, .inl (dA 1, 0, .inl (fun _ => 0)))] ++ ([(sp, .inr (13, [.int 257, .int (nI x.qst), .long x.qnum, .ref na, .int 0, .ref ln, .ref lt, .ref mk]))] ++ (VW dA h ad x)))))) (VW dA h ad (VS.s_pl x (x.pl ++ ([(na, .inl (dA 6, 0, .inr (.inr (.inr (.inr (fun _ => none))))))] ++ ([(ln, .inr (6, [.ref e0, .int 0, .int 0]))] ++ ([(lt, .inr (6, [.ref e0, .int 0, .int 0]))] ++ ([(mk, .inl (dA 1, 0, .inl (fun _ => 0)))] ++ ([(sp, .inr (13, [.int 257, .int (nI x.qst), .long x.qnum, .ref na, .int 0, .ref ln, .ref lt, .ref mk]))])))))))) from plP5 (dA := dA) (h := h) (ad := ad) x ([(na, .inl (dA 6, 0, .inr (.inr (.inr (.inr (fun _ => none))))))]) ([(ln, .inr (6, [.ref e0, .int 0, .int 0]))]) ([(lt, .inr (6, [.ref e0, .int 0, .int 0]))]) ([(mk, .inl (dA 1, 0, .inl (fun _ => 0)))]) ([(sp, .inr (13, [.int 257, .int (nI x.qst), .long x.qnum, .ref na, .int 0, .ref ln, .ref lt, .ref mk]))])) hD
    obtain ⟨pl3, e_pl3⟩ : ∃ z9, z9 = x.pl ++ ([(na, .inl (dA 6, 0, .inr (.inr (.inr (.inr (fun _ => none))))))] ++ ([(ln, .inr (6, [.ref e0, .int 0, .int 0]))] ++ ([(lt, .inr (6, [.ref e0, .int 0, .int 0]))] ++ ([(mk, .inl (dA 1, 0, .inl (fun _ => 0)))] ++ ([(sp, .inr (13, [.int 257, .int (nI x.qst), .long x.qnum, .ref na, .int 0, .ref ln, .ref lt, .ref mk]))]))))) := ⟨_, rfl⟩
    rw [← e_pl3] at hP hD
    have s_pl3 : ∀ c, c ∈ x.pl → c ∈ pl3 := by rw [e_pl3]; exact fun _ hm => List.mem_append_left _ hm
    have t_pl3_0 : ((na, .inl (dA 6, 0, .inr (.inr (.inr (.inr (fun _ => none)))))) : Nat × va_E) ∈ pl3 := by rw [e_pl3]; exact List.mem_append_right _ (List.mem_of_getElem? (i := 0) rfl)
    have t_pl3_1 : ((ln, .inr (6, [.ref e0, .int 0, .int 0])) : Nat × va_E) ∈ pl3 := by rw [e_pl3]; exact List.mem_append_right _ (List.mem_of_getElem? (i := 1) rfl)
    have t_pl3_2 : ((lt, .inr (6, [.ref e0, .int 0, .int 0])) : Nat × va_E) ∈ pl3 := by rw [e_pl3]; exact List.mem_append_right _ (List.mem_of_getElem? (i := 2) rfl)
    have t_pl3_3 : ((mk, .inl (dA 1, 0, .inl (fun _ => 0))) : Nat × va_E) ∈ pl3 := by rw [e_pl3]; exact List.mem_append_right _ (List.mem_of_getElem? (i := 3) rfl)
    have t_pl3_4 : ((sp, .inr (13, [.int 257, .int (nI x.qst), .long x.qnum, .ref na, .int 0, .ref ln, .ref lt, .ref mk])) : Nat × va_E) ∈ pl3 := by rw [e_pl3]; exact List.mem_append_right _ (List.mem_of_getElem? (i := 4) rfl)
    have hP : va_P D vwCl (VW dA h ad (VS.s_pl x pl3)) H := hP
    have hD : va_D A (VW dA h ad (VS.s_pl x pl3)) := hD
    obtain ⟨y6, e_y6⟩ : ∃ w9, w9 = VS.s_pl x pl3 := ⟨_, rfl⟩
    rw [← e_y6] at hP hD
    have hP : va_P D vwCl (VW dA h ad y6) H := hP
    have hD : va_D A (VW dA h ad y6) := hD
    have pk6 : x.pk y6 := by rw [e_y6]; exact ⟨rfl, s_pl3⟩
    have ep6 : y6.pl = pl3 := by rw [e_y6]
    obtain ⟨hk_y6, qq_y6, tk_y6⟩ := qok_pk hw.1 pk6
    have ms6 : (sp, .inr (13, [.int 257, .int (nI x.qst), .long x.qnum, .ref na, .int 0, .ref ln, .ref lt, .ref mk])) ∈ y6.pl := by rw [ep6]; exact t_pl3_4
    have is6 : isSP dA y6.pl sp (spO 257 x.qst x.qnum) := by rw [ep6]; exact isSP_o t_pl3_4 t_pl3_0 t_pl3_1 t_pl3_2 t_pl3_3
    have hl6 : y6.ll = LqW dA sa g ++ r := (qp_ll qq_y6).trans hw.2.1
    rw [← hsa]
    have hP := pmP (show List.Perm (α := Nat × va_E) (VW dA h ad y6) (LqW dA sa g ++ (VW dA h ad (VS.s_ll y6 r))) from llP (dA := dA) (h := h) (ad := ad) (x := y6) (L := LqW dA sa g) (r := r) hl6) hP
    have hD := pmD (show List.Perm (α := Nat × va_E) (VW dA h ad y6) (LqW dA sa g ++ (VW dA h ad (VS.s_ll y6 r))) from llP (dA := dA) (h := h) (ad := ad) (x := y6) (L := LqW dA sa g) (r := r) hl6) hD
    have hP : va_P D vwCl (LqW dA sa g ++ (VW dA h ad (VS.s_ll y6 r))) H := hP
    have hD : va_D A (LqW dA sa g ++ (VW dA h ad (VS.s_ll y6 r))) := hD
    refine jkI (wr := []) (rnVy (As := [.ref sp]) (rest := []) hx hb hml hown hE hK hZ hT hM hS (hN _ _ hS) hP hD (v_LaddQ_E l D dA H.size e0 mi (VW dA h ad (VS.s_ll y6 r)) sa g sp ([.int 257, .int (nI x.qst), .long x.qnum, .ref na, .int 0, .ref ln, .ref lt, .ref mk]) hw.2.2.1.1 (fun i hi y hy => by obtain ⟨vs, hv⟩ := hw.2.2.1.2 i hi y hy; have h9 : (y, .inr (13, vs)) ∈ (VS.s_ll y6 r).pl := qq_y6.2 _ hv; exact ⟨vs, (fun _ hm => (plm hm)) _ h9⟩) (by have h9 : (sp, .inr (13, [.int 257, .int (nI x.qst), .long x.qnum, .ref na, .int 0, .ref ln, .ref lt, .ref mk])) ∈ (VS.s_ll y6 r).pl := ms6; exact ((fun _ hm => (plm hm)) _ h9))) (q0 := 0) rfl rfl w812 w1653 w813 w814 w680 rfl rfl ⟨⟨by decide, by decide⟩, rfl⟩ ⟨(Nat.le_of_ble_eq_true rfl), (Nat.le_of_ble_eq_true rfl)⟩ rfl hl.1 rfl (Nat.le_of_ble_eq_true rfl) d_Q_readFactor_70 ⟨(show 0 + 1 + 4 + 1 ≤ 8 * (rqP (pFc pO3 x.tape x.qlen x.tk).1 (pFc pO3 x.tape x.qlen x.tk).2.1 - x.qst) by omega), (show 0 + 8 + 6 + (gqS g) ≤ 64 * (rqP (pFc pO3 x.tape x.qlen x.tk).1 (pFc pO3 x.tape x.qlen x.tk).2.1 - x.qst) + 4 * (cpR g.eN g.sz (pFc pO3 x.tape x.qlen x.tk).2.2.length - g.eN) by omega)⟩) hP hD hS hA (fun r4 u5 H locs hp9 hP hD hS => ?_)
    obtain ⟨gs1, h9u⟩ : ∃ z9, z9 = u5 := ⟨_, rfl⟩
    subst h9u
    have hP : va_P D vwCl (LqW dA sa gs1 ++ (VW dA h ad (VS.s_ll y6 r))) H := hP
    have hD : va_D A (LqW dA sa gs1 ++ (VW dA h ad (VS.s_ll y6 r))) := hD
    obtain ⟨hp9, f_f_6⟩ := hp9
    replace hp9 : 1 = r4 := Eq.symm hp9
    subst hp9
    refine lv_pop hx hb d_Q_readFactor_73 rfl ?_
    refine lv_aload_n hx hb d_Q_readFactor_74 rfl (lv_at hl 0 rfl) ?_
    have hP := pmP (show List.Perm (α := Nat × va_E) (LqW dA sa gs1 ++ (VW dA h ad (VS.s_ll y6 r))) (VW dA h ad (VS.s_ll y6 (LqW dA sa gs1 ++ r))) from (llP (dA := dA) (h := h) (ad := ad) (x := (VS.s_ll y6 (LqW dA sa gs1 ++ r))) (L := LqW dA sa gs1) (r := r) rfl).symm) hP
    have hD := pmD (show List.Perm (α := Nat × va_E) (LqW dA sa gs1 ++ (VW dA h ad (VS.s_ll y6 r))) (VW dA h ad (VS.s_ll y6 (LqW dA sa gs1 ++ r))) from (llP (dA := dA) (h := h) (ad := ad) (x := (VS.s_ll y6 (LqW dA sa gs1 ++ r))) (L := LqW dA sa gs1) (r := r) rfl).symm) hD
    have hP : va_P D vwCl (VW dA h ad (VS.s_ll y6 (LqW dA sa gs1 ++ r))) H := hP
    have hD : va_D A (VW dA h ad (VS.s_ll y6 (LqW dA sa gs1 ++ r))) := hD
    obtain ⟨y7, e_y7⟩ : ∃ w9, w9 = VS.s_ll y6 (LqW dA sa gs1 ++ r) := ⟨_, rfl⟩
    rw [← e_y7] at hP hD
    have hP : va_P D vwCl (VW dA h ad y7) H := hP
    have hD : va_D A (VW dA h ad y7) := hD
    have hk7 : y7.qok := by rw [e_y7]; exact qok_ll hk_y6
    have q7 : x.qr y7 := by rw [e_y7]; exact qr_tr (qp_qr qq_y6) (qr_ll y6 _)
    have tt7 : y7.tk = x.tk := by rw [e_y7]; exact tk_y6
    have hl7 : y7.ll = LqW dA sa gs1 ++ r := by rw [e_y7]
    have ep7 : y7.pl = y6.pl := by rw [e_y7]
    have kb_y7 : y7.qst ≤ y7.qen ∧ y7.qen ≤ y7.qlen ∧ y7.qlen ≤ y7.tpN ∧ y7.tpN ≤ 131072 ∧ y7.qlen ≤ 16384 := ⟨hk7.2.2.2.2.2.1, hk7.2.2.2.2.2.2.1, hk7.2.1, hk7.2.2.1, hk7.2.2.2.1⟩
    have kq_y7 : y7.qtp = y7.tpA := hk7.1
    refine jkV (wr := []) (rnV (As := []) (rest := []) hx hb hml hown hE hK (hN _ _ hS) hP hD (v_Qadvance l D dA H.size h ad y7 kq_y7 (show y7.qlen ≤ y7.tpN from by omega) (show y7.tpN ≤ 131072 from by omega) (show y7.qen ≤ y7.qlen from by omega)) (q0 := 36) rfl rfl w685 w684 w686 w687 w665 rfl rfl ⟨⟨by decide, by decide⟩, rfl⟩ ⟨(Nat.le_of_ble_eq_true rfl), (Nat.le_of_ble_eq_true rfl)⟩ rfl hl.1 rfl (Nat.le_of_ble_eq_true rfl) d_Q_readFactor_75 ⟨(show 0 + 1 + 4 + 1 + 0 ≤ 8 * (rqP (pFc pO3 x.tape x.qlen x.tk).1 (pFc pO3 x.tape x.qlen x.tk).2.1 - x.qst) by omega), (show 0 + 8 + 6 + (gqS g) + 0 ≤ 64 * (rqP (pFc pO3 x.tape x.qlen x.tk).1 (pFc pO3 x.tape x.qlen x.tk).2.1 - x.qst) + 4 * (cpR g.eN g.sz (pFc pO3 x.tape x.qlen x.tk).2.2.length - g.eN) by omega)⟩) hP hD hS hA (fun u8 H locs hp9 hP hD hS => ?_)
    obtain ⟨y8, h9u⟩ : ∃ z9, z9 = u8 := ⟨_, rfl⟩
    subst h9u
    have hP : va_P D vwCl (VW dA h ad y8) H := hP
    have hD : va_D A (VW dA h ad y8) := hD
    have f_e_9 := hp9
    refine lv_iconst (v := 1) hx hb d_Q_readFactor_78 (by decide) ?_
    obtain ⟨hk8, qq8, tk8⟩ := qok_adv hk7 f_e_9
    have kf7 : y7.tape = x.tape ∧ y7.qlen = x.qlen := ⟨(qr_f q7).2.2.1, (qr_f q7).2.1⟩
    have tt8 : y8.tk = nxT x.tape x.qlen x.tk := by rw [tk8, kf7.1, kf7.2, tt7]
    have st8 : x.qst < y8.qst := by have e9 := (nx_ok (f := x.tape) tx0.2.1).2; have e8 : y8.qst = (nxT x.tape x.qlen x.tk).2.1 := congrArg (fun q : TKQ => q.2.1) tt8; have e7 : x.qen ≤ (nxT x.tape x.qlen x.tk).2.1 := e9; omega
    exact rfZ hx hb hr (bI_nar true) hlk hS (⟨y8, gs1⟩) ⟨by rw [E0]; rfl, by rw [E0]; exact pq_fn hw (qr_tr q7 (qp_qr qq8)) hk8 tt8 ((qp_ll qq8).trans hl7) f_f_6 ⟨_, qq8.2 _ (by rw [ep7]; exact ms6)⟩ (fun _ => isSP_m qq8.2 (by rw [ep7]; exact is6)) st8⟩ hP hD (show 0 + 1 + 4 + 1 + 0 ≤ 8 * (rqP (pFc pO3 x.tape x.qlen x.tk).1 (pFc pO3 x.tape x.qlen x.tk).2.1 - x.qst) by omega) (show 0 + 8 + 6 + (gqS g) + 0 ≤ 64 * (rqP (pFc pO3 x.tape x.qlen x.tk).1 (pFc pO3 x.tape x.qlen x.tk).2.1 - x.qst) + 4 * (cpR g.eN g.sz (pFc pO3 x.tape x.qlen x.tk).2.2.length - g.eN) by omega) d_Q_readFactor_79
  · refine lv_lookup (x := x.qk) (off := 76) (tgt := 80) hx hb d_Q_readFactor_4 (by decide) (by rw [h1]; decide) rfl ?_
    refine lv_aload_n hx hb d_Q_readFactor_80 rfl (lv_at hl 0 rfl) ?_
    have E0 : pFc pO3 x.tape x.qlen x.tk = pFn x.tape x.qlen x.tk := pFc_2 h1
    have rE : rqP (pFn x.tape x.qlen x.tk).1 (pFn x.tape x.qlen x.tk).2.1 = rqP (pFc pO3 x.tape x.qlen x.tk).1 (pFc pO3 x.tape x.qlen x.tk).2.1 := by rw [E0]
    have cE : cpR g.eN g.sz (pFn x.tape x.qlen x.tk).2.2.length = cpR g.eN g.sz (pFc pO3 x.tape x.qlen x.tk).2.2.length := by rw [E0]
    refine jkI (wr := []) (rnVs (As := []) (rest := []) hx hb hml hown hE hK hZ hT hM hQ hS (hN _ _ hS) hP hD (v_QreadFunc l D dA H.size e0 mi kA vA fm h ad sa g r x hsa hw h1) (q0 := 36) rfl rfl w1670 w1669 w1671 w1672 w665 rfl rfl ⟨⟨by decide, by decide⟩, rfl⟩ ⟨(Nat.le_of_ble_eq_true rfl), (Nat.le_of_ble_eq_true rfl)⟩ rfl hl.1 rfl (Nat.le_of_ble_eq_true rfl) d_Q_readFactor_81 ⟨(show 0 + (8 * (rqP (pFn x.tape x.qlen x.tk).1 (pFn x.tape x.qlen x.tk).2.1 - x.qst)) ≤ 8 * (rqP (pFc pO3 x.tape x.qlen x.tk).1 (pFc pO3 x.tape x.qlen x.tk).2.1 - x.qst) by omega), (show 0 + (64 * (rqP (pFn x.tape x.qlen x.tk).1 (pFn x.tape x.qlen x.tk).2.1 - x.qst) + 4 * (cpR g.eN g.sz (pFn x.tape x.qlen x.tk).2.2.length - g.eN)) ≤ 64 * (rqP (pFc pO3 x.tape x.qlen x.tk).1 (pFc pO3 x.tape x.qlen x.tk).2.1 - x.qst) + 4 * (cpR g.eN g.sz (pFc pO3 x.tape x.qlen x.tk).2.2.length - g.eN) by omega)⟩) hP hD hS hA (fun r10 u11 H locs hp9 hP hD hS => ?_)
    obtain ⟨y2, gy2⟩ := u11
    have hP : va_P D vwCl (VW dA h ad y2) H := hP
    have hD : va_D A (VW dA h ad y2) := hD
    obtain ⟨hp9, f_p_12⟩ := hp9
    replace hp9 : bI (pFn x.tape x.qlen x.tk).1 = r10 := Eq.symm hp9
    subst hp9
    exact rfZ hx hb hr (bI_nar ((pFn x.tape x.qlen x.tk).1)) hlk hS (⟨y2, gy2⟩) ⟨by rw [E0], by rw [E0]; exact f_p_12⟩ hP hD (show 0 + (8 * (rqP (pFn x.tape x.qlen x.tk).1 (pFn x.tape x.qlen x.tk).2.1 - x.qst)) ≤ 8 * (rqP (pFc pO3 x.tape x.qlen x.tk).1 (pFc pO3 x.tape x.qlen x.tk).2.1 - x.qst) by omega) (show 0 + (64 * (rqP (pFn x.tape x.qlen x.tk).1 (pFn x.tape x.qlen x.tk).2.1 - x.qst) + 4 * (cpR g.eN g.sz (pFn x.tape x.qlen x.tk).2.2.length - g.eN)) ≤ 64 * (rqP (pFc pO3 x.tape x.qlen x.tk).1 (pFc pO3 x.tape x.qlen x.tk).2.1 - x.qst) + 4 * (cpR g.eN g.sz (pFc pO3 x.tape x.qlen x.tk).2.2.length - g.eN) by omega) d_Q_readFactor_84
  · refine lv_lookup (x := x.qk) (off := 81) (tgt := 85) hx hb d_Q_readFactor_4 (by decide) (ls4_o h1) rfl ?_
    refine lv_iload_n hx hb d_Q_readFactor_85 rfl (lv_at hl 1 rfl) ?_
    refine lv_bipush (v := 8) hx hb d_Q_readFactor_86 (by decide) ?_
    refine lv_icmp_ge hx hb d_Q_readFactor_88 (tgt := 101) rfl (fun g13 => ?_) (fun g13 => ?_)
    rotate_left
    · have g13 := mt (nI_leI (a := 8) (b := o) (by omega) (by omega)).mpr g13; exfalso; omega
    have g13 := (nI_leI (a := 8) (b := o) (by omega) (by omega)).mp g13
    refine lv_aload_n hx hb d_Q_readFactor_101 rfl (lv_at hl 0 rfl) ?_
    refine lv_iconst (v := 3) hx hb d_Q_readFactor_102 (by decide) ?_
    refine lv_aload_n hx hb d_Q_readFactor_103 rfl (lv_at hl 0 rfl) ?_
    refine gF (v := .int (nI x.qst)) hx hb hown hE hK hP 36 rfl rfl layQ 3 (by decide) w662 rfl d_Q_readFactor_104 ?_
    refine jkI (wr := []) (rnV (As := [.int 3, .int (nI x.qst)]) (rest := []) hx hb hml hown hE hK (hN _ _ hS) hP hD (v_Qrefuse l D dA H.size h ad x 3 x.qst) (q0 := 36) rfl rfl w666 w664 w667 w668 w665 rfl rfl ⟨⟨by decide, by decide⟩, rfl⟩ ⟨(Nat.le_of_ble_eq_true rfl), (Nat.le_of_ble_eq_true rfl)⟩ rfl hl.1 rfl (Nat.le_of_ble_eq_true rfl) d_Q_readFactor_107 ⟨(show 0 + 0 ≤ 8 * (rqP (pFc pO3 x.tape x.qlen x.tk).1 (pFc pO3 x.tape x.qlen x.tk).2.1 - x.qst) by omega), (show 0 + 0 ≤ 64 * (rqP (pFc pO3 x.tape x.qlen x.tk).1 (pFc pO3 x.tape x.qlen x.tk).2.1 - x.qst) + 4 * (cpR g.eN g.sz (pFc pO3 x.tape x.qlen x.tk).2.2.length - g.eN) by omega)⟩) hP hD hS hA (fun r14 u15 H locs hp9 hP hD hS => ?_)
    obtain ⟨y3, h9u⟩ : ∃ z9, z9 = u15 := ⟨_, rfl⟩
    subst h9u
    have hP : va_P D vwCl (VW dA h ad y3) H := hP
    have hD : va_D A (VW dA h ad y3) := hD
    obtain ⟨hp9, f_e_16⟩ := hp9
    replace hp9 : 0 = r14 := Eq.symm hp9
    subst hp9
    obtain ⟨hk_y3, qq_y3, tk_y3⟩ := qok_rfq hw.1 f_e_16
    exact rfZ hx hb hr (bI_nar false) hlk hS (⟨y3, g⟩) (by have E : pFc pO3 x.tape x.qlen x.tk = (false, rfT x.tk 3 x.tk.2.1, []) := (pFc_3 h1); exact ⟨by rw [E]; rfl, by rw [E]; exact pq_0 hw qq_y3 hk_y3 tk_y3 (show x.tk.2.1 ≤ _ from Nat.le_of_eq (rfT_e x.tk 3 x.tk.2.1).2.1.symm)⟩) hP hD (show 0 + 0 ≤ 8 * (rqP (pFc pO3 x.tape x.qlen x.tk).1 (pFc pO3 x.tape x.qlen x.tk).2.1 - x.qst) by omega) (show 0 + 0 ≤ 64 * (rqP (pFc pO3 x.tape x.qlen x.tk).1 (pFc pO3 x.tape x.qlen x.tk).2.1 - x.qst) + 4 * (cpR g.eN g.sz (pFc pO3 x.tape x.qlen x.tk).2.2.length - g.eN) by omega) d_Q_readFactor_110
  · refine lv_lookup (x := x.qk) (off := 107) (tgt := 111) hx hb d_Q_readFactor_4 (by decide) (ls4_no h1.1 h1.2.1 h1.2.2.1 h1.2.2.2) rfl ?_
    refine lv_aload_n hx hb d_Q_readFactor_111 rfl (lv_at hl 0 rfl) ?_
    refine lv_iconst (v := 2) hx hb d_Q_readFactor_112 (by decide) ?_
    refine lv_aload_n hx hb d_Q_readFactor_113 rfl (lv_at hl 0 rfl) ?_
    refine gF (v := .int (nI x.qst)) hx hb hown hE hK hP 36 rfl rfl layQ 3 (by decide) w662 rfl d_Q_readFactor_114 ?_
    refine jkI (wr := []) (rnV (As := [.int 2, .int (nI x.qst)]) (rest := []) hx hb hml hown hE hK (hN _ _ hS) hP hD (v_Qrefuse l D dA H.size h ad x 2 x.qst) (q0 := 36) rfl rfl w666 w664 w667 w668 w665 rfl rfl ⟨⟨by decide, by decide⟩, rfl⟩ ⟨(Nat.le_of_ble_eq_true rfl), (Nat.le_of_ble_eq_true rfl)⟩ rfl hl.1 rfl (Nat.le_of_ble_eq_true rfl) d_Q_readFactor_117 ⟨(show 0 + 0 ≤ 8 * (rqP (pFc pO3 x.tape x.qlen x.tk).1 (pFc pO3 x.tape x.qlen x.tk).2.1 - x.qst) by omega), (show 0 + 0 ≤ 64 * (rqP (pFc pO3 x.tape x.qlen x.tk).1 (pFc pO3 x.tape x.qlen x.tk).2.1 - x.qst) + 4 * (cpR g.eN g.sz (pFc pO3 x.tape x.qlen x.tk).2.2.length - g.eN) by omega)⟩) hP hD hS hA (fun r17 u18 H locs hp9 hP hD hS => ?_)
    obtain ⟨y4, h9u⟩ : ∃ z9, z9 = u18 := ⟨_, rfl⟩
    subst h9u
    have hP : va_P D vwCl (VW dA h ad y4) H := hP
    have hD : va_D A (VW dA h ad y4) := hD
    obtain ⟨hp9, f_e_19⟩ := hp9
    replace hp9 : 0 = r17 := Eq.symm hp9
    subst hp9
    obtain ⟨hk_y4, qq_y4, tk_y4⟩ := qok_rfq hw.1 f_e_19
    exact rfZ hx hb hr (bI_nar false) hlk hS (⟨y4, g⟩) (by have E : pFc pO3 x.tape x.qlen x.tk = (false, rfT x.tk 2 x.tk.2.1, []) := (pFc_4 h1); exact ⟨by rw [E]; rfl, by rw [E]; exact pq_0 hw qq_y4 hk_y4 tk_y4 (show x.tk.2.1 ≤ _ from Nat.le_of_eq (rfT_e x.tk 2 x.tk.2.1).2.1.symm)⟩) hP hD (show 0 + 0 ≤ 8 * (rqP (pFc pO3 x.tape x.qlen x.tk).1 (pFc pO3 x.tape x.qlen x.tk).2.1 - x.qst) by omega) (show 0 + 0 ≤ 64 * (rqP (pFc pO3 x.tape x.qlen x.tk).1 (pFc pO3 x.tape x.qlen x.tk).2.1 - x.qst) + 4 * (cpR g.eN g.sz (pFc pO3 x.tape x.qlen x.tk).2.2.length - g.eN) by omega) d_Q_readFactor_120
end
section
theorem FacC_up {o : Nat} {F : PF} {fr lo fr2 lo2 : Nat} (h : FacC o F fr lo) (h1 : fr ≤ fr2) (h2 : lo ≤ lo2) : FacC o F fr2 lo2 := fun l D dA sz e0 mi kA vA fm hv ad sa g r x hsa hw => Met_mono (h l D dA sz e0 mi kA vA fm hv ad sa g r x hsa hw) h1 (Nat.le_refl _) (Nat.le_refl _) h2 (Nat.le_refl _) (Nat.le_refl _) (fun _ _ q => q) (fun _ _ _ _ q => q) (fun _ q => q)
theorem ExpC_up {o : Nat} {F : PF} {fr lo fr2 lo2 : Nat} (h : ExpC o F fr lo) (h1 : fr ≤ fr2) (h2 : lo ≤ lo2) : ExpC o F fr2 lo2 := fun l D dA sz e0 mi kA vA fm hv ad sa g r x hsa hw => Met_mono (h l D dA sz e0 mi kA vA fm hv ad sa g r x hsa hw) h1 (Nat.le_refl _) (Nat.le_refl _) h2 (Nat.le_refl _) (Nat.le_refl _) (fun _ _ q => q) (fun _ _ _ _ q => q) (fun _ q => q)
theorem TrmC_of {o : Nat} {F : PF} {fr lo : Nat} (hF : FacC o F fr lo) (hg : gdF F) (ho : o ≤ 8) : TrmC o (pTm F) (fr + 7) (lo + 171) := fun l D dA sz e0 mi kA vA fm h ad sa g r x hsa hw => v_QreadTerm l D dA sz e0 mi kA vA fm h ad sa g r x o F fr lo hsa hw hF hg ho
theorem ExpC_of {o : Nat} {F : PF} {fr lo : Nat} (hF : TrmC o F fr lo) (hg : gdF F) (ho : o ≤ 8) : ExpC o (pEx F) (fr + 7) (lo + 171) := fun l D dA sz e0 mi kA vA fm h ad sa g r x hsa hw => v_QreadExp l D dA sz e0 mi kA vA fm h ad sa g r x o F fr lo hsa hw hF hg ho
theorem OpnC_of {o : Nat} {F : PF} {fr lo : Nat} (hF : FacC o F fr lo) (hX : ExpC o (pEx (pTm F)) fr lo) (hg : gdF F) (ho : o ≤ 8) : OpnC o (pOp F) (fr + 7) (lo + 171) := fun l D dA sz e0 mi kA vA fm h ad sa g r x hsa hw hoo => v_QreadOpened l D dA sz e0 mi kA vA fm h ad sa g r x o F fr lo hsa hw hoo hF hX hg ho
theorem FacC_of {o : Nat} {O : PF} {fr lo : Nat} (hO : OpnC (o + 1) O fr lo) (hg : gdO O) (ho : o < 8) : FacC o (pFc O) (fr + 10) (lo + 242) := fun l D dA sz e0 mi kA vA fm h ad sa g r x hsa hw => v_QreadFactor l D dA sz e0 mi kA vA fm h ad sa g r x o O fr lo hsa hw hO hg ho
theorem FacC_8 : FacC 8 (pFc pO3) 10 242 := fun l D dA sz e0 mi kA vA fm h ad sa g r x hsa hw => v_QreadFactor8 l D dA sz e0 mi kA vA fm h ad sa g r x 8 hsa hw rfl
theorem FacC_s {o : Nat} {F : PF} {fr lo : Nat} (hF : FacC (o + 1) F fr lo) (hg : gdF F) (ho : o < 8) : FacC o (pFc (pOp F)) (fr + 31) (lo + 755) := by
  have a1 := ExpC_of (TrmC_of hF hg (by omega)) (pTm_g hg) (by omega)
  have a2 := OpnC_of (FacC_up hF (fr2 := fr + 7 + 7) (lo2 := lo + 171 + 171) (by omega) (by omega)) a1 hg (by omega)
  exact FacC_of a2 (fun _ _ _ h hk => pOp_P hg h hk) ho
theorem FacC_d : ∀ d, d ≤ 8 → FacC (8 - d) (pFd d) (10 + 31 * d) (242 + 755 * d)
  | 0, _ => FacC_8
  | d + 1, h => by
    have ih := FacC_d d (by omega)
    rw [show 8 - d = 8 - (d + 1) + 1 by omega] at ih
    have e := FacC_s ih (pFd_g d) (by omega)
    rw [show 10 + 31 * d + 31 = 10 + 31 * (d + 1) by omega, show 242 + 755 * d + 755 = 242 + 755 * (d + 1) by omega] at e
    exact e
/-- a whole sum -/
def pQ : PF := pEx (pTm (pFd 8))
theorem pQ_g : gdF pQ := pEx_g (pTm_g (pFd_g 8))
theorem v_ExpC0 : ExpC 0 pQ 272 6624 := ExpC_of (TrmC_of (FacC_d 8 (Nat.le_refl 8)) (pFd_g 8) (by decide)) (pTm_g (pFd_g 8)) (by decide)
end
section
/-! A question read. -/
theorem qok_adv0 {x y : VS} (h1 : x.qtp = x.tpA) (h2 : x.qlen ≤ x.tpN) (h3 : x.tpN ≤ 131072) (h4 : x.qlen ≤ 16384) (h5 : byteF x.tape) (h6 : x.qen ≤ x.qlen) (e : y = x.adv) : y.qok ∧ x.qp y ∧ y.tk = nxT x.tape x.qlen x.tk := by
  subst e
  have z : x.adv.tk = nxT x.tape x.qlen x.tk := rfl
  have q : x.qp x.adv := qp_wt x _
  obtain ⟨e1, e2, e3, e4, e5⟩ := qr_f (qp_qr q)
  refine ⟨⟨by rw [e1, e4]; exact h1, by rw [e2, e5]; exact h2, by rw [e5]; exact h3, by rw [e2]; exact h4, by rw [e3]; exact h5, ?_⟩, q, z⟩
  rw [z, e2]
  exact (nx_ok (t := x.tk) h6).1
theorem stL_c {e0 : Nat} {pl : va_W} {g : LI} {mc : Int32} (h : stL e0 pl g) : stL e0 pl (LI.s_el (LI.s_mc (LI.s_sz g 0) mc) (clF g.el g.sz)) := by
  obtain ⟨⟨k1, k2, k3⟩, k4⟩ := h
  refine ⟨⟨fun z => ⟨(k1 z).1, rfl⟩, Nat.zero_le _, k3⟩, fun i hi y hy => ?_⟩
  have hy : (if i < g.sz then none else g.el i) = some y := hy
  split at hy
  · cases hy
  · exact k4 i hi y hy
/-- behind the sum the end -/
def qRd (e : PR) : PR := if e.1 = true then (if e.2.1.1 = 256 then e else (false, rfT e.2.1 2 e.2.1.2.1, e.2.2)) else e
theorem qRd_f {e : PR} (h : e.1 = false) : qRd e = e := if_neg (by rw [h]; decide)
theorem qRd_t {e : PR} (h : e.1 = true) (h2 : e.2.1.1 = 256) : qRd e = e := (if_pos h).trans (if_pos h2)
theorem qRd_n {e : PR} (h : e.1 = true) (h2 : ¬ e.2.1.1 = 256) : qRd e = (false, rfT e.2.1 2 e.2.1.2.1, e.2.2) := (if_pos h).trans (if_neg h2)
/-- the class as it begins to read n bytes -/
def VS.r0 (x : VS) (n : Nat) : VS := VS.s_qen (VS.s_qpl (VS.s_qcode (VS.s_qlen (VS.s_qtp x x.tpA) n) 0) 0) 0
/-- its first token -/
def VS.t0 (x : VS) (n : Nat) : TKQ := nxT x.tape n (x.qk, x.qst, 0, x.qnum, 0, 0)
theorem d_Q_read_44 : decode prog_6_method_2_code 44 = .ok (.aload_n 0, 1) := by decide +kernel
theorem d_Q_read_45 : decode prog_6_method_2_code 45 = .ok (.getfield 45, 3) := by decide +kernel
theorem d_Q_read_48 : decode prog_6_method_2_code 48 = .ok (.sipush 256, 3) := by decide +kernel
theorem d_Q_read_51 : decode prog_6_method_2_code 51 = .ok (.if_icmp .eq 15, 3) := by decide +kernel
theorem d_Q_read_66 : decode prog_6_method_2_code 66 = .ok (.iconst 1, 1) := by decide +kernel
theorem d_Q_read_67 : decode prog_6_method_2_code 67 = .ok (.goto 4, 3) := by decide +kernel
theorem d_Q_read_54 : decode prog_6_method_2_code 54 = .ok (.aload_n 0, 1) := by decide +kernel
theorem d_Q_read_55 : decode prog_6_method_2_code 55 = .ok (.iconst 2, 1) := by decide +kernel
theorem d_Q_read_56 : decode prog_6_method_2_code 56 = .ok (.aload_n 0, 1) := by decide +kernel
theorem d_Q_read_57 : decode prog_6_method_2_code 57 = .ok (.getfield 48, 3) := by decide +kernel
theorem d_Q_read_60 : decode prog_6_method_2_code 60 = .ok (.invokevirtual 51, 3) := by decide +kernel
theorem d_Q_read_63 : decode prog_6_method_2_code 63 = .ok (.ifCond .eq 7, 3) := by decide +kernel
set_option maxHeartbeats 4000000 in
set_option maxRecDepth 100000 in
theorem v_Qread (l : Launch) (D : va_G) (dA : Nat → ClassId) (sz : Nat) (e0 mi : Nat) (kA vA : Nat → Nat) (fm : Nat) (h : Nat) (ad : Nat → Nat) (sa : Nat) (g : LI) (r : va_W) (x : VS) (n : Nat) (hsa : sa = ad 23) (hll : x.ll = LqW dA sa g ++ r) (hst : stL e0 x.pl g) (hn : n ≤ 16384) (h2 : n ≤ x.tpN) (h3 : x.tpN ≤ 131072) (hby : byteF x.tape) : Met l ⟨"SeriesVault$Question", "read", "([BI)Z"⟩ [Cond.code ⟨"SeriesVault$Question", "read", "([BI)Z"⟩ prog_6_method_2_code 3 (some FieldType.boolean)] { frames := 273, cells := 8 * n, slots := 64 * n + 4 * (cpR g.eN 0 (pQ x.tape n (x.t0 n)).2.2.length - g.eN), locals := 6648 } (pCs D dA e0 mi kA vA fm [.ref (ad 22), .ref x.tpA, .int (nI n)] (VW dA h ad x) sz) (va_Qi (fun (r9 : Int32) (u9 : VS × LI × VS) => r9 = bI (qRd (pQ x.tape n (x.t0 n))).1 ∧ (x.r0 n).qr u9.1 ∧ VS.pq dA e0 sa r u9.2.2 (LI.s_el (LI.s_mc (LI.s_sz g 0) (g.mc + 1)) (clF g.el g.sz)) (qRd (pQ x.tape n (x.t0 n))) u9.1 u9.2.1) (fun (u9 : VS × LI × VS) t9 => bW D (va_A (VW dA h ad x) sz) (VW dA h ad u9.1) t9) (va_A (VW dA h ad x) sz)) (8 * n) (64 * n + 4 * (cpR g.eN 0 (pQ x.tape n (x.t0 n)).2.2.length - g.eN)) (va_A (VW dA h ad x) sz) := by
  refine mkS (y := ⟨"SeriesVault$Question", "read", "([BI)Z"⟩) (cc := prog_6_method_2_code) (maxL := 3) (av := [.ref (ad 22), .ref x.tpA, .int (nI n)]) (ws := VW dA h ad x) (sz := sz) (Qc := fun A => va_Qi (fun (r9 : Int32) (u9 : VS × LI × VS) => r9 = bI (qRd (pQ x.tape n (x.t0 n))).1 ∧ (x.r0 n).qr u9.1 ∧ VS.pq dA e0 sa r u9.2.2 (LI.s_el (LI.s_mc (LI.s_sz g 0) (g.mc + 1)) (clF g.el g.sz)) (qRd (pQ x.tape n (x.t0 n))) u9.1 u9.2.1) (fun (u9 : VS × LI × VS) t9 => bW D A (VW dA h ad u9.1) t9) A) (by decide) (Nat.le_of_ble_eq_true rfl) ?_
  intro A p e s m below meth c ls hsz hZ hT hM hQ hB
  obtain ⟨hx, hb, hr, hml, hown, hin, hlk, hE, hK, hP, hD, hS, hA, hN, hl⟩ := hB
  have hown : s.vm.findClass "SeriesVault$Question" = some m.cls := hown
  have hl : lv_has ls 3 [(0, .ref (ad 22)), (1, .ref x.tpA), (2, .int (nI n))] := hl
  obtain ⟨H, hH⟩ : ∃ z, z = s.heap := ⟨_, rfl⟩
  have hP : va_P D vwCl (VW dA h ad x) H := by rw [hH]; exact hP
  have hS : va_S A s.heap H [] := by rw [hH]; exact hS
  rw [← hH]
  refine lv_aload_n hx hb d_Q_read_0 rfl (lv_at hl 0 rfl) ?_
  refine lv_aload_n hx hb d_Q_read_1 rfl (lv_at hl 1 rfl) ?_
  refine pF (v := .ref x.tpA) hx hb hown hE hK hP hD hS 36 rfl rfl layQ tyQ tokQ nmQ 0 (by decide) w677 rfl rfl rfl (Nat.le_of_ble_eq_true rfl) d_Q_read_2 (fun H locs hP hD hS => ?_)
  have hP : va_P D vwCl (VW dA h ad (VS.s_qtp x x.tpA)) H := hP
  have hD : va_D A (VW dA h ad (VS.s_qtp x x.tpA)) := hD
  refine lv_aload_n hx hb d_Q_read_5 rfl (lv_at hl 0 rfl) ?_
  refine lv_iload_n hx hb d_Q_read_6 rfl (lv_at hl 2 rfl) ?_
  refine pF (v := .int (nI n)) hx hb hown hE hK hP hD hS 36 rfl rfl layQ tyQ tokQ nmQ 1 (by decide) w661 rfl rfl rfl (Nat.le_of_ble_eq_true rfl) d_Q_read_7 (fun H locs hP hD hS => ?_)
  have hP : va_P D vwCl (VW dA h ad (VS.s_qlen (VS.s_qtp x x.tpA) n)) H := hP
  have hD : va_D A (VW dA h ad (VS.s_qlen (VS.s_qtp x x.tpA) n)) := hD
  refine lv_aload_n hx hb d_Q_read_10 rfl (lv_at hl 0 rfl) ?_
  refine lv_iconst (v := 0) hx hb d_Q_read_11 (by decide) ?_
  refine pF (v := .int 0) hx hb hown hE hK hP hD hS 36 rfl rfl layQ tyQ tokQ nmQ 6 (by decide) w658 rfl rfl rfl (Nat.le_of_ble_eq_true rfl) d_Q_read_12 (fun H locs hP hD hS => ?_)
  have hP : va_P D vwCl (VW dA h ad (VS.s_qcode (VS.s_qlen (VS.s_qtp x x.tpA) n) 0)) H := hP
  have hD : va_D A (VW dA h ad (VS.s_qcode (VS.s_qlen (VS.s_qtp x x.tpA) n) 0)) := hD
  refine lv_aload_n hx hb d_Q_read_15 rfl (lv_at hl 0 rfl) ?_
  refine lv_iconst (v := 0) hx hb d_Q_read_16 (by decide) ?_
  refine pF (v := .int 0) hx hb hown hE hK hP hD hS 36 rfl rfl layQ tyQ tokQ nmQ 7 (by decide) w659 rfl rfl rfl (Nat.le_of_ble_eq_true rfl) d_Q_read_17 (fun H locs hP hD hS => ?_)
  have hP : va_P D vwCl (VW dA h ad (VS.s_qpl (VS.s_qcode (VS.s_qlen (VS.s_qtp x x.tpA) n) 0) 0)) H := hP
  have hD : va_D A (VW dA h ad (VS.s_qpl (VS.s_qcode (VS.s_qlen (VS.s_qtp x x.tpA) n) 0) 0)) := hD
  refine lv_aload_n hx hb d_Q_read_20 rfl (lv_at hl 0 rfl) ?_
  refine lv_iconst (v := 0) hx hb d_Q_read_21 (by decide) ?_
  refine pF (v := .int (nI 0)) hx hb hown hE hK hP hD hS 36 rfl rfl layQ tyQ tokQ nmQ 4 (by decide) w660 rfl rfl rfl (Nat.le_of_ble_eq_true rfl) d_Q_read_22 (fun H locs hP hD hS => ?_)
  have hP : va_P D vwCl (VW dA h ad (VS.s_qpl (VS.s_qcode (VS.s_qen (VS.s_qlen (VS.s_qtp x x.tpA) n) 0) 0) 0)) H := hP
  have hD : va_D A (VW dA h ad (VS.s_qpl (VS.s_qcode (VS.s_qen (VS.s_qlen (VS.s_qtp x x.tpA) n) 0) 0) 0)) := hD
  refine lv_aload_n hx hb d_Q_read_25 rfl (lv_at hl 0 rfl) ?_
  refine gF (v := .ref (ad 23)) hx hb hown hE hK hP 36 rfl rfl layQ 8 (by decide) w678 rfl d_Q_read_26 ?_
  rw [← hsa]
  obtain ⟨y0, e_y0⟩ : ∃ w9, w9 = VS.s_qpl (VS.s_qcode (VS.s_qen (VS.s_qlen (VS.s_qtp x x.tpA) n) 0) 0) 0 := ⟨_, rfl⟩
  rw [← e_y0] at hP hD
  have hP : va_P D vwCl (VW dA h ad y0) H := hP
  have hD : va_D A (VW dA h ad y0) := hD
  have e0r : y0 = x.r0 n := e_y0
  have hl0 : y0.ll = LqW dA sa g ++ r := by rw [e0r]; exact hll
  have hP := pmP (show List.Perm (α := Nat × va_E) (VW dA h ad y0) (LqW dA sa g ++ (VW dA h ad (VS.s_ll y0 r))) from llP (dA := dA) (h := h) (ad := ad) (x := y0) (L := LqW dA sa g) (r := r) hl0) hP
  have hD := pmD (show List.Perm (α := Nat × va_E) (VW dA h ad y0) (LqW dA sa g ++ (VW dA h ad (VS.s_ll y0 r))) from llP (dA := dA) (h := h) (ad := ad) (x := y0) (L := LqW dA sa g) (r := r) hl0) hD
  have hP : va_P D vwCl (LqW dA sa g ++ (VW dA h ad (VS.s_ll y0 r))) H := hP
  have hD : va_D A (LqW dA sa g ++ (VW dA h ad (VS.s_ll y0 r))) := hD
  refine jkV (wr := []) (rnVy (As := []) (rest := []) hx hb hml hown hE hK hZ hT hM hS (hN _ _ hS) hP hD (v_LclearQ l D dA H.size e0 mi (VW dA h ad (VS.s_ll y0 r)) sa g hst.1) (q0 := 0) rfl rfl w681 w679 w682 w683 w680 rfl rfl ⟨⟨by decide, by decide⟩, rfl⟩ ⟨(Nat.le_of_ble_eq_true rfl), (Nat.le_of_ble_eq_true rfl)⟩ rfl hl.1 rfl (Nat.le_of_ble_eq_true rfl) d_Q_read_29 ⟨(show 0 + 0 ≤ 8 * n by omega), (show 0 + 0 ≤ 64 * n + 4 * (cpR g.eN 0 (pQ x.tape n (x.t0 n)).2.2.length - g.eN) by omega)⟩) hP hD hS hA (fun u2 H locs hp9 hP hD hS => ?_)
  have hP : va_P D vwCl (LqW dA sa (LI.s_el (LI.s_mc (LI.s_sz g 0) (g.mc + 1)) (clF g.el g.sz)) ++ (VW dA h ad (VS.s_ll y0 r))) H := hP
  have hD : va_D A (LqW dA sa (LI.s_el (LI.s_mc (LI.s_sz g 0) (g.mc + 1)) (clF g.el g.sz)) ++ (VW dA h ad (VS.s_ll y0 r))) := hD
  refine lv_aload_n hx hb d_Q_read_32 rfl (lv_at hl 0 rfl) ?_
  have hP := pmP (show List.Perm (α := Nat × va_E) (LqW dA sa (LI.s_el (LI.s_mc (LI.s_sz g 0) (g.mc + 1)) (clF g.el g.sz)) ++ (VW dA h ad (VS.s_ll y0 r))) (VW dA h ad (VS.s_ll y0 (LqW dA sa (LI.s_el (LI.s_mc (LI.s_sz g 0) (g.mc + 1)) (clF g.el g.sz)) ++ r))) from (llP (dA := dA) (h := h) (ad := ad) (x := (VS.s_ll y0 (LqW dA sa (LI.s_el (LI.s_mc (LI.s_sz g 0) (g.mc + 1)) (clF g.el g.sz)) ++ r))) (L := LqW dA sa (LI.s_el (LI.s_mc (LI.s_sz g 0) (g.mc + 1)) (clF g.el g.sz))) (r := r) rfl).symm) hP
  have hD := pmD (show List.Perm (α := Nat × va_E) (LqW dA sa (LI.s_el (LI.s_mc (LI.s_sz g 0) (g.mc + 1)) (clF g.el g.sz)) ++ (VW dA h ad (VS.s_ll y0 r))) (VW dA h ad (VS.s_ll y0 (LqW dA sa (LI.s_el (LI.s_mc (LI.s_sz g 0) (g.mc + 1)) (clF g.el g.sz)) ++ r))) from (llP (dA := dA) (h := h) (ad := ad) (x := (VS.s_ll y0 (LqW dA sa (LI.s_el (LI.s_mc (LI.s_sz g 0) (g.mc + 1)) (clF g.el g.sz)) ++ r))) (L := LqW dA sa (LI.s_el (LI.s_mc (LI.s_sz g 0) (g.mc + 1)) (clF g.el g.sz))) (r := r) rfl).symm) hD
  have hP : va_P D vwCl (VW dA h ad (VS.s_ll y0 (LqW dA sa (LI.s_el (LI.s_mc (LI.s_sz g 0) (g.mc + 1)) (clF g.el g.sz)) ++ r))) H := hP
  have hD : va_D A (VW dA h ad (VS.s_ll y0 (LqW dA sa (LI.s_el (LI.s_mc (LI.s_sz g 0) (g.mc + 1)) (clF g.el g.sz)) ++ r))) := hD
  obtain ⟨y1, e_y1⟩ : ∃ w9, w9 = VS.s_ll y0 (LqW dA sa (LI.s_el (LI.s_mc (LI.s_sz g 0) (g.mc + 1)) (clF g.el g.sz)) ++ r) := ⟨_, rfl⟩
  rw [← e_y1] at hP hD
  have hP : va_P D vwCl (VW dA h ad y1) H := hP
  have hD : va_D A (VW dA h ad y1) := hD
  have q01 : (x.r0 n).qr y1 := by rw [e_y1, e0r]; exact qr_ll _ _
  have hl1 : y1.ll = LqW dA sa (LI.s_el (LI.s_mc (LI.s_sz g 0) (g.mc + 1)) (clF g.el g.sz)) ++ r := by rw [e_y1]
  have f1 : y1.qtp = y1.tpA ∧ y1.qlen = n ∧ y1.tpN = x.tpN ∧ y1.tape = x.tape ∧ y1.qen = 0 := by rw [e_y1, e0r]; exact ⟨rfl, rfl, rfl, rfl, rfl⟩
  obtain ⟨f11, f12, f13, f14, f15⟩ := f1
  have ep1 : y1.pl = x.pl := by rw [e_y1, e0r]; rfl
  have tk1 : y1.tk = (x.qk, x.qst, 0, x.qnum, 0, 0) := by rw [e_y1, e0r]; rfl
  refine jkV (wr := []) (rnV (As := []) (rest := []) hx hb hml hown hE hK (hN _ _ hS) hP hD (v_Qadvance l D dA H.size h ad y1 f11 (show y1.qlen ≤ y1.tpN from by omega) (show y1.tpN ≤ 131072 from by omega) (show y1.qen ≤ y1.qlen from by omega)) (q0 := 36) rfl rfl w685 w684 w686 w687 w665 rfl rfl ⟨⟨by decide, by decide⟩, rfl⟩ ⟨(Nat.le_of_ble_eq_true rfl), (Nat.le_of_ble_eq_true rfl)⟩ rfl hl.1 rfl (Nat.le_of_ble_eq_true rfl) d_Q_read_33 ⟨(show 0 + 0 + 0 ≤ 8 * n by omega), (show 0 + 0 + 0 ≤ 64 * n + 4 * (cpR g.eN 0 (pQ x.tape n (x.t0 n)).2.2.length - g.eN) by omega)⟩) hP hD hS hA (fun u4 H locs hp9 hP hD hS => ?_)
  obtain ⟨y2, h9u⟩ : ∃ z9, z9 = u4 := ⟨_, rfl⟩
  subst h9u
  have hP : va_P D vwCl (VW dA h ad y2) H := hP
  have hD : va_D A (VW dA h ad y2) := hD
  have f_e_5 := hp9
  refine lv_aload_n hx hb d_Q_read_36 rfl (lv_at hl 0 rfl) ?_
  refine lv_iconst (v := 0) hx hb d_Q_read_37 (by decide) ?_
  obtain ⟨hk2, qq2, tk2⟩ := qok_adv0 f11 (by omega) (by omega) (by omega) (by rw [f14]; exact hby) (by omega) f_e_5
  have kf2 : y2.tape = x.tape ∧ y2.qlen = n := ⟨((qr_f (qp_qr qq2)).2.2.1).trans f14, ((qr_f (qp_qr qq2)).2.1).trans f12⟩
  have tt2 : y2.tk = x.t0 n := by rw [tk2, f14, f12, tk1]; rfl
  have w2 : VS.pw dA e0 sa r y2 (LI.s_el (LI.s_mc (LI.s_sz g 0) (g.mc + 1)) (clF g.el g.sz)) := ⟨hk2, (qp_ll qq2).trans hl1, stL_m qq2.2 (by rw [ep1]; exact stL_c hst), Nat.zero_le _⟩
  have eR : pQ y2.tape y2.qlen y2.tk = pQ x.tape n (x.t0 n) := by rw [kf2.1, kf2.2, tt2]
  have sx2 : y2.qst = (x.t0 n).2.1 := congrArg (fun q : TKQ => q.2.1) tt2
  have gq0 := pQ_g x.tape n (x.t0 n) (by have e9 := hk2.2.2.2.2.2; rw [kf2.2, tt2] at e9; exact e9)
  have rl := (rqP_st (b := (pQ x.tape n (x.t0 n)).1) gq0.1).2
  have rl2 := gq0.1.2.1
  have rY : rqP (pQ y2.tape y2.qlen y2.tk).1 (pQ y2.tape y2.qlen y2.tk).2.1 = rqP (pQ x.tape n (x.t0 n)).1 (pQ x.tape n (x.t0 n)).2.1 := by rw [eR]
  have eG : LI.eN (LI.s_el (LI.s_mc (LI.s_sz g 0) (g.mc + 1)) (clF g.el g.sz)) = g.eN := rfl
  have cY : cpR (LI.eN (LI.s_el (LI.s_mc (LI.s_sz g 0) (g.mc + 1)) (clF g.el g.sz))) (LI.sz (LI.s_el (LI.s_mc (LI.s_sz g 0) (g.mc + 1)) (clF g.el g.sz))) (pQ y2.tape y2.qlen y2.tk).2.2.length = cpR g.eN 0 (pQ x.tape n (x.t0 n)).2.2.length := by rw [eR]
  refine jkI (wr := []) (rnVs (As := [.int 0]) (rest := []) hx hb hml hown hE hK hZ hT hM hQ hS (hN _ _ hS) hP hD (v_ExpC0 l D dA H.size e0 mi kA vA fm h ad sa (LI.s_el (LI.s_mc (LI.s_sz g 0) (g.mc + 1)) (clF g.el g.sz)) r y2 hsa w2) (q0 := 36) rfl rfl w689 w688 w690 w691 w665 rfl rfl ⟨⟨by decide, by decide⟩, rfl⟩ ⟨(Nat.le_of_ble_eq_true rfl), (Nat.le_of_ble_eq_true rfl)⟩ rfl hl.1 rfl (Nat.le_of_ble_eq_true rfl) d_Q_read_38 ⟨(show 0 + 0 + 0 + (8 * (rqP (pQ y2.tape y2.qlen y2.tk).1 (pQ y2.tape y2.qlen y2.tk).2.1 - y2.qst)) ≤ 8 * n by omega), (show 0 + 0 + 0 + (64 * (rqP (pQ y2.tape y2.qlen y2.tk).1 (pQ y2.tape y2.qlen y2.tk).2.1 - y2.qst) + 4 * (cpR (LI.s_el (LI.s_mc (LI.s_sz g 0) (g.mc + 1)) (clF g.el g.sz)).eN (LI.s_el (LI.s_mc (LI.s_sz g 0) (g.mc + 1)) (clF g.el g.sz)).sz (pQ y2.tape y2.qlen y2.tk).2.2.length - (LI.s_el (LI.s_mc (LI.s_sz g 0) (g.mc + 1)) (clF g.el g.sz)).eN)) ≤ 64 * n + 4 * (cpR g.eN 0 (pQ x.tape n (x.t0 n)).2.2.length - g.eN) by omega)⟩) hP hD hS hA (fun r6 u7 H locs hp9 hP hD hS => ?_)
  obtain ⟨y3, gy3⟩ := u7
  have hP : va_P D vwCl (VW dA h ad y3) H := hP
  have hD : va_D A (VW dA h ad y3) := hD
  obtain ⟨hp9, f_p_8⟩ := hp9
  replace hp9 : bI (pQ y2.tape y2.qlen y2.tk).1 = r6 := Eq.symm hp9
  subst hp9
  have hp3 := f_p_8
  rw [eR] at hp3
  have q03 : (x.r0 n).qr y3 := qr_tr q01 (qr_tr (qp_qr qq2) hp3.1)
  have kb_y3 : y3.qst ≤ y3.qen ∧ y3.qen ≤ y3.qlen ∧ y3.qlen ≤ y3.tpN ∧ y3.tpN ≤ 131072 ∧ y3.qlen ≤ 16384 := ⟨hp3.2.2.1.1.2.2.2.2.2.1, hp3.2.2.1.1.2.2.2.2.2.2.1, hp3.2.2.1.1.2.1, hp3.2.2.1.1.2.2.1, hp3.2.2.1.1.2.2.2.1⟩
  have kq_y3 : y3.qtp = y3.tpA := hp3.2.2.1.1.1
  refine lv_if_eq hx hb d_Q_read_41 (tgt := 70) rfl (fun g9 => ?_) (fun g9 => ?_)
  · have g9 := bI_0 g9
    refine lv_iconst (v := 0) hx hb d_Q_read_70 (by decide) ?_
    exact rfZ hx hb hr (bI_nar false) hlk hS (⟨y3, gy3, y1⟩) (by have E : qRd (pQ x.tape n (x.t0 n)) = pQ x.tape n (x.t0 n) := qRd_f (by rw [← eR]; exact g9); exact ⟨by rw [E, ← eR, g9]; rfl, q03, by rw [E]; exact pq_pre (qp_qr qq2) hp3⟩) hP hD (show 0 + 0 + 0 + (8 * (rqP (pQ y2.tape y2.qlen y2.tk).1 (pQ y2.tape y2.qlen y2.tk).2.1 - y2.qst)) ≤ 8 * n by omega) (show 0 + 0 + 0 + (64 * (rqP (pQ y2.tape y2.qlen y2.tk).1 (pQ y2.tape y2.qlen y2.tk).2.1 - y2.qst) + 4 * (cpR (LI.s_el (LI.s_mc (LI.s_sz g 0) (g.mc + 1)) (clF g.el g.sz)).eN (LI.s_el (LI.s_mc (LI.s_sz g 0) (g.mc + 1)) (clF g.el g.sz)).sz (pQ y2.tape y2.qlen y2.tk).2.2.length - (LI.s_el (LI.s_mc (LI.s_sz g 0) (g.mc + 1)) (clF g.el g.sz)).eN)) ≤ 64 * n + 4 * (cpR g.eN 0 (pQ x.tape n (x.t0 n)).2.2.length - g.eN) by omega) d_Q_read_71
  · have g9 := bI_n0 g9
    refine lv_aload_n hx hb d_Q_read_44 rfl (lv_at hl 0 rfl) ?_
    refine gF (v := .int y3.qk) hx hb hown hE hK hP 36 rfl rfl layQ 2 (by decide) w663 rfl d_Q_read_45 ?_
    refine lv_sipush (v := 256) hx hb d_Q_read_48 (by decide) ?_
    refine lv_icmp_eq hx hb d_Q_read_51 (tgt := 66) rfl (fun g10 => ?_) (fun g10 => ?_)
    · have g10 := g10
      refine lv_iconst (v := 1) hx hb d_Q_read_66 (by decide) ?_
      refine lv_goto hx hb d_Q_read_67 (tgt := 71) rfl ?_
      exact rfZ hx hb hr (bI_nar true) hlk hS (⟨y3, gy3, y1⟩) (by have E := qRd_t (show (pQ x.tape n (x.t0 n)).1 = true by rw [← eR]; exact g9) (by rw [← hp3.2.1]; exact g10); exact ⟨by rw [E]; show _ = bI (pQ x.tape n (x.t0 n)).1; rw [(show (pQ x.tape n (x.t0 n)).1 = true by rw [← eR]; exact g9)]; rfl, q03, by rw [E]; exact pq_pre (qp_qr qq2) hp3⟩) hP hD (show 0 + 0 + 0 + (8 * (rqP (pQ y2.tape y2.qlen y2.tk).1 (pQ y2.tape y2.qlen y2.tk).2.1 - y2.qst)) ≤ 8 * n by omega) (show 0 + 0 + 0 + (64 * (rqP (pQ y2.tape y2.qlen y2.tk).1 (pQ y2.tape y2.qlen y2.tk).2.1 - y2.qst) + 4 * (cpR (LI.s_el (LI.s_mc (LI.s_sz g 0) (g.mc + 1)) (clF g.el g.sz)).eN (LI.s_el (LI.s_mc (LI.s_sz g 0) (g.mc + 1)) (clF g.el g.sz)).sz (pQ y2.tape y2.qlen y2.tk).2.2.length - (LI.s_el (LI.s_mc (LI.s_sz g 0) (g.mc + 1)) (clF g.el g.sz)).eN)) ≤ 64 * n + 4 * (cpR g.eN 0 (pQ x.tape n (x.t0 n)).2.2.length - g.eN) by omega) d_Q_read_71
    · have g10 := g10
      refine lv_aload_n hx hb d_Q_read_54 rfl (lv_at hl 0 rfl) ?_
      refine lv_iconst (v := 2) hx hb d_Q_read_55 (by decide) ?_
      refine lv_aload_n hx hb d_Q_read_56 rfl (lv_at hl 0 rfl) ?_
      refine gF (v := .int (nI y3.qst)) hx hb hown hE hK hP 36 rfl rfl layQ 3 (by decide) w662 rfl d_Q_read_57 ?_
      refine jkI (wr := []) (rnV (As := [.int 2, .int (nI y3.qst)]) (rest := []) hx hb hml hown hE hK (hN _ _ hS) hP hD (v_Qrefuse l D dA H.size h ad y3 2 y3.qst) (q0 := 36) rfl rfl w666 w664 w667 w668 w665 rfl rfl ⟨⟨by decide, by decide⟩, rfl⟩ ⟨(Nat.le_of_ble_eq_true rfl), (Nat.le_of_ble_eq_true rfl)⟩ rfl hl.1 rfl (Nat.le_of_ble_eq_true rfl) d_Q_read_60 ⟨(show 0 + 0 + 0 + (8 * (rqP (pQ y2.tape y2.qlen y2.tk).1 (pQ y2.tape y2.qlen y2.tk).2.1 - y2.qst)) + 0 ≤ 8 * n by omega), (show 0 + 0 + 0 + (64 * (rqP (pQ y2.tape y2.qlen y2.tk).1 (pQ y2.tape y2.qlen y2.tk).2.1 - y2.qst) + 4 * (cpR (LI.s_el (LI.s_mc (LI.s_sz g 0) (g.mc + 1)) (clF g.el g.sz)).eN (LI.s_el (LI.s_mc (LI.s_sz g 0) (g.mc + 1)) (clF g.el g.sz)).sz (pQ y2.tape y2.qlen y2.tk).2.2.length - (LI.s_el (LI.s_mc (LI.s_sz g 0) (g.mc + 1)) (clF g.el g.sz)).eN)) + 0 ≤ 64 * n + 4 * (cpR g.eN 0 (pQ x.tape n (x.t0 n)).2.2.length - g.eN) by omega)⟩) hP hD hS hA (fun r11 u12 H locs hp9 hP hD hS => ?_)
      obtain ⟨y4, h9u⟩ : ∃ z9, z9 = u12 := ⟨_, rfl⟩
      subst h9u
      have hP : va_P D vwCl (VW dA h ad y4) H := hP
      have hD : va_D A (VW dA h ad y4) := hD
      obtain ⟨hp9, f_e_13⟩ := hp9
      replace hp9 : 0 = r11 := Eq.symm hp9
      subst hp9
      obtain ⟨hk4, qq4, tk4⟩ := qok_rfq hp3.2.2.1.1 f_e_13
      refine lv_if_eq hx hb d_Q_read_63 (tgt := 70) rfl (fun _ => ?_) (fun h9 => absurd (by decide) h9)
      refine lv_iconst (v := 0) hx hb d_Q_read_70 (by decide) ?_
      exact rfZ hx hb hr (bI_nar false) hlk hS (⟨y4, gy3, y1⟩) (by have E := qRd_n (show (pQ x.tape n (x.t0 n)).1 = true by rw [← eR]; exact g9) (by rw [← hp3.2.1]; exact g10); exact ⟨by rw [E]; rfl, qr_tr q03 (qp_qr qq4), by rw [E]; exact pq_tk (pq_pre (qp_qr qq2) hp3) (show (pQ x.tape n (x.t0 n)).1 = true by rw [← eR]; exact g9) qq4 hk4 (by rw [tk4, show y3.qst = y3.tk.2.1 from rfl, hp3.2.1]) (Nat.le_of_eq (by have e9 := congrArg (fun q : TKQ => q.2.1) tk4; exact ((rfT_e y3.tk 2 y3.qst).2.1.symm.trans e9.symm)))⟩) hP hD (show 0 + 0 + 0 + (8 * (rqP (pQ y2.tape y2.qlen y2.tk).1 (pQ y2.tape y2.qlen y2.tk).2.1 - y2.qst)) + 0 ≤ 8 * n by omega) (show 0 + 0 + 0 + (64 * (rqP (pQ y2.tape y2.qlen y2.tk).1 (pQ y2.tape y2.qlen y2.tk).2.1 - y2.qst) + 4 * (cpR (LI.s_el (LI.s_mc (LI.s_sz g 0) (g.mc + 1)) (clF g.el g.sz)).eN (LI.s_el (LI.s_mc (LI.s_sz g 0) (g.mc + 1)) (clF g.el g.sz)).sz (pQ y2.tape y2.qlen y2.tk).2.2.length - (LI.s_el (LI.s_mc (LI.s_sz g 0) (g.mc + 1)) (clF g.el g.sz)).eN)) + 0 ≤ 64 * n + 4 * (cpR g.eN 0 (pQ x.tape n (x.t0 n)).2.2.length - g.eN) by omega) d_Q_read_71
end
section
/-! Points met, one after the other. -/
theorem i2n_of {a : Nat} (h : a < 2 ^ 31) : i2n (nI a) = a := nI_clamp h
def wOk (fr wd : Int64) (n : Nat) (tm : Int64) : Prop := woA fr wd n tm = (-1) ∨ ∃ w, w < n ∧ woA fr wd n tm = nI w
section MQ
variable (fn : Int32) (t : TB) (x : VS) (o : Nat) (tm v : Int64)
def mqY : TB := if woA x.afr x.awd x.awi tm = (-1) then t else mtT fn t x (i2n (x.aro o)) (i2n (woA x.afr x.awd x.awi tm)) o tm v
def mqT : Nat → Int64 := if woA x.afr x.awd x.awi tm = (-1) then x.bT else mxT fn t x (i2n (x.aro o)) (i2n (woA x.afr x.awd x.awi tm)) o tm
def mqO : Nat → Nat := if woA x.afr x.awd x.awi tm = (-1) then x.bO else mxO fn t x (i2n (x.aro o)) (i2n (woA x.afr x.awd x.awi tm)) o tm
def mqX : VS := VS.s_bO (VS.s_bT (VS.s_abf (VS.s_ahb x (va_up x.ahb o true)) (va_up x.abf o v)) (mqT fn t x o tm)) (mqO fn t x o tm)
end MQ
theorem mq_n {fn : Int32} {t : TB} {x : VS} {o : Nat} {tm v : Int64} (h : woA x.afr x.awd x.awi tm = (-1)) : mqY fn t x o tm v = t ∧ mqX fn t x o tm v = VS.s_abf (VS.s_ahb x (va_up x.ahb o true)) (va_up x.abf o v) := by
  refine ⟨if_pos h, ?_⟩
  unfold mqX mqT mqO
  rw [if_pos h, if_pos h]
theorem wA_n {w : Nat} (h : w ≤ 64) : ¬ nI w = (-1 : Int32) := by
  intro e
  have := congrArg Int32.toInt e
  rw [show (-1 : Int32).toInt = -1 by decide] at this
  have h2 : (nI w).toInt = (w : Int) := nI_toInt (by omega)
  omega
theorem mq_w {fn : Int32} {t : TB} {x : VS} {o r w : Nat} {tm v : Int64} (hw : woA x.afr x.awd x.awi tm = nI w) (hw2 : w ≤ 64) (hr : x.aro o = nI r) (hr2 : r < 2 ^ 31) : mqY fn t x o tm v = mtT fn t x r w o tm v ∧ mqX fn t x o tm v = meX fn t x r w o tm v := by
  have n : ¬ woA x.afr x.awd x.awi tm = (-1) := by rw [hw]; exact wA_n hw2
  have e1 : i2n (x.aro o) = r := by rw [hr]; exact i2n_of hr2
  have e2 : i2n (woA x.afr x.awd x.awi tm) = w := by rw [hw]; exact i2n_of (by omega)
  refine ⟨?_, ?_⟩
  · unfold mqY
    rw [if_neg n, e1, e2]
  · unfold mqX mqT mqO
    rw [if_neg n, if_neg n, e1, e2, meX_e]
theorem mul_in {r c wi w n : Nat} (h1 : r < c) (h2 : w < wi) (h3 : c * wi ≤ n) : r * wi + w < n := by
  have h4 : (r + 1) * wi ≤ c * wi := Nat.mul_le_mul_right wi h1
  rw [Nat.succ_mul] at h4
  omega
theorem v_meetQ (l : Launch) (D : va_G) (dA : Nat → ClassId) (sz : Nat) (h : Nat) (ad : Nat → Nat) (ta : Nat → Nat) (t : TB) (x : VS) (fn : Int32) (o : Nat) (tm : Int64) (v : Int64) (r : Nat) (hwi : x.awi ≤ 64) (hW : wOk x.afr x.awd x.awi tm) (hro : x.aro o = nI r) (hr : r < t.rc) (hrc : t.rc ≤ 256) (hcN : t.cN ≤ 65536) (hwt : t.wi = x.awi) (h1 : t.rc * t.wi ≤ t.cN) (h3 : o < 256) (h4 : t.rc * x.awi ≤ x.bN) (h5 : x.bN ≤ 65536) (h6 : ∀ k : Nat, x.bO k < 256) (hfn : isFn fn) : Met l ⟨"SeriesVault$Answers", "meet", "(ILSeriesVault$Table;IJJ)V"⟩ [Cond.code ⟨"SeriesVault$Answers", "meet", "(ILSeriesVault$Table;IJJ)V"⟩ prog_2_method_9_code 10 none] { frames := 4, cells := 0, slots := 0, locals := 300 } (pC D dA [.ref (ad 24), .int fn, .ref (ta 0), .int (nI o), .long tm, .long v] (TbW dA ta t ++ (VW dA h ad x)) sz) (va_Qv (fun (u9 : TB) => u9 = mqY fn t x o tm v) (fun (u9 : TB) t9 => bW D (va_A (TbW dA ta t ++ (VW dA h ad x)) sz) (TbW dA ta u9 ++ (VW dA h ad (VS.s_bO (VS.s_bT (VS.s_abf (VS.s_ahb x (va_up x.ahb o true)) (va_up x.abf o v)) (mqT fn t x o tm)) (mqO fn t x o tm)))) t9) (va_A (TbW dA ta t ++ (VW dA h ad x)) sz)) 0 0 (va_A (TbW dA ta t ++ (VW dA h ad x)) sz) := by
  rcases hW with hw | ⟨w, hw2, hw⟩
  · obtain ⟨e1, e2⟩ := mq_n (fn := fn) (t := t) (o := o) (v := v) hw
    refine Met_mono (v_meet_n l D dA sz h ad ta t x fn o tm v hwi hw h3) (Nat.le_of_ble_eq_true rfl) (Nat.le_refl _) (Nat.le_refl _) (Nat.le_of_ble_eq_true rfl) (Nat.le_refl _) (Nat.le_refl _) (fun _ _ q => q) ?_ (fun _ q => q)
    rintro b9 st oc tt ⟨⟨u, c1, -, c3⟩, c4⟩
    refine ⟨⟨t, c1, e1.symm, ?_⟩, c4⟩
    show bW D _ (TbW dA ta t ++ VW dA h ad (mqX fn t x o tm v)) tt
    rw [e2]
    exact c3
  · obtain ⟨e1, e2⟩ := mq_w (fn := fn) (t := t) (v := v) hw (by omega) hro (by omega)
    have i1 := mul_in hr (show w < t.wi by omega) h1
    have i2 := mul_in hr hw2 h4
    refine Met_mono (v_meet l D dA sz h ad ta t x fn o tm v r w hwi hw hw2 hro hcN i1 (by omega) h3 i2 h5 (h6 _) hfn) (Nat.le_of_ble_eq_true rfl) (Nat.le_refl _) (Nat.le_refl _) (Nat.le_of_ble_eq_true rfl) (Nat.le_refl _) (Nat.le_refl _) (fun _ _ q => q) ?_ (fun _ q => q)
    rintro b9 st oc tt ⟨⟨u, c1, c2, c3⟩, c4⟩
    obtain ⟨d1, d2⟩ := c2
    refine ⟨⟨u.1, c1, d1.trans e1.symm, ?_⟩, c4⟩
    show bW D _ (TbW dA ta u.1 ++ VW dA h ad (mqX fn t x o tm v)) tt
    rw [e2, ← d2]
    exact c3
end
section
/-! All points met: parcels, then the head. -/
abbrev MM : Type := TB × (Nat → Bool) × (Nat → Int64) × (Nat → Int64) × (Nat → Nat)
def VS.pb (x : VS) (M : MM) : VS := VS.s_bO (VS.s_bT (VS.s_abf (VS.s_ahb x M.2.1) M.2.2.1) M.2.2.2.1) M.2.2.2.2
def mm1 (fn : Int32) (x : VS) (M : MM) (o : Nat) (tm v : Int64) : MM := (mqY fn M.1 (x.pb M) o tm v, va_up M.2.1 o true, va_up M.2.2.1 o v, mqT fn M.1 (x.pb M) o tm, mqO fn M.1 (x.pb M) o tm)
/-- i points of a parcel -/
def mmP (fn : Int32) (x : VS) (P : PT) (M : MM) : Nat → MM
  | 0 => M
  | i + 1 => if ¬ x.aro (P.o i) = (-1) ∧ x.sePc P i = true then mm1 fn x (mmP fn x P M i) (P.o i) (P.t i) (P.v i) else mmP fn x P M i
/-- k parcels -/
def mmK (fn : Int32) (x : VS) (PS : Nat → PT) (M : MM) : Nat → MM
  | 0 => M
  | k + 1 => mmP fn x (PS k) (mmK fn x PS M k) (PS k).n
/-- i points of the head -/
def mmH (fn : Int32) (x : VS) (M : MM) : Nat → MM
  | 0 => M
  | i + 1 => if ¬ x.aro (x.hO i) = (-1) then mm1 fn x (mmH fn x M i) (x.hO i) (x.hT i) (x.hV i) else mmH fn x M i
def VS.m0 (x : VS) (t : TB) : MM := (t, x.ahb, x.abf, x.bT, x.bO)
def mmA (fn : Int32) (x : VS) (PS : Nat → PT) (t : TB) : MM := mmH fn x (mmK fn x PS (x.m0 t) x.npc) x.hsize
section MMS
variable {fn : Int32} {x : VS} {P : PT} {M : MM} {i : Nat}
theorem mmP_t (h : ¬ x.aro (P.o i) = (-1)) (h2 : x.sePc P i = true) : mmP fn x P M (i + 1) = mm1 fn x (mmP fn x P M i) (P.o i) (P.t i) (P.v i) := if_pos ⟨h, h2⟩
theorem mmP_f (h : x.aro (P.o i) = (-1) ∨ x.sePc P i = false) : mmP fn x P M (i + 1) = mmP fn x P M i := if_neg (fun z => by
  rcases h with h | h
  · exact z.1 h
  · rw [z.2] at h; cases h)
theorem mmH_t (h : ¬ x.aro (x.hO i) = (-1)) : mmH fn x M (i + 1) = mm1 fn x (mmH fn x M i) (x.hO i) (x.hT i) (x.hV i) := if_pos h
theorem mmH_f (h : x.aro (x.hO i) = (-1)) : mmH fn x M (i + 1) = mmH fn x M i := if_neg (fun z => z h)
end MMS
theorem mqY_k {fn : Int32} {t : TB} {x : VS} {o : Nat} {tm v : Int64} : (mqY fn t x o tm v).wi = t.wi ∧ (mqY fn t x o tm v).rc = t.rc ∧ (mqY fn t x o tm v).cN = t.cN := by
  unfold mqY
  split
  · exact ⟨rfl, rfl, rfl⟩
  · exact ⟨mtT_k.1, mtT_k.2.1, mtT_k.2.2.1⟩
theorem mqO_l {fn : Int32} {t : TB} {x : VS} {o : Nat} {tm : Int64} (h : ∀ k, x.bO k < 256) (ho : o < 256) : ∀ k, mqO fn t x o tm k < 256 := by
  unfold mqO
  split
  · exact h
  · exact mxO_lt _ _ _ _ _ _ _ h ho
theorem d_A_meetPoints_0 : decode prog_2_method_8_code 0 = .ok (.iconst 0, 1) := by decide +kernel
theorem d_A_meetPoints_1 : decode prog_2_method_8_code 1 = .ok (.istore 5, 2) := by decide +kernel
theorem d_A_meetPoints_3 : decode prog_2_method_8_code 3 = .ok (.iload 5, 2) := by decide +kernel
theorem d_A_meetPoints_5 : decode prog_2_method_8_code 5 = .ok (.aload_n 3, 1) := by decide +kernel
theorem d_A_meetPoints_6 : decode prog_2_method_8_code 6 = .ok (.getfield 162, 3) := by decide +kernel
theorem d_A_meetPoints_9 : decode prog_2_method_8_code 9 = .ok (.if_icmp .ge 95, 3) := by decide +kernel
theorem d_A_meetPoints_104 : decode prog_2_method_8_code 104 = .ok (.iconst 0, 1) := by decide +kernel
theorem d_A_meetPoints_105 : decode prog_2_method_8_code 105 = .ok (.istore 5, 2) := by decide +kernel
theorem d_A_meetPoints_107 : decode prog_2_method_8_code 107 = .ok (.iload 5, 2) := by decide +kernel
theorem d_A_meetPoints_109 : decode prog_2_method_8_code 109 = .ok (.aload 4, 2) := by decide +kernel
theorem d_A_meetPoints_111 : decode prog_2_method_8_code 111 = .ok (.getfield 190, 3) := by decide +kernel
theorem d_A_meetPoints_114 : decode prog_2_method_8_code 114 = .ok (.if_icmp .ge 56, 3) := by decide +kernel
theorem d_A_meetPoints_170 : decode prog_2_method_8_code 170 = .ok (.return_, 1) := by decide +kernel
theorem d_A_meetPoints_117 : decode prog_2_method_8_code 117 = .ok (.aload_n 0, 1) := by decide +kernel
theorem d_A_meetPoints_118 : decode prog_2_method_8_code 118 = .ok (.getfield 18, 3) := by decide +kernel
theorem d_A_meetPoints_121 : decode prog_2_method_8_code 121 = .ok (.aload 4, 2) := by decide +kernel
theorem d_A_meetPoints_123 : decode prog_2_method_8_code 123 = .ok (.getfield 193, 3) := by decide +kernel
theorem d_A_meetPoints_126 : decode prog_2_method_8_code 126 = .ok (.iload 5, 2) := by decide +kernel
theorem d_A_meetPoints_128 : decode prog_2_method_8_code 128 = .ok (.iaload, 1) := by decide +kernel
theorem d_A_meetPoints_129 : decode prog_2_method_8_code 129 = .ok (.iaload, 1) := by decide +kernel
theorem d_A_meetPoints_130 : decode prog_2_method_8_code 130 = .ok (.iconst (-1), 1) := by decide +kernel
theorem d_A_meetPoints_131 : decode prog_2_method_8_code 131 = .ok (.if_icmp .eq 33, 3) := by decide +kernel
theorem d_A_meetPoints_164 : decode prog_2_method_8_code 164 = .ok (.iinc 5 1, 3) := by decide +kernel
theorem d_A_meetPoints_167 : decode prog_2_method_8_code 167 = .ok (.goto (-60), 3) := by decide +kernel
theorem d_A_meetPoints_134 : decode prog_2_method_8_code 134 = .ok (.aload_n 0, 1) := by decide +kernel
theorem d_A_meetPoints_135 : decode prog_2_method_8_code 135 = .ok (.iload_n 1, 1) := by decide +kernel
theorem d_A_meetPoints_136 : decode prog_2_method_8_code 136 = .ok (.aload_n 2, 1) := by decide +kernel
theorem d_A_meetPoints_137 : decode prog_2_method_8_code 137 = .ok (.aload 4, 2) := by decide +kernel
theorem d_A_meetPoints_139 : decode prog_2_method_8_code 139 = .ok (.getfield 193, 3) := by decide +kernel
theorem d_A_meetPoints_142 : decode prog_2_method_8_code 142 = .ok (.iload 5, 2) := by decide +kernel
theorem d_A_meetPoints_144 : decode prog_2_method_8_code 144 = .ok (.iaload, 1) := by decide +kernel
theorem d_A_meetPoints_145 : decode prog_2_method_8_code 145 = .ok (.aload 4, 2) := by decide +kernel
theorem d_A_meetPoints_147 : decode prog_2_method_8_code 147 = .ok (.getfield 194, 3) := by decide +kernel
theorem d_A_meetPoints_150 : decode prog_2_method_8_code 150 = .ok (.iload 5, 2) := by decide +kernel
theorem d_A_meetPoints_152 : decode prog_2_method_8_code 152 = .ok (.laload, 1) := by decide +kernel
theorem d_A_meetPoints_153 : decode prog_2_method_8_code 153 = .ok (.aload 4, 2) := by decide +kernel
theorem d_A_meetPoints_155 : decode prog_2_method_8_code 155 = .ok (.getfield 195, 3) := by decide +kernel
theorem d_A_meetPoints_158 : decode prog_2_method_8_code 158 = .ok (.iload 5, 2) := by decide +kernel
theorem d_A_meetPoints_160 : decode prog_2_method_8_code 160 = .ok (.laload, 1) := by decide +kernel
theorem d_A_meetPoints_161 : decode prog_2_method_8_code 161 = .ok (.invokevirtual 186, 3) := by decide +kernel
theorem d_A_meetPoints_12 : decode prog_2_method_8_code 12 = .ok (.aload_n 3, 1) := by decide +kernel
theorem d_A_meetPoints_13 : decode prog_2_method_8_code 13 = .ok (.getfield 165, 3) := by decide +kernel
theorem d_A_meetPoints_16 : decode prog_2_method_8_code 16 = .ok (.iload 5, 2) := by decide +kernel
theorem d_A_meetPoints_18 : decode prog_2_method_8_code 18 = .ok (.aaload, 1) := by decide +kernel
theorem d_A_meetPoints_19 : decode prog_2_method_8_code 19 = .ok (.astore 6, 2) := by decide +kernel
theorem d_A_meetPoints_21 : decode prog_2_method_8_code 21 = .ok (.iconst 0, 1) := by decide +kernel
theorem d_A_meetPoints_22 : decode prog_2_method_8_code 22 = .ok (.istore 7, 2) := by decide +kernel
theorem d_A_meetPoints_24 : decode prog_2_method_8_code 24 = .ok (.iload 7, 2) := by decide +kernel
theorem d_A_meetPoints_26 : decode prog_2_method_8_code 26 = .ok (.aload 6, 2) := by decide +kernel
theorem d_A_meetPoints_28 : decode prog_2_method_8_code 28 = .ok (.getfield 169, 3) := by decide +kernel
theorem d_A_meetPoints_31 : decode prog_2_method_8_code 31 = .ok (.if_icmp .ge 67, 3) := by decide +kernel
theorem d_A_meetPoints_98 : decode prog_2_method_8_code 98 = .ok (.iinc 5 1, 3) := by decide +kernel
theorem d_A_meetPoints_101 : decode prog_2_method_8_code 101 = .ok (.goto (-98), 3) := by decide +kernel
theorem d_A_meetPoints_34 : decode prog_2_method_8_code 34 = .ok (.aload_n 0, 1) := by decide +kernel
theorem d_A_meetPoints_35 : decode prog_2_method_8_code 35 = .ok (.getfield 18, 3) := by decide +kernel
theorem d_A_meetPoints_38 : decode prog_2_method_8_code 38 = .ok (.aload 6, 2) := by decide +kernel
theorem d_A_meetPoints_40 : decode prog_2_method_8_code 40 = .ok (.getfield 173, 3) := by decide +kernel
theorem d_A_meetPoints_43 : decode prog_2_method_8_code 43 = .ok (.iload 7, 2) := by decide +kernel
theorem d_A_meetPoints_45 : decode prog_2_method_8_code 45 = .ok (.iaload, 1) := by decide +kernel
theorem d_A_meetPoints_46 : decode prog_2_method_8_code 46 = .ok (.iaload, 1) := by decide +kernel
theorem d_A_meetPoints_47 : decode prog_2_method_8_code 47 = .ok (.iconst (-1), 1) := by decide +kernel
theorem d_A_meetPoints_48 : decode prog_2_method_8_code 48 = .ok (.if_icmp .eq 44, 3) := by decide +kernel
theorem d_A_meetPoints_92 : decode prog_2_method_8_code 92 = .ok (.iinc 7 1, 3) := by decide +kernel
theorem d_A_meetPoints_95 : decode prog_2_method_8_code 95 = .ok (.goto (-71), 3) := by decide +kernel
theorem d_A_meetPoints_51 : decode prog_2_method_8_code 51 = .ok (.aload_n 3, 1) := by decide +kernel
theorem d_A_meetPoints_52 : decode prog_2_method_8_code 52 = .ok (.aload 6, 2) := by decide +kernel
theorem d_A_meetPoints_54 : decode prog_2_method_8_code 54 = .ok (.iload 7, 2) := by decide +kernel
theorem d_A_meetPoints_56 : decode prog_2_method_8_code 56 = .ok (.invokevirtual 176, 3) := by decide +kernel
theorem d_A_meetPoints_59 : decode prog_2_method_8_code 59 = .ok (.ifCond .eq 33, 3) := by decide +kernel
theorem d_A_meetPoints_62 : decode prog_2_method_8_code 62 = .ok (.aload_n 0, 1) := by decide +kernel
theorem d_A_meetPoints_63 : decode prog_2_method_8_code 63 = .ok (.iload_n 1, 1) := by decide +kernel
theorem d_A_meetPoints_64 : decode prog_2_method_8_code 64 = .ok (.aload_n 2, 1) := by decide +kernel
theorem d_A_meetPoints_65 : decode prog_2_method_8_code 65 = .ok (.aload 6, 2) := by decide +kernel
theorem d_A_meetPoints_67 : decode prog_2_method_8_code 67 = .ok (.getfield 173, 3) := by decide +kernel
theorem d_A_meetPoints_70 : decode prog_2_method_8_code 70 = .ok (.iload 7, 2) := by decide +kernel
theorem d_A_meetPoints_72 : decode prog_2_method_8_code 72 = .ok (.iaload, 1) := by decide +kernel
theorem d_A_meetPoints_73 : decode prog_2_method_8_code 73 = .ok (.aload 6, 2) := by decide +kernel
theorem d_A_meetPoints_75 : decode prog_2_method_8_code 75 = .ok (.getfield 180, 3) := by decide +kernel
theorem d_A_meetPoints_78 : decode prog_2_method_8_code 78 = .ok (.iload 7, 2) := by decide +kernel
theorem d_A_meetPoints_80 : decode prog_2_method_8_code 80 = .ok (.laload, 1) := by decide +kernel
theorem d_A_meetPoints_81 : decode prog_2_method_8_code 81 = .ok (.aload 6, 2) := by decide +kernel
theorem d_A_meetPoints_83 : decode prog_2_method_8_code 83 = .ok (.getfield 183, 3) := by decide +kernel
theorem d_A_meetPoints_86 : decode prog_2_method_8_code 86 = .ok (.iload 7, 2) := by decide +kernel
theorem d_A_meetPoints_88 : decode prog_2_method_8_code 88 = .ok (.laload, 1) := by decide +kernel
theorem d_A_meetPoints_89 : decode prog_2_method_8_code 89 = .ok (.invokevirtual 186, 3) := by decide +kernel
theorem w1677 : Cond.fieldLinkNest "SeriesVault$Answers" 162 "SeriesVault$Shelf" "parcelCount" "I" "SeriesVault" ∈ aW := aw_of (tb_1 (List.mem_of_getElem? (i := 144) rfl)) rfl
theorem w1678 : Cond.fieldLinkNest "SeriesVault$Answers" 190 "SeriesVault$Points" "size" "I" "SeriesVault" ∈ aW := aw_of (tb_1 (List.mem_of_getElem? (i := 121) rfl)) rfl
theorem w1679 : Cond.fieldLinkNest "SeriesVault$Answers" 193 "SeriesVault$Points" "owners" "[I" "SeriesVault" ∈ aW := aw_of (tb_1 (List.mem_of_getElem? (i := 112) rfl)) rfl
theorem w1680 : Cond.fieldLinkNest "SeriesVault$Answers" 194 "SeriesVault$Points" "times" "[J" "SeriesVault" ∈ aW := aw_of (tb_1 (List.mem_of_getElem? (i := 115) rfl)) rfl
theorem w1681 : Cond.fieldLinkNest "SeriesVault$Answers" 195 "SeriesVault$Points" "values" "[J" "SeriesVault" ∈ aW := aw_of (tb_1 (List.mem_of_getElem? (i := 118) rfl)) rfl
theorem w1682 : Cond.methodLink "SeriesVault$Answers" 186 ⟨"SeriesVault$Answers", "meet", "(ILSeriesVault$Table;IJJ)V"⟩ ∈ aW := aw_of (tb_7 (List.mem_of_getElem? (i := 238) rfl)) rfl
theorem w1683 : Cond.code ⟨"SeriesVault$Answers", "meet", "(ILSeriesVault$Table;IJJ)V"⟩ prog_2_method_9_code 10 none ∈ aW := aw_of (tb_8 (List.mem_of_getElem? (i := 1) rfl)) rfl
theorem w1684 : Cond.instanceMethod ⟨"SeriesVault$Answers", "meet", "(ILSeriesVault$Table;IJJ)V"⟩ ∈ aW := aw_of (tb_8 (List.mem_of_getElem? (i := 0) rfl)) rfl
theorem w1685 : Cond.selects "SeriesVault$Answers" ⟨"SeriesVault$Answers", "meet", "(ILSeriesVault$Table;IJJ)V"⟩ ⟨"SeriesVault$Answers", "meet", "(ILSeriesVault$Table;IJJ)V"⟩ ∈ aW := aw_pr (List.mem_map.mpr ⟨_, pv_4 (List.mem_of_getElem? (i := 9) rfl), rfl⟩) rfl
theorem w1686 : Cond.fieldLinkNest "SeriesVault$Answers" 165 "SeriesVault$Shelf" "parcels" "[LSeriesVault$Parcel;" "SeriesVault" ∈ aW := aw_of (tb_1 (List.mem_of_getElem? (i := 141) rfl)) rfl
theorem w1687 : Cond.fieldLinkNest "SeriesVault$Answers" 169 "SeriesVault$Parcel" "size" "I" "SeriesVault" ∈ aW := aw_of (tb_6 (List.mem_of_getElem? (i := 54) rfl)) rfl
theorem w1688 : Cond.fieldLinkNest "SeriesVault$Answers" 173 "SeriesVault$Parcel" "owners" "[I" "SeriesVault" ∈ aW := aw_of (tb_6 (List.mem_of_getElem? (i := 45) rfl)) rfl
theorem w1689 : Cond.methodLink "SeriesVault$Answers" 176 ⟨"SeriesVault$Shelf", "sees", "(LSeriesVault$Parcel;I)Z"⟩ ∈ aW := aw_of (tb_7 (List.mem_of_getElem? (i := 237) rfl)) rfl
theorem w1690 : Cond.fieldLinkNest "SeriesVault$Answers" 180 "SeriesVault$Parcel" "times" "[J" "SeriesVault" ∈ aW := aw_of (tb_6 (List.mem_of_getElem? (i := 48) rfl)) rfl
theorem w1691 : Cond.fieldLinkNest "SeriesVault$Answers" 183 "SeriesVault$Parcel" "values" "[J" "SeriesVault" ∈ aW := aw_of (tb_6 (List.mem_of_getElem? (i := 51) rfl)) rfl
set_option maxHeartbeats 4000000 in
set_option maxRecDepth 100000 in
theorem v_meetPoints (l : Launch) (D : va_G) (dA : Nat → ClassId) (sz : Nat) (h : Nat) (ad : Nat → Nat) (ta : Nat → Nat) (t : TB) (x : VS) (fn : Int32) (PS : Nat → PT) (hwi : x.awi ≤ 64) (hrc : t.rc ≤ 256) (hcN : t.cN ≤ 65536) (hwt : t.wi = x.awi) (h1 : t.rc * t.wi ≤ t.cN) (h4 : t.rc * x.awi ≤ x.bN) (h5 : x.bN ≤ 65536) (h6 : ∀ k : Nat, x.bO k < 256) (hfn : isFn fn) (hps : psOk dA x.nP x.npc x.pl PS) (hpn : x.npc ≤ 32) (hs1 : x.nsc ≤ 64) (hs7 : ∀ q : Nat, q < x.nsc → x.nsO q < 2 ^ 31) (hns : x.nser ≤ 256) (ha : ∀ o : Nat, o < x.nser → x.aro o = (-1) ∨ ∃ r, r < t.rc ∧ x.aro o = nI r) (hpo : ∀ k : Nat, k < x.npc → ∀ i : Nat, i < (PS k).n → (PS k).o i < x.nser ∧ wOk x.afr x.awd x.awi ((PS k).t i)) (hho : ∀ i : Nat, i < x.hsize → x.hO i < x.nser ∧ wOk x.afr x.awd x.awi (x.hT i)) (hhz : x.hsize ≤ x.hN) (hhN : x.hN ≤ 65536) : Met l ⟨"SeriesVault$Answers", "meetPoints", "(ILSeriesVault$Table;LSeriesVault$Shelf;LSeriesVault$Points;)V"⟩ [Cond.code ⟨"SeriesVault$Answers", "meetPoints", "(ILSeriesVault$Table;LSeriesVault$Shelf;LSeriesVault$Points;)V"⟩ prog_2_method_8_code 8 none] { frames := 5, cells := 0, slots := 0, locals := 329 } (pC D dA [.ref (ad 24), .int fn, .ref (ta 0), .ref (ad 3), .ref (ad 1)] (TbW dA ta t ++ (VW dA h ad x)) sz) (va_Qv (fun (u9 : TB × (Nat → Bool) × (Nat → Int64) × (Nat → Int64) × (Nat → Nat)) => (u9.1, u9.2.1, u9.2.2.1, u9.2.2.2.1, u9.2.2.2.2) = mmA fn x PS t) (fun (u9 : TB × (Nat → Bool) × (Nat → Int64) × (Nat → Int64) × (Nat → Nat)) t9 => bW D (va_A (TbW dA ta t ++ (VW dA h ad x)) sz) (TbW dA ta u9.1 ++ (VW dA h ad (VS.s_bO (VS.s_bT (VS.s_abf (VS.s_ahb x u9.2.1) u9.2.2.1) u9.2.2.2.1) u9.2.2.2.2))) t9) (va_A (TbW dA ta t ++ (VW dA h ad x)) sz)) 0 0 (va_A (TbW dA ta t ++ (VW dA h ad x)) sz) := by
  refine mkC (y := ⟨"SeriesVault$Answers", "meetPoints", "(ILSeriesVault$Table;LSeriesVault$Shelf;LSeriesVault$Points;)V"⟩) (cc := prog_2_method_8_code) (maxL := 8) (av := [.ref (ad 24), .int fn, .ref (ta 0), .ref (ad 3), .ref (ad 1)]) (ws := TbW dA ta t ++ (VW dA h ad x)) (sz := sz) (Qc := fun A => va_Qv (fun (u9 : TB × (Nat → Bool) × (Nat → Int64) × (Nat → Int64) × (Nat → Nat)) => (u9.1, u9.2.1, u9.2.2.1, u9.2.2.2.1, u9.2.2.2.2) = mmA fn x PS t) (fun (u9 : TB × (Nat → Bool) × (Nat → Int64) × (Nat → Int64) × (Nat → Nat)) t9 => bW D A (TbW dA ta u9.1 ++ (VW dA h ad (VS.s_bO (VS.s_bT (VS.s_abf (VS.s_ahb x u9.2.1) u9.2.2.1) u9.2.2.2.1) u9.2.2.2.2))) t9) A) (by decide) (Nat.le_of_ble_eq_true rfl) ?_
  intro A p e s m below meth c ls hsz hB
  obtain ⟨hx, hb, hr, hml, hown, hin, hlk, hE, hK, hP, hD, hS, hA, hN, hl⟩ := hB
  have hown : s.vm.findClass "SeriesVault$Answers" = some m.cls := hown
  have hl : lv_has ls 8 [(0, .ref (ad 24)), (1, .int fn), (2, .ref (ta 0)), (3, .ref (ad 3)), (4, .ref (ad 1))] := hl
  obtain ⟨H, hH⟩ : ∃ z, z = s.heap := ⟨_, rfl⟩
  have hP : va_P D vwCl (TbW dA ta t ++ (VW dA h ad x)) H := by rw [hH]; exact hP
  have hS : va_S A s.heap H [] := by rw [hH]; exact hS
  rw [← hH]
  refine lv_iconst (v := 0) hx hb d_A_meetPoints_0 (by decide) ?_
  refine lv_istore hx hb d_A_meetPoints_1 hl (by decide) rfl (fun ls hl => ?_)
  have hl : lv_has ls 8 [(5, .int 0), (0, .ref (ad 24)), (1, .int fn), (2, .ref (ta 0)), (3, .ref (ad 3)), (4, .ref (ad 1))] := hl
  have L3 : ∀ (k9 : Nat) (k : Nat) (y : TB) (bh : Nat → Bool) (bf : Nat → Int64) (bt : Nat → Int64) (bo : Nat → Nat) (k1 : k ≤ x.npc) (eK : (y, bh, bf, bt, bo) = mmK fn x PS (x.m0 t) k) (ky : y.wi = t.wi ∧ y.rc = t.rc ∧ y.cN = t.cN) (kb : ∀ k : Nat, bo k < 256) (hk9 : x.npc - k = k9), ∀ (H : Heap) (locs : List Loc) (ls : Array Slot) (hP : va_P D vwCl (TbW dA ta y ++ (VW dA h ad (VS.s_bO (VS.s_bT (VS.s_abf (VS.s_ahb x bh) bf) bt) bo))) H) (hD : va_D A (TbW dA ta y ++ (VW dA h ad (VS.s_bO (VS.s_bT (VS.s_abf (VS.s_ahb x bh) bf) bt) bo)))) (hS : va_S A s.heap H locs) (hl : lv_has ls 8 [(5, .int (nI k)), (1, .int fn), (2, .ref (ta 0)), (3, .ref (ad 3)), (4, .ref (ad 1)), (0, .ref (ad 24))]), W p l e ({ frames := 5, cells := 0, slots := 0, locals := 329 } : Room) s m ([.ref (ad 24), .int fn, .ref (ta 0), .ref (ad 3), .ref (ad 1)] : List Value).toArray below meth c H locs 0 0 (MQ below (va_Qv (fun (u9 : TB × (Nat → Bool) × (Nat → Int64) × (Nat → Int64) × (Nat → Nat)) => (u9.1, u9.2.1, u9.2.2.1, u9.2.2.2.1, u9.2.2.2.2) = mmA fn x PS t) (fun (u9 : TB × (Nat → Bool) × (Nat → Int64) × (Nat → Int64) × (Nat → Nat)) t9 => bW D A (TbW dA ta u9.1 ++ (VW dA h ad (VS.s_bO (VS.s_bT (VS.s_abf (VS.s_ahb x u9.2.1) u9.2.2.1) u9.2.2.2.1) u9.2.2.2.2))) t9) A) ([.ref (ad 24), .int fn, .ref (ta 0), .ref (ad 3), .ref (ad 1)] : List Value).toArray s 0 0 A) (F0 m 3 ls []) := by
    intro k9
    induction k9 using Nat.strongRecOn with
    | ind k9 ih3 =>
      intro k y bh bf bt bo k1 eK ky kb hk9 H locs ls hP hD hS hl
      refine lv_iload hx hb d_A_meetPoints_3 (lv_at hl 0 rfl) ?_
      refine lv_aload_n hx hb d_A_meetPoints_5 rfl (lv_at hl 3 rfl) ?_
      refine gFN (v := .int (nI x.npc)) hx hb hown hE hK hP 22 rfl rfl layH 1 (by decide) w1677 rfl d_A_meetPoints_6 ?_
      refine lv_icmp_ge hx hb d_A_meetPoints_9 (tgt := 104) rfl (fun g1 => ?_) (fun g1 => ?_)
      · have g1 := (nI_leI (a := x.npc) (b := k) (by omega) (by omega)).mp g1
        refine lv_iconst (v := 0) hx hb d_A_meetPoints_104 (by decide) ?_
        refine lv_istore hx hb d_A_meetPoints_105 hl (by decide) rfl (fun ls hl => ?_)
        have hl : lv_has ls 8 [(5, .int 0), (1, .int fn), (2, .ref (ta 0)), (3, .ref (ad 3)), (4, .ref (ad 1)), (0, .ref (ad 24))] := hl
        have L107 : ∀ (k9 : Nat) (i : Nat) (y : TB) (bh : Nat → Bool) (bf : Nat → Int64) (bt : Nat → Int64) (bo : Nat → Nat) (j1 : i ≤ x.hsize) (eM : (y, bh, bf, bt, bo) = mmH fn x (mmK fn x PS (x.m0 t) x.npc) i) (ky : y.wi = t.wi ∧ y.rc = t.rc ∧ y.cN = t.cN) (kb : ∀ k : Nat, bo k < 256) (hk9 : x.hsize - i = k9), ∀ (H : Heap) (locs : List Loc) (ls : Array Slot) (hP : va_P D vwCl (TbW dA ta y ++ (VW dA h ad (VS.s_bO (VS.s_bT (VS.s_abf (VS.s_ahb x bh) bf) bt) bo))) H) (hD : va_D A (TbW dA ta y ++ (VW dA h ad (VS.s_bO (VS.s_bT (VS.s_abf (VS.s_ahb x bh) bf) bt) bo)))) (hS : va_S A s.heap H locs) (hl : lv_has ls 8 [(5, .int (nI i)), (1, .int fn), (2, .ref (ta 0)), (3, .ref (ad 3)), (4, .ref (ad 1)), (0, .ref (ad 24))]), W p l e ({ frames := 5, cells := 0, slots := 0, locals := 329 } : Room) s m ([.ref (ad 24), .int fn, .ref (ta 0), .ref (ad 3), .ref (ad 1)] : List Value).toArray below meth c H locs 0 0 (MQ below (va_Qv (fun (u9 : TB × (Nat → Bool) × (Nat → Int64) × (Nat → Int64) × (Nat → Nat)) => (u9.1, u9.2.1, u9.2.2.1, u9.2.2.2.1, u9.2.2.2.2) = mmA fn x PS t) (fun (u9 : TB × (Nat → Bool) × (Nat → Int64) × (Nat → Int64) × (Nat → Nat)) t9 => bW D A (TbW dA ta u9.1 ++ (VW dA h ad (VS.s_bO (VS.s_bT (VS.s_abf (VS.s_ahb x u9.2.1) u9.2.2.1) u9.2.2.2.1) u9.2.2.2.2))) t9) A) ([.ref (ad 24), .int fn, .ref (ta 0), .ref (ad 3), .ref (ad 1)] : List Value).toArray s 0 0 A) (F0 m 107 ls []) := by
          intro k9
          induction k9 using Nat.strongRecOn with
          | ind k9 ih107 =>
            intro i y bh bf bt bo j1 eM ky kb hk9 H locs ls hP hD hS hl
            refine lv_iload hx hb d_A_meetPoints_107 (lv_at hl 0 rfl) ?_
            refine lv_aload hx hb d_A_meetPoints_109 (lv_at hl 4 rfl) ?_
            refine gFN (v := .int (nI x.hsize)) hx hb hown hE hK hP 14 rfl rfl layP 3 (by decide) w1678 rfl d_A_meetPoints_111 ?_
            refine lv_icmp_ge hx hb d_A_meetPoints_114 (tgt := 170) rfl (fun g2 => ?_) (fun g2 => ?_)
            · have g2 := (nI_leI (a := x.hsize) (b := i) (by omega) (by omega)).mp g2
              exact rfV hx hb hr hlk hS (⟨y, bh, bf, bt, bo⟩) (by rw [eM, show i = x.hsize by omega]; rfl) hP hD (Nat.le_of_ble_eq_true rfl) (Nat.le_of_ble_eq_true rfl) d_A_meetPoints_170
            · have g2 := mt (nI_leI (a := x.hsize) (b := i) (by omega) (by omega)).mpr g2
              refine lv_aload_n hx hb d_A_meetPoints_117 rfl (lv_at hl 5 rfl) ?_
              have po9 := hho i (by omega)
              refine gF (v := .ref (ad 26)) hx hb hown hE hK hP 42 rfl rfl layA 2 (by decide) w800 rfl d_A_meetPoints_118 ?_
              refine lv_aload hx hb d_A_meetPoints_121 (lv_at hl 4 rfl) ?_
              refine gFN (v := .ref (x.hA 0)) hx hb hown hE hK hP 14 rfl rfl layP 0 (by decide) w1679 rfl d_A_meetPoints_123 ?_
              refine lv_iload hx hb d_A_meetPoints_126 (lv_at hl 0 rfl) ?_
              refine nild (f := (fun z9 => nI (x.hO z9))) (n := x.hN) hx hb hK hP (15) 1 rfl rfl (i) (by omega) (by omega) d_A_meetPoints_128 ?_
              refine nild (f := x.aro) (n := 256) hx hb hK hP (43) 1 rfl rfl (x.hO i) (by omega) (by decide) d_A_meetPoints_129 ?_
              refine lv_iconst (v := (-1)) hx hb d_A_meetPoints_130 (by decide) ?_
              refine lv_icmp_eq hx hb d_A_meetPoints_131 (tgt := 164) rfl (fun g3 => ?_) (fun g3 => ?_)
              · have g3 := g3
                refine lv_iinc (k := 0) (v := nI (i + 1)) hx hb d_A_meetPoints_164 hl rfl (iincN (i) 1 1 (by decide)) (by decide) rfl (fun ls hl => ?_)
                have hl : lv_has ls 8 [(5, .int (nI (i + 1))), (1, .int fn), (2, .ref (ta 0)), (3, .ref (ad 3)), (4, .ref (ad 1)), (0, .ref (ad 24))] := hl
                refine lv_goto hx hb d_A_meetPoints_167 (tgt := 107) rfl ?_
                exact ih107 _ (by omega) (i + 1) y bh bf bt bo (by omega) (by rw [mmH_f g3]; exact eM) ky kb rfl H _ ls hP hD hS (lv_sub hl [0, 1, 2, 3, 4, 5] rfl)
              · have g3 := g3
                refine lv_aload_n hx hb d_A_meetPoints_134 rfl (lv_at hl 5 rfl) ?_
                refine lv_iload_n hx hb d_A_meetPoints_135 rfl (lv_at hl 1 rfl) ?_
                refine lv_aload_n hx hb d_A_meetPoints_136 rfl (lv_at hl 2 rfl) ?_
                refine lv_aload hx hb d_A_meetPoints_137 (lv_at hl 4 rfl) ?_
                obtain ⟨r9, hr8, hro⟩ := (ha (x.hO i) po9.1).resolve_left g3
                have hr9 : r9 < y.rc := by rw [ky.2.1]; exact hr8
                refine gFN (v := .ref (x.hA 0)) hx hb hown hE hK hP 14 rfl rfl layP 0 (by decide) w1679 rfl d_A_meetPoints_139 ?_
                refine lv_iload hx hb d_A_meetPoints_142 (lv_at hl 0 rfl) ?_
                refine nild (f := (fun z9 => nI (x.hO z9))) (n := x.hN) hx hb hK hP (15) 1 rfl rfl (i) (by omega) (by omega) d_A_meetPoints_144 ?_
                refine lv_aload hx hb d_A_meetPoints_145 (lv_at hl 4 rfl) ?_
                refine gFN (v := .ref (x.hA 1)) hx hb hown hE hK hP 14 rfl rfl layP 1 (by decide) w1680 rfl d_A_meetPoints_147 ?_
                refine lv_iload hx hb d_A_meetPoints_150 (lv_at hl 0 rfl) ?_
                refine nlld (f := x.hT) (n := x.hN) hx hb hK hP (16) 2 rfl rfl (i) (by omega) (by omega) d_A_meetPoints_152 ?_
                refine lv_aload hx hb d_A_meetPoints_153 (lv_at hl 4 rfl) ?_
                refine gFN (v := .ref (x.hA 2)) hx hb hown hE hK hP 14 rfl rfl layP 2 (by decide) w1681 rfl d_A_meetPoints_155 ?_
                refine lv_iload hx hb d_A_meetPoints_158 (lv_at hl 0 rfl) ?_
                refine nlld (f := x.hV) (n := x.hN) hx hb hK hP (17) 2 rfl rfl (i) (by omega) (by omega) d_A_meetPoints_160 ?_
                refine jkV (wr := []) (rnV (As := [.int fn, .ref (ta 0), .int (nI (x.hO i)), .long (x.hT i), .long (x.hV i)]) (rest := []) hx hb hml hown hE hK (hN _ _ hS) hP hD (v_meetQ l D dA H.size h ad ta y (VS.s_bO (VS.s_bT (VS.s_abf (VS.s_ahb x bh) bf) bt) bo) fn (x.hO i) (x.hT i) (x.hV i) r9 hwi po9.2 hro hr9 (by rw [ky.2.1]; exact hrc) (by rw [ky.2.2]; exact hcN) (by rw [ky.1]; exact hwt) (by rw [ky.2.1, ky.1, ky.2.2]; exact h1) (Nat.lt_of_lt_of_le po9.1 hns) (by rw [ky.2.1]; exact h4) h5 kb hfn) (q0 := 42) rfl rfl w1683 w1682 w1684 w1685 w846 rfl rfl ⟨⟨by decide, by decide⟩, rfl⟩ ⟨(Nat.le_of_ble_eq_true rfl), (Nat.le_of_ble_eq_true rfl)⟩ rfl hl.1 rfl (Nat.le_of_ble_eq_true rfl) d_A_meetPoints_161 ⟨(Nat.le_of_ble_eq_true rfl), (Nat.le_of_ble_eq_true rfl)⟩) hP hD hS hA (fun u5 H locs hp9 hP hD hS => ?_)
                obtain ⟨y1, h9u⟩ : ∃ z9, z9 = u5 := ⟨_, rfl⟩
                subst h9u
                have hP : va_P D vwCl (TbW dA ta y1 ++ (VW dA h ad (VS.s_bO (VS.s_bT (VS.s_abf (VS.s_ahb x (va_up bh (x.hO i) true)) (va_up bf (x.hO i) (x.hV i))) (mqT fn y (VS.s_bO (VS.s_bT (VS.s_abf (VS.s_ahb x bh) bf) bt) bo) (x.hO i) (x.hT i))) (mqO fn y (VS.s_bO (VS.s_bT (VS.s_abf (VS.s_ahb x bh) bf) bt) bo) (x.hO i) (x.hT i))))) H := hP
                have hD : va_D A (TbW dA ta y1 ++ (VW dA h ad (VS.s_bO (VS.s_bT (VS.s_abf (VS.s_ahb x (va_up bh (x.hO i) true)) (va_up bf (x.hO i) (x.hV i))) (mqT fn y (VS.s_bO (VS.s_bT (VS.s_abf (VS.s_ahb x bh) bf) bt) bo) (x.hO i) (x.hT i))) (mqO fn y (VS.s_bO (VS.s_bT (VS.s_abf (VS.s_ahb x bh) bf) bt) bo) (x.hO i) (x.hT i))))) := hD
                have f_e_6 := hp9
                have ky2 : y1.wi = t.wi ∧ y1.rc = t.rc ∧ y1.cN = t.cN := by rw [f_e_6]; exact ⟨mqY_k.1.trans ky.1, mqY_k.2.1.trans ky.2.1, mqY_k.2.2.trans ky.2.2⟩
                refine lv_iinc (k := 0) (v := nI (i + 1)) hx hb d_A_meetPoints_164 hl rfl (iincN (i) 1 1 (by decide)) (by decide) rfl (fun ls hl => ?_)
                have hl : lv_has ls 8 [(5, .int (nI (i + 1))), (1, .int fn), (2, .ref (ta 0)), (3, .ref (ad 3)), (4, .ref (ad 1)), (0, .ref (ad 24))] := hl
                refine lv_goto hx hb d_A_meetPoints_167 (tgt := 107) rfl ?_
                exact ih107 _ (by omega) (i + 1) y1 (va_up bh (x.hO i) true) (va_up bf (x.hO i) (x.hV i)) (mqT fn y (VS.s_bO (VS.s_bT (VS.s_abf (VS.s_ahb x bh) bf) bt) bo) (x.hO i) (x.hT i)) (mqO fn y (VS.s_bO (VS.s_bT (VS.s_abf (VS.s_ahb x bh) bf) bt) bo) (x.hO i) (x.hT i)) (by omega) (by rw [mmH_t g3, ← eM, f_e_6]; rfl) ky2 (mqO_l kb (Nat.lt_of_lt_of_le po9.1 hns)) rfl H _ ls hP hD hS (lv_sub hl [0, 1, 2, 3, 4, 5] rfl)
        exact L107 _ 0 y bh bf bt bo (Nat.zero_le _) (by rw [eK, show k = x.npc by omega]; rfl) ky kb rfl H _ ls hP hD hS (lv_sub hl [0, 1, 2, 3, 4, 5] rfl)
      · have g1 := mt (nI_leI (a := x.npc) (b := k) (by omega) (by omega)).mpr g1
        refine lv_aload_n hx hb d_A_meetPoints_12 rfl (lv_at hl 3 rfl) ?_
        obtain ⟨pp, ke, hpp, hpk⟩ := hps k (by omega)
        have hpp0 := hpp
        obtain ⟨po, pt, pv, m1, m2, m3, m4⟩ := hpp
        have pk1 := hpk.1
        refine gFN (v := .ref (ad 4)) hx hb hown hE hK hP 22 rfl rfl layH 0 (by decide) w1686 rfl d_A_meetPoints_13 ?_
        refine lv_iload hx hb d_A_meetPoints_16 (lv_at hl 0 rfl) ?_
        refine nqld (f := x.nP) (n := 32) hx hb hK hP (23) 4 rfl rfl (k) (by omega) (by decide) ke d_A_meetPoints_18 ?_
        refine lv_astore hx hb d_A_meetPoints_19 hl (by decide) rfl (fun ls hl => ?_)
        have hl : lv_has ls 8 [(6, .ref pp), (5, .int (nI k)), (1, .int fn), (2, .ref (ta 0)), (3, .ref (ad 3)), (4, .ref (ad 1)), (0, .ref (ad 24))] := hl
        refine lv_iconst (v := 0) hx hb d_A_meetPoints_21 (by decide) ?_
        refine lv_istore hx hb d_A_meetPoints_22 hl (by decide) rfl (fun ls hl => ?_)
        have hl : lv_has ls 8 [(7, .int 0), (6, .ref pp), (5, .int (nI k)), (1, .int fn), (2, .ref (ta 0)), (3, .ref (ad 3)), (4, .ref (ad 1)), (0, .ref (ad 24))] := hl
        have L24 : ∀ (k9 : Nat) (i : Nat) (y : TB) (bh : Nat → Bool) (bf : Nat → Int64) (bt : Nat → Int64) (bo : Nat → Nat) (j1 : i ≤ (PS k).n) (eM : (y, bh, bf, bt, bo) = mmP fn x (PS k) (mmK fn x PS (x.m0 t) k) i) (ky : y.wi = t.wi ∧ y.rc = t.rc ∧ y.cN = t.cN) (kb : ∀ k : Nat, bo k < 256) (hk9 : (PS k).n - i = k9), ∀ (H : Heap) (locs : List Loc) (ls : Array Slot) (hP : va_P D vwCl (TbW dA ta y ++ (VW dA h ad (VS.s_bO (VS.s_bT (VS.s_abf (VS.s_ahb x bh) bf) bt) bo))) H) (hD : va_D A (TbW dA ta y ++ (VW dA h ad (VS.s_bO (VS.s_bT (VS.s_abf (VS.s_ahb x bh) bf) bt) bo)))) (hS : va_S A s.heap H locs) (hl : lv_has ls 8 [(7, .int (nI i)), (6, .ref pp), (5, .int (nI k)), (1, .int fn), (2, .ref (ta 0)), (3, .ref (ad 3)), (4, .ref (ad 1)), (0, .ref (ad 24))]), W p l e ({ frames := 5, cells := 0, slots := 0, locals := 329 } : Room) s m ([.ref (ad 24), .int fn, .ref (ta 0), .ref (ad 3), .ref (ad 1)] : List Value).toArray below meth c H locs 0 0 (MQ below (va_Qv (fun (u9 : TB × (Nat → Bool) × (Nat → Int64) × (Nat → Int64) × (Nat → Nat)) => (u9.1, u9.2.1, u9.2.2.1, u9.2.2.2.1, u9.2.2.2.2) = mmA fn x PS t) (fun (u9 : TB × (Nat → Bool) × (Nat → Int64) × (Nat → Int64) × (Nat → Nat)) t9 => bW D A (TbW dA ta u9.1 ++ (VW dA h ad (VS.s_bO (VS.s_bT (VS.s_abf (VS.s_ahb x u9.2.1) u9.2.2.1) u9.2.2.2.1) u9.2.2.2.2))) t9) A) ([.ref (ad 24), .int fn, .ref (ta 0), .ref (ad 3), .ref (ad 1)] : List Value).toArray s 0 0 A) (F0 m 24 ls []) := by
          intro k9
          induction k9 using Nat.strongRecOn with
          | ind k9 ih24 =>
            intro i y bh bf bt bo j1 eM ky kb hk9 H locs ls hP hD hS hl
            refine lv_iload hx hb d_A_meetPoints_24 (lv_at hl 0 rfl) ?_
            refine lv_aload hx hb d_A_meetPoints_26 (lv_at hl 1 rfl) ?_
            obtain ⟨qp7, ep8⟩ := List.getElem?_of_mem (show ((pp, .inr (12, [.ref po, .ref pt, .ref pv, .int (nI (PS k).n), .int (nI (PS k).ch), .int (nI (PS k).bi), .int (nI (PS k).bl), .long ((PS k).nw)])) : Nat × va_E) ∈ TbW dA ta y ++ (VW dA h ad (VS.s_bO (VS.s_bT (VS.s_abf (VS.s_ahb x bh) bf) bt) bo)) from (List.mem_append_right _ (plm m1)))
            refine gFN (v := .int (nI (PS k).n)) hx hb hown hE hK hP qp7 ep8 rfl layC 3 (by decide) w1687 rfl d_A_meetPoints_28 ?_
            refine lv_icmp_ge hx hb d_A_meetPoints_31 (tgt := 98) rfl (fun g9 => ?_) (fun g9 => ?_)
            · have g9 := (nI_leI (a := (PS k).n) (b := i) (by omega) (by omega)).mp g9
              refine lv_iinc (k := 2) (v := nI (k + 1)) hx hb d_A_meetPoints_98 hl rfl (iincN (k) 1 1 (by decide)) (by decide) rfl (fun ls hl => ?_)
              have hl : lv_has ls 8 [(5, .int (nI (k + 1))), (7, .int (nI i)), (6, .ref pp), (1, .int fn), (2, .ref (ta 0)), (3, .ref (ad 3)), (4, .ref (ad 1)), (0, .ref (ad 24))] := hl
              refine lv_goto hx hb d_A_meetPoints_101 (tgt := 3) rfl ?_
              exact ih3 _ (by omega) (k + 1) y bh bf bt bo (by omega) (by rw [eM, show i = (PS k).n by omega]; rfl) ky kb rfl H _ ls hP hD hS (lv_sub hl [0, 3, 4, 5, 6, 7] rfl)
            · have g9 := mt (nI_leI (a := (PS k).n) (b := i) (by omega) (by omega)).mpr g9
              refine lv_aload_n hx hb d_A_meetPoints_34 rfl (lv_at hl 7 rfl) ?_
              refine gF (v := .ref (ad 26)) hx hb hown hE hK hP 42 rfl rfl layA 2 (by decide) w800 rfl d_A_meetPoints_35 ?_
              have po9 := hpo k (by omega) i (by omega)
              refine lv_aload hx hb d_A_meetPoints_38 (lv_at hl 1 rfl) ?_
              obtain ⟨qp10, ep11⟩ := List.getElem?_of_mem (show ((pp, .inr (12, [.ref po, .ref pt, .ref pv, .int (nI (PS k).n), .int (nI (PS k).ch), .int (nI (PS k).bi), .int (nI (PS k).bl), .long ((PS k).nw)])) : Nat × va_E) ∈ TbW dA ta y ++ (VW dA h ad (VS.s_bO (VS.s_bT (VS.s_abf (VS.s_ahb x bh) bf) bt) bo)) from (List.mem_append_right _ (plm m1)))
              refine gFN (v := .ref po) hx hb hown hE hK hP qp10 ep11 rfl layC 0 (by decide) w1688 rfl d_A_meetPoints_40 ?_
              refine lv_iload hx hb d_A_meetPoints_43 (lv_at hl 0 rfl) ?_
              obtain ⟨qp12, ep13⟩ := List.getElem?_of_mem (show ((po, .inl (dA 1, (PS k).n, .inl (fun z9 => nI (((PS k).o) z9)))) : Nat × va_E) ∈ TbW dA ta y ++ (VW dA h ad (VS.s_bO (VS.s_bT (VS.s_abf (VS.s_ahb x bh) bf) bt) bo)) from (List.mem_append_right _ (plm m2)))
              refine nild (f := (fun z9 => nI (((PS k).o) z9))) (n := (PS k).n) hx hb hK hP (qp12) 1 ep13 rfl (i) (by omega) (by omega) d_A_meetPoints_45 ?_
              refine nild (f := x.aro) (n := 256) hx hb hK hP (43) 1 rfl rfl (((PS k).o) i) (by omega) (by decide) d_A_meetPoints_46 ?_
              refine lv_iconst (v := (-1)) hx hb d_A_meetPoints_47 (by decide) ?_
              refine lv_icmp_eq hx hb d_A_meetPoints_48 (tgt := 92) rfl (fun g14 => ?_) (fun g14 => ?_)
              · have g14 := g14
                refine lv_iinc (k := 0) (v := nI (i + 1)) hx hb d_A_meetPoints_92 hl rfl (iincN (i) 1 1 (by decide)) (by decide) rfl (fun ls hl => ?_)
                have hl : lv_has ls 8 [(7, .int (nI (i + 1))), (6, .ref pp), (5, .int (nI k)), (1, .int fn), (2, .ref (ta 0)), (3, .ref (ad 3)), (4, .ref (ad 1)), (0, .ref (ad 24))] := hl
                refine lv_goto hx hb d_A_meetPoints_95 (tgt := 24) rfl ?_
                exact ih24 _ (by omega) (i + 1) y bh bf bt bo (by omega) (by rw [mmP_f (Or.inl g14)]; exact eM) ky kb rfl H _ ls hP hD hS (lv_sub hl [0, 1, 2, 3, 4, 5, 6, 7] rfl)
              · have g14 := g14
                refine lv_aload_n hx hb d_A_meetPoints_51 rfl (lv_at hl 5 rfl) ?_
                refine lv_aload hx hb d_A_meetPoints_52 (lv_at hl 1 rfl) ?_
                refine lv_iload hx hb d_A_meetPoints_54 (lv_at hl 0 rfl) ?_
                have hPc : va_P D vwCl (VW dA h ad (VS.s_bO (VS.s_bT (VS.s_abf (VS.s_ahb x bh) bf) bt) bo)) H := spP (wr := TbW dA ta y) hP
                have hDc : va_D A (VW dA h ad (VS.s_bO (VS.s_bT (VS.s_abf (VS.s_ahb x bh) bf) bt) bo)) := spD (wr := TbW dA ta y) hD
                refine jkI (wr := TbW dA ta y) (rnV (As := [.ref pp, .int (nI i)]) (rest := []) hx hb hml hown hE hK (hN _ _ hS) hPc hDc (v_sees l D dA H.size h ad (VS.s_bO (VS.s_bT (VS.s_abf (VS.s_ahb x bh) bf) bt) bo) pp (PS k) i hpp0 hpk hs1 hs7 (show i < (PS k).n from by omega)) (q0 := 17) rfl rfl w1178 w1689 w1179 w1180 w583 rfl rfl ⟨⟨by decide, by decide⟩, rfl⟩ ⟨(Nat.le_of_ble_eq_true rfl), (Nat.le_of_ble_eq_true rfl)⟩ rfl hl.1 rfl (Nat.le_of_ble_eq_true rfl) d_A_meetPoints_56 ⟨(Nat.le_of_ble_eq_true rfl), (Nat.le_of_ble_eq_true rfl)⟩) hP hD hS hA (fun r15 u16 H locs hp9 hP hD hS => ?_)
                have hP : va_P D vwCl (TbW dA ta y ++ (VW dA h ad (VS.s_bO (VS.s_bT (VS.s_abf (VS.s_ahb x bh) bf) bt) bo))) H := hP
                have hD : va_D A (TbW dA ta y ++ (VW dA h ad (VS.s_bO (VS.s_bT (VS.s_abf (VS.s_ahb x bh) bf) bt) bo))) := hD
                replace hp9 : bI (x.sePc (PS k) i) = r15 := Eq.symm hp9
                subst hp9
                refine lv_if_eq hx hb d_A_meetPoints_59 (tgt := 92) rfl (fun g17 => ?_) (fun g17 => ?_)
                · have g17 := bI_0 g17
                  refine lv_iinc (k := 0) (v := nI (i + 1)) hx hb d_A_meetPoints_92 hl rfl (iincN (i) 1 1 (by decide)) (by decide) rfl (fun ls hl => ?_)
                  have hl : lv_has ls 8 [(7, .int (nI (i + 1))), (6, .ref pp), (5, .int (nI k)), (1, .int fn), (2, .ref (ta 0)), (3, .ref (ad 3)), (4, .ref (ad 1)), (0, .ref (ad 24))] := hl
                  refine lv_goto hx hb d_A_meetPoints_95 (tgt := 24) rfl ?_
                  exact ih24 _ (by omega) (i + 1) y bh bf bt bo (by omega) (by rw [mmP_f (Or.inr g17)]; exact eM) ky kb rfl H _ ls hP hD hS (lv_sub hl [0, 1, 2, 3, 4, 5, 6, 7] rfl)
                · have g17 := bI_n0 g17
                  refine lv_aload_n hx hb d_A_meetPoints_62 rfl (lv_at hl 7 rfl) ?_
                  refine lv_iload_n hx hb d_A_meetPoints_63 rfl (lv_at hl 3 rfl) ?_
                  refine lv_aload_n hx hb d_A_meetPoints_64 rfl (lv_at hl 4 rfl) ?_
                  refine lv_aload hx hb d_A_meetPoints_65 (lv_at hl 1 rfl) ?_
                  obtain ⟨r9, hr8, hro⟩ := (ha ((PS k).o i) po9.1).resolve_left g14
                  have hr9 : r9 < y.rc := by rw [ky.2.1]; exact hr8
                  obtain ⟨qp18, ep19⟩ := List.getElem?_of_mem (show ((pp, .inr (12, [.ref po, .ref pt, .ref pv, .int (nI (PS k).n), .int (nI (PS k).ch), .int (nI (PS k).bi), .int (nI (PS k).bl), .long ((PS k).nw)])) : Nat × va_E) ∈ TbW dA ta y ++ (VW dA h ad (VS.s_bO (VS.s_bT (VS.s_abf (VS.s_ahb x bh) bf) bt) bo)) from (List.mem_append_right _ (plm m1)))
                  refine gFN (v := .ref po) hx hb hown hE hK hP qp18 ep19 rfl layC 0 (by decide) w1688 rfl d_A_meetPoints_67 ?_
                  refine lv_iload hx hb d_A_meetPoints_70 (lv_at hl 0 rfl) ?_
                  obtain ⟨qp20, ep21⟩ := List.getElem?_of_mem (show ((po, .inl (dA 1, (PS k).n, .inl (fun z9 => nI (((PS k).o) z9)))) : Nat × va_E) ∈ TbW dA ta y ++ (VW dA h ad (VS.s_bO (VS.s_bT (VS.s_abf (VS.s_ahb x bh) bf) bt) bo)) from (List.mem_append_right _ (plm m2)))
                  refine nild (f := (fun z9 => nI (((PS k).o) z9))) (n := (PS k).n) hx hb hK hP (qp20) 1 ep21 rfl (i) (by omega) (by omega) d_A_meetPoints_72 ?_
                  refine lv_aload hx hb d_A_meetPoints_73 (lv_at hl 1 rfl) ?_
                  obtain ⟨qp22, ep23⟩ := List.getElem?_of_mem (show ((pp, .inr (12, [.ref po, .ref pt, .ref pv, .int (nI (PS k).n), .int (nI (PS k).ch), .int (nI (PS k).bi), .int (nI (PS k).bl), .long ((PS k).nw)])) : Nat × va_E) ∈ TbW dA ta y ++ (VW dA h ad (VS.s_bO (VS.s_bT (VS.s_abf (VS.s_ahb x bh) bf) bt) bo)) from (List.mem_append_right _ (plm m1)))
                  refine gFN (v := .ref pt) hx hb hown hE hK hP qp22 ep23 rfl layC 1 (by decide) w1690 rfl d_A_meetPoints_75 ?_
                  refine lv_iload hx hb d_A_meetPoints_78 (lv_at hl 0 rfl) ?_
                  obtain ⟨qp24, ep25⟩ := List.getElem?_of_mem (show ((pt, .inl (dA 2, (PS k).n, .inr (.inl ((PS k).t)))) : Nat × va_E) ∈ TbW dA ta y ++ (VW dA h ad (VS.s_bO (VS.s_bT (VS.s_abf (VS.s_ahb x bh) bf) bt) bo)) from (List.mem_append_right _ (plm m3)))
                  refine nlld (f := ((PS k).t)) (n := (PS k).n) hx hb hK hP (qp24) 2 ep25 rfl (i) (by omega) (by omega) d_A_meetPoints_80 ?_
                  refine lv_aload hx hb d_A_meetPoints_81 (lv_at hl 1 rfl) ?_
                  obtain ⟨qp26, ep27⟩ := List.getElem?_of_mem (show ((pp, .inr (12, [.ref po, .ref pt, .ref pv, .int (nI (PS k).n), .int (nI (PS k).ch), .int (nI (PS k).bi), .int (nI (PS k).bl), .long ((PS k).nw)])) : Nat × va_E) ∈ TbW dA ta y ++ (VW dA h ad (VS.s_bO (VS.s_bT (VS.s_abf (VS.s_ahb x bh) bf) bt) bo)) from (List.mem_append_right _ (plm m1)))
                  refine gFN (v := .ref pv) hx hb hown hE hK hP qp26 ep27 rfl layC 2 (by decide) w1691 rfl d_A_meetPoints_83 ?_
                  refine lv_iload hx hb d_A_meetPoints_86 (lv_at hl 0 rfl) ?_
                  obtain ⟨qp28, ep29⟩ := List.getElem?_of_mem (show ((pv, .inl (dA 2, (PS k).n, .inr (.inl ((PS k).v)))) : Nat × va_E) ∈ TbW dA ta y ++ (VW dA h ad (VS.s_bO (VS.s_bT (VS.s_abf (VS.s_ahb x bh) bf) bt) bo)) from (List.mem_append_right _ (plm m4)))
                  refine nlld (f := ((PS k).v)) (n := (PS k).n) hx hb hK hP (qp28) 2 ep29 rfl (i) (by omega) (by omega) d_A_meetPoints_88 ?_
                  refine jkV (wr := []) (rnV (As := [.int fn, .ref (ta 0), .int (nI (((PS k).o) i)), .long (((PS k).t) i), .long (((PS k).v) i)]) (rest := []) hx hb hml hown hE hK (hN _ _ hS) hP hD (v_meetQ l D dA H.size h ad ta y (VS.s_bO (VS.s_bT (VS.s_abf (VS.s_ahb x bh) bf) bt) bo) fn (((PS k).o) i) (((PS k).t) i) (((PS k).v) i) r9 hwi po9.2 hro hr9 (by rw [ky.2.1]; exact hrc) (by rw [ky.2.2]; exact hcN) (by rw [ky.1]; exact hwt) (by rw [ky.2.1, ky.1, ky.2.2]; exact h1) (Nat.lt_of_lt_of_le po9.1 hns) (by rw [ky.2.1]; exact h4) h5 kb hfn) (q0 := 42) rfl rfl w1683 w1682 w1684 w1685 w846 rfl rfl ⟨⟨by decide, by decide⟩, rfl⟩ ⟨(Nat.le_of_ble_eq_true rfl), (Nat.le_of_ble_eq_true rfl)⟩ rfl hl.1 rfl (Nat.le_of_ble_eq_true rfl) d_A_meetPoints_89 ⟨(Nat.le_of_ble_eq_true rfl), (Nat.le_of_ble_eq_true rfl)⟩) hP hD hS hA (fun u31 H locs hp9 hP hD hS => ?_)
                  obtain ⟨y1, h9u⟩ : ∃ z9, z9 = u31 := ⟨_, rfl⟩
                  subst h9u
                  have hP : va_P D vwCl (TbW dA ta y1 ++ (VW dA h ad (VS.s_bO (VS.s_bT (VS.s_abf (VS.s_ahb x (va_up bh (((PS k).o) i) true)) (va_up bf (((PS k).o) i) (((PS k).v) i))) (mqT fn y (VS.s_bO (VS.s_bT (VS.s_abf (VS.s_ahb x bh) bf) bt) bo) (((PS k).o) i) (((PS k).t) i))) (mqO fn y (VS.s_bO (VS.s_bT (VS.s_abf (VS.s_ahb x bh) bf) bt) bo) (((PS k).o) i) (((PS k).t) i))))) H := hP
                  have hD : va_D A (TbW dA ta y1 ++ (VW dA h ad (VS.s_bO (VS.s_bT (VS.s_abf (VS.s_ahb x (va_up bh (((PS k).o) i) true)) (va_up bf (((PS k).o) i) (((PS k).v) i))) (mqT fn y (VS.s_bO (VS.s_bT (VS.s_abf (VS.s_ahb x bh) bf) bt) bo) (((PS k).o) i) (((PS k).t) i))) (mqO fn y (VS.s_bO (VS.s_bT (VS.s_abf (VS.s_ahb x bh) bf) bt) bo) (((PS k).o) i) (((PS k).t) i))))) := hD
                  have f_e_32 := hp9
                  have ky2 : y1.wi = t.wi ∧ y1.rc = t.rc ∧ y1.cN = t.cN := by rw [f_e_32]; exact ⟨mqY_k.1.trans ky.1, mqY_k.2.1.trans ky.2.1, mqY_k.2.2.trans ky.2.2⟩
                  refine lv_iinc (k := 0) (v := nI (i + 1)) hx hb d_A_meetPoints_92 hl rfl (iincN (i) 1 1 (by decide)) (by decide) rfl (fun ls hl => ?_)
                  have hl : lv_has ls 8 [(7, .int (nI (i + 1))), (6, .ref pp), (5, .int (nI k)), (1, .int fn), (2, .ref (ta 0)), (3, .ref (ad 3)), (4, .ref (ad 1)), (0, .ref (ad 24))] := hl
                  refine lv_goto hx hb d_A_meetPoints_95 (tgt := 24) rfl ?_
                  exact ih24 _ (by omega) (i + 1) y1 (va_up bh (((PS k).o) i) true) (va_up bf (((PS k).o) i) (((PS k).v) i)) (mqT fn y (VS.s_bO (VS.s_bT (VS.s_abf (VS.s_ahb x bh) bf) bt) bo) (((PS k).o) i) (((PS k).t) i)) (mqO fn y (VS.s_bO (VS.s_bT (VS.s_abf (VS.s_ahb x bh) bf) bt) bo) (((PS k).o) i) (((PS k).t) i)) (by omega) (by rw [mmP_t g14 g17, ← eM, f_e_32]; rfl) ky2 (mqO_l kb (Nat.lt_of_lt_of_le po9.1 hns)) rfl H _ ls hP hD hS (lv_sub hl [0, 1, 2, 3, 4, 5, 6, 7] rfl)
        exact L24 _ 0 y bh bf bt bo (Nat.zero_le _) eK ky kb rfl H _ ls hP hD hS (lv_sub hl [0, 1, 2, 3, 4, 5, 6, 7] rfl)
  exact L3 _ 0 t x.ahb x.abf x.bT x.bO (Nat.zero_le _) rfl ⟨rfl, rfl, rfl⟩ h6 rfl H _ ls hP hD hS (lv_sub hl [0, 2, 3, 4, 5, 1] rfl)
end
section
/-! Room for cells and for the best points, whether it is there or not. -/
def clS (t : TB) : Nat := if t.rc * t.wi ≤ t.cN then 0 else max (t.rc * t.wi) (2 * t.cN)
def clT (t : TB) (q : Nat) : TB := if t.rc * t.wi ≤ t.cN then TB.s_ce (TB.s_th t (filG t.th 0 0 t.rc)) (filG t.ce 0 0 (t.rc * t.wi)) else TB.s_ce (TB.s_cN (TB.s_cA (TB.s_th t (filG t.th 0 0 t.rc)) q) (max (t.rc * t.wi) (2 * t.cN))) (filG (fun _ => 0) 0 0 (t.rc * t.wi))
def beS (x : VS) (n : Nat) : Nat := if n ≤ x.bN then 0 else 2 * max n (2 * x.bN)
/-- the rows of best points behind it -/
def beR (x : VS) (n : Nat) (q : (Nat → Nat) × Nat × (Nat → Int64) × (Nat → Nat)) : Prop := (n ≤ x.bN ∧ q = (x.bA, x.bN, x.bT, x.bO)) ∨ (x.bN < n ∧ q.2.1 = max n (2 * x.bN) ∧ q.2.2.1 = (fun _ => 0) ∧ q.2.2.2 = (fun _ => 0))
def beX (x : VS) (q : (Nat → Nat) × Nat × (Nat → Int64) × (Nat → Nat)) : VS := VS.s_bO (VS.s_bT (VS.s_bN (VS.s_bA x q.1) q.2.1) q.2.2.1) q.2.2.2
theorem clT_k (t : TB) (q : Nat) : (clT t q).wi = t.wi ∧ (clT t q).rc = t.rc ∧ (clT t q).rs = t.rs ∧ (clT t q).nm = t.nm ∧ (clT t q).nc = t.nc ∧ t.rc * t.wi ≤ (clT t q).cN := by
  unfold clT
  split
  · exact ⟨rfl, rfl, rfl, rfl, rfl, by assumption⟩
  · exact ⟨rfl, rfl, rfl, rfl, rfl, Nat.le_max_left _ _⟩
theorem v_TclearQ (l : Launch) (D : va_G) (dA : Nat → ClassId) (sz : Nat) (ws : va_W) (ta : Nat → Nat) (t : TB) (hN : t.cN ≤ 65536) (h2 : t.rc ≤ 256) (h3 : t.rc * t.wi ≤ 16384) : Met l ⟨"SeriesVault$Table", "clearCells", "()V"⟩ [Cond.code ⟨"SeriesVault$Table", "clearCells", "()V"⟩ prog_11_method_8_code 2 none] { frames := 3, cells := 1, slots := clS t, locals := 47 } (pC D dA [.ref (ta 0)] (TbW dA ta t ++ (ws)) sz) (va_Qv (fun (u9 : TB) => ∃ q, u9 = clT t q) (fun (u9 : TB) t9 => bW D (va_A (TbW dA ta t ++ (ws)) sz) (TbW dA ta u9 ++ (ws)) t9) (va_A (TbW dA ta t ++ (ws)) sz)) 1 (clS t) (va_A (TbW dA ta t ++ (ws)) sz) := by
  by_cases h : t.rc * t.wi ≤ t.cN
  · rw [show clS t = 0 from if_pos h]
    refine Met_mono (v_TclearCells_0 l D dA sz ws ta t hN h h2) (Nat.le_of_ble_eq_true rfl) (Nat.le_of_ble_eq_true rfl) (Nat.le_refl _) (Nat.le_of_ble_eq_true rfl) (Nat.le_of_ble_eq_true rfl) (Nat.le_refl _) (fun _ _ q => q) ?_ (fun _ q => q)
    rintro b9 st oc tt ⟨⟨u, c1, -, c3⟩, c4⟩
    exact ⟨⟨_, c1, ⟨0, (if_pos h).symm⟩, c3⟩, c4⟩
  · rw [show clS t = max (t.rc * t.wi) (2 * t.cN) from if_neg h]
    refine Met_mono (v_TclearCells_1 l D dA sz ws ta t hN (by omega) h2 h3) (Nat.le_of_ble_eq_true rfl) (Nat.le_refl _) (Nat.le_refl _) (Nat.le_of_ble_eq_true rfl) (Nat.le_refl _) (Nat.le_refl _) (fun _ _ q => q) ?_ (fun _ q => q)
    rintro b9 st oc tt ⟨⟨u, c1, -, c3⟩, c4⟩
    exact ⟨⟨_, c1, ⟨u, (if_neg h).symm⟩, c3⟩, c4⟩
theorem v_bestQ (l : Launch) (D : va_G) (dA : Nat → ClassId) (sz : Nat) (h : Nat) (ad : Nat → Nat) (x : VS) (n : Nat) (h1 : x.bN ≤ 65536) (h2 : n ≤ 16384) : Met l ⟨"SeriesVault$Answers", "makeBestRoom", "(I)V"⟩ [Cond.code ⟨"SeriesVault$Answers", "makeBestRoom", "(I)V"⟩ prog_2_method_7_code 3 none] { frames := 1, cells := 2, slots := beS x n, locals := 13 } (pC D dA [.ref (ad 24), .int (nI n)] (VW dA h ad x) sz) (va_Qv (fun (u9 : (Nat → Nat) × Nat × (Nat → Int64) × (Nat → Nat)) => beR x n (u9.1, u9.2.1, u9.2.2.1, u9.2.2.2)) (fun (u9 : (Nat → Nat) × Nat × (Nat → Int64) × (Nat → Nat)) t9 => bW D (va_A (VW dA h ad x) sz) (VW dA h ad (VS.s_bO (VS.s_bT (VS.s_bN (VS.s_bA x u9.1) u9.2.1) u9.2.2.1) u9.2.2.2)) t9) (va_A (VW dA h ad x) sz)) 2 (beS x n) (va_A (VW dA h ad x) sz) := by
  by_cases hb : n ≤ x.bN
  · rw [show beS x n = 0 from if_pos hb]
    refine Met_mono (v_makeBestRoom_0 l D dA sz h ad x n hb h1) (Nat.le_of_ble_eq_true rfl) (Nat.le_of_ble_eq_true rfl) (Nat.le_refl _) (Nat.le_of_ble_eq_true rfl) (Nat.le_of_ble_eq_true rfl) (Nat.le_refl _) (fun _ _ q => q) ?_ (fun _ q => q)
    rintro b9 st oc tt ⟨⟨u, c1, -, c3⟩, c4⟩
    exact ⟨⟨(x.bA, x.bN, x.bT, x.bO), c1, Or.inl ⟨hb, rfl⟩, c3⟩, c4⟩
  · rw [show beS x n = 2 * max n (2 * x.bN) from if_neg hb]
    refine Met_mono (v_makeBestRoom_1 l D dA sz h ad x n (by omega) h2) (Nat.le_of_ble_eq_true rfl) (Nat.le_refl _) (Nat.le_refl _) (Nat.le_of_ble_eq_true rfl) (Nat.le_refl _) (Nat.le_refl _) (fun _ _ q => q) ?_ (fun _ q => q)
    rintro b9 st oc tt ⟨⟨u, c1, -, c3⟩, c4⟩
    exact ⟨⟨(va_up (va_up x.bA 0 u.1) 1 u.2, max n (2 * x.bN), fun _ => 0, fun _ => 0), c1, Or.inr ⟨by omega, rfl, rfl, rfl⟩, c3⟩, c4⟩
end
section
/-! A function's rows picked. -/
theorem bsG_le {lt : Nat → Bool} {rc : Nat} : ∀ (f st b : Nat), b ≤ rc → bsG lt rc f st b ≤ rc
  | 0, _, _, h => h
  | f + 1, st, b, h => by
    show bsG lt rc f (st / 2) (if b + st ≤ rc ∧ lt (b + st - 1) = true then b + st else b) ≤ rc
    refine bsG_le f (st / 2) _ ?_
    split
    · rename_i g; exact g.1
    · exact h
theorem plT_le (NL : Nat → List Int32) (n rc : Nat) (RS : Nat → List LB) (S : List LB) : plT NL n rc RS S ≤ rc := bsG_le 9 256 0 (Nat.zero_le _)
def adRS (NL : Nat → List Int32) (t : TB) (RS : Nat → List LB) (S : List LB) : Nat → List LB := if t.rc = 256 ∨ (plT NL t.nc t.rc RS S < t.rc ∧ cmT NL t.nc (RS (plT NL t.nc t.rc RS S)) S = 0) then RS else fun q => if q < plT NL t.nc t.rc RS S then RS q else if q = plT NL t.nc t.rc RS S then S else RS (q - 1)
theorem rsOk_ad {dA : Nat → ClassId} {ws : va_W} {NL : Nat → List Int32} {t : TB} {RS : Nat → List LB} {S : List LB} {a : Nat} (h : rsOk dA ws t.rs t.rc RS) (ha : isSer dA ws a S) (ho : serOk S) (hr : t.rc ≤ 256) : rsOk dA ws (adT NL t RS S a).rs (adT NL t RS S a).rc (adRS NL t RS S) ∧ (adT NL t RS S a).rc ≤ 256 ∧ (adT NL t RS S a).nc = t.nc ∧ (adT NL t RS S a).nm = t.nm ∧ (adT NL t RS S a).wi = t.wi ∧ (adT NL t RS S a).cN = t.cN ∧ (adT NL t RS S a).rc ≤ t.rc + 1 := by
  unfold adT adRS
  by_cases c : t.rc = 256 ∨ (plT NL t.nc t.rc RS S < t.rc ∧ cmT NL t.nc (RS (plT NL t.nc t.rc RS S)) S = 0)
  · rw [if_pos c, if_pos c]
    exact ⟨h, hr, rfl, rfl, rfl, rfl, Nat.le_succ _⟩
  · rw [if_neg c, if_neg c]
    have hp := plT_le NL t.nc t.rc RS S
    generalize plT NL t.nc t.rc RS S = p at *
    refine ⟨?_, ?_, rfl, rfl, rfl, rfl, Nat.le_refl _⟩
    · intro q hq
      have hq : q < t.rc + 1 := hq
      show ∃ b : Nat, va_up (shF t.rs p t.rc) p (some a) q = some b ∧ _
      by_cases e : q = p
      · refine ⟨a, if_pos e, ?_, ?_⟩
        · dsimp only; rw [if_neg (by omega), if_pos e]; exact ha
        · dsimp only; rw [if_neg (by omega), if_pos e]; exact ho
      · by_cases e2 : q < p
        · obtain ⟨b, h1, h2, h3⟩ := h q (by omega)
          refine ⟨b, (if_neg e).trans ((shF_at (by omega)).trans h1), ?_, ?_⟩
          · dsimp only; rw [if_pos e2]; exact h2
          · dsimp only; rw [if_pos e2]; exact h3
        · obtain ⟨b, h1, h2, h3⟩ := h (q - 1) (by omega)
          refine ⟨b, (if_neg e).trans ((if_pos ⟨by omega, by omega⟩).trans h1), ?_, ?_⟩
          · dsimp only; rw [if_neg e2, if_neg e]; exact h2
          · dsimp only; rw [if_neg e2, if_neg e]; exact h3
    · show t.rc + 1 ≤ 256
      have : ¬ t.rc = 256 := fun z => c (Or.inl z)
      omega
abbrev PKS : Type := TB × (Nat → List LB) × (Nat → Int32) × (Nat → Bool)
section PK
variable (NL : Nat → List Int32) (n : Nat) (KD : Nat → Int32) (MN MT : Nat → List Int32) (SS : Nat → List LB) (kn : Nat → Option Nat)
def pkT (i : Nat) : Bool := allB n (tkF KD MN MT (SS i))
/-- i series looked at -/
def pkG (g : PKS) : Nat → PKS
  | 0 => g
  | i + 1 => if pkT n KD MN MT SS i = true then (adT NL (pkG g i).1 (pkG g i).2.1 (SS i) ((kn i).getD 0), adRS NL (pkG g i).1 (pkG g i).2.1 (SS i), va_up (va_up (pkG g i).2.2.1 i (-1)) i 0, va_up (pkG g i).2.2.2 i false) else ((pkG g i).1, (pkG g i).2.1, va_up (pkG g i).2.2.1 i (-1), va_up (pkG g i).2.2.2 i false)
/-- the rows of i series -/
def pkR (nc rc : Nat) (RS : Nat → List LB) (ar : Nat → Int32) : Nat → Nat → Int32
  | 0 => ar
  | i + 1 => if pkR nc rc RS ar i i = (-1) then pkR nc rc RS ar i else va_up (pkR nc rc RS ar i) i (roT NL nc rc RS (SS i))
end PK
end
section
theorem rsAll_ad {dA : Nat → ClassId} {ws : va_W} {NL : Nat → List Int32} {t : TB} {RS : Nat → List LB} {S : List LB} {a : Nat} (h : rsAll dA ws t.rs) (ha : isSer dA ws a S) (ho : serOk S) : rsAll dA ws (adT NL t RS S a).rs := by
  unfold adT
  split
  · exact h
  · intro q b hq
    have hq : va_up (shF t.rs (plT NL t.nc t.rc RS S) t.rc) (plT NL t.nc t.rc RS S) (some a) q = some b := hq
    unfold va_up at hq
    split at hq
    · cases hq
      exact ⟨S, ha, ho⟩
    · unfold shF at hq
      split at hq
      · exact h _ b hq
      · exact h _ b hq
section PKL
variable {NL : Nat → List Int32} {n : Nat} {KD : Nat → Int32} {MN MT : Nat → List Int32} {SS : Nat → List LB} {kn : Nat → Option Nat} {g : PKS} {i : Nat}
theorem pk_t (h : allB n (tkF KD MN MT (SS i)) = true) : pkG NL n KD MN MT SS kn g (i + 1) = (adT NL (pkG NL n KD MN MT SS kn g i).1 (pkG NL n KD MN MT SS kn g i).2.1 (SS i) ((kn i).getD 0), adRS NL (pkG NL n KD MN MT SS kn g i).1 (pkG NL n KD MN MT SS kn g i).2.1 (SS i), va_up (va_up (pkG NL n KD MN MT SS kn g i).2.2.1 i (-1)) i 0, va_up (pkG NL n KD MN MT SS kn g i).2.2.2 i false) := if_pos h
theorem pk_f (h : allB n (tkF KD MN MT (SS i)) = false) : pkG NL n KD MN MT SS kn g (i + 1) = ((pkG NL n KD MN MT SS kn g i).1, (pkG NL n KD MN MT SS kn g i).2.1, va_up (pkG NL n KD MN MT SS kn g i).2.2.1 i (-1), va_up (pkG NL n KD MN MT SS kn g i).2.2.2 i false) := if_neg (by show ¬ allB n (tkF KD MN MT (SS i)) = true; rw [h]; decide)
end PKL
set_option maxHeartbeats 4000000 in
set_option maxRecDepth 100000 in
theorem v_TbeginRows2 (l : Launch) (D : va_G) (dA : Nat → ClassId) (sz : Nat) (ws : va_W) (ta : Nat → Nat) (t : TB) (sp : Nat) (wn : Nat) (kd : Int32) (pl : Nat) (nu : Int64) (nn : Nat) (NL : Nat → List Int32) (n : Nat) (KD : Nat → Int32) (MN : Nat → List Int32) (MT : Nat → List Int32) (w0 : va_W) (hsub : ∀ c, c ∈ w0 → c ∈ ws) (hst : isStp dA w0 sp kd pl nu nn NL n KD MN MT) : Met l ⟨"SeriesVault$Table", "beginRows", "(LSeriesVault$Step;I)V"⟩ [Cond.code ⟨"SeriesVault$Table", "beginRows", "(LSeriesVault$Step;I)V"⟩ prog_11_method_3_code 4 none] { frames := 1, cells := 0, slots := 0, locals := 0 } (pC D dA [.ref (ta 0), .ref sp, .int (nI wn)] (TbW dA ta t ++ (ws)) sz) (va_Qv (fun (u9 : (Nat → Option Nat)) => nmOk dA w0 u9 nn NL) (fun (u9 : (Nat → Option Nat)) t9 => bW D (va_A (TbW dA ta t ++ (ws)) sz) (TbW dA ta (TB.s_rc (TB.s_wi (TB.s_nc (TB.s_nm t u9) nn) wn) 0) ++ (ws)) t9) (va_A (TbW dA ta t ++ (ws)) sz)) 0 0 (va_A (TbW dA ta t ++ (ws)) sz) := by
  refine mkC (y := ⟨"SeriesVault$Table", "beginRows", "(LSeriesVault$Step;I)V"⟩) (cc := prog_11_method_3_code) (maxL := 4) (av := [.ref (ta 0), .ref sp, .int (nI wn)]) (ws := TbW dA ta t ++ (ws)) (sz := sz) (Qc := fun A => va_Qv (fun (u9 : (Nat → Option Nat)) => nmOk dA w0 u9 nn NL) (fun (u9 : (Nat → Option Nat)) t9 => bW D A (TbW dA ta (TB.s_rc (TB.s_wi (TB.s_nc (TB.s_nm t u9) nn) wn) 0) ++ (ws)) t9) A) (by decide) (Nat.le_of_ble_eq_true rfl) ?_
  intro A p e s m below meth c ls hsz hB
  obtain ⟨hx, hb, hr, hml, hown, hin, hlk, hE, hK, hP, hD, hS, hA, hN, hl⟩ := hB
  have hown : s.vm.findClass "SeriesVault$Table" = some m.cls := hown
  have hl : lv_has ls 4 [(0, .ref (ta 0)), (1, .ref sp), (2, .int (nI wn))] := hl
  obtain ⟨H, hH⟩ : ∃ z, z = s.heap := ⟨_, rfl⟩
  have hP : va_P D vwCl (TbW dA ta t ++ (ws)) H := by rw [hH]; exact hP
  have hS : va_S A s.heap H [] := by rw [hH]; exact hS
  rw [← hH]
  have hsc := hst
  obtain ⟨na, ln, lt, mk, cap, kN, fn, fk, i1a, i2a, j3, j4, j5, j6, j7, i8a, j9, j10, j11⟩ := hsc
  have j1 := hsub _ i1a
  have j2 := hsub _ i2a
  have j8 := hsub _ i8a
  refine lv_aload_n hx hb d_T_beginRows_0 rfl (lv_at hl 0 rfl) ?_
  refine lv_iload_n hx hb d_T_beginRows_1 rfl (lv_at hl 2 rfl) ?_
  refine pF (v := .int (nI wn)) hx hb hown hE hK hP hD hS 0 rfl rfl layT tyT tokT nmT 2 (by decide) w1367 rfl rfl rfl (Nat.le_of_ble_eq_true rfl) d_T_beginRows_2 (fun H locs hP hD hS => ?_)
  have hP : va_P D vwCl (TbW dA ta (TB.s_wi t wn) ++ (ws)) H := hP
  have hD : va_D A (TbW dA ta (TB.s_wi t wn) ++ (ws)) := hD
  refine lv_aload_n hx hb d_T_beginRows_5 rfl (lv_at hl 0 rfl) ?_
  refine lv_aload_n hx hb d_T_beginRows_6 rfl (lv_at hl 1 rfl) ?_
  obtain ⟨qp1, ep2⟩ := List.getElem?_of_mem (show ((sp, .inr (13, [.int kd, .int (nI pl), .long nu, .ref na, .int (nI nn), .ref ln, .ref lt, .ref mk])) : Nat × va_E) ∈ TbW dA ta (TB.s_wi t wn) ++ (ws) from (List.mem_append_right _ j1))
  refine gFN (v := .int (nI nn)) hx hb hown hE hK hP qp1 ep2 rfl layE 4 (by decide) w1499 rfl d_T_beginRows_7 ?_
  refine pF (v := .int (nI nn)) hx hb hown hE hK hP hD hS 0 rfl rfl layT tyT tokT nmT 1 (by decide) w1376 rfl rfl rfl (Nat.le_of_ble_eq_true rfl) d_T_beginRows_10 (fun H locs hP hD hS => ?_)
  have hP : va_P D vwCl (TbW dA ta (TB.s_wi (TB.s_nc t nn) wn) ++ (ws)) H := hP
  have hD : va_D A (TbW dA ta (TB.s_wi (TB.s_nc t nn) wn) ++ (ws)) := hD
  refine lv_iconst (v := 0) hx hb d_T_beginRows_13 (by decide) ?_
  refine lv_istore_n hx hb d_T_beginRows_14 rfl hl (by decide) rfl (fun ls hl => ?_)
  have hl : lv_has ls 4 [(3, .int 0), (0, .ref (ta 0)), (1, .ref sp), (2, .int (nI wn))] := hl
  have L15 : ∀ (k9 : Nat) (i : Nat) (nx : Nat → Option Nat) (i1 : i ≤ nn) (i2 : ∀ q, q < i → nx q = fn q) (hk9 : nn - i = k9), ∀ (H : Heap) (locs : List Loc) (ls : Array Slot) (hP : va_P D vwCl (TbW dA ta (TB.s_wi (TB.s_nc (TB.s_nm t nx) nn) wn) ++ (ws)) H) (hD : va_D A (TbW dA ta (TB.s_wi (TB.s_nc (TB.s_nm t nx) nn) wn) ++ (ws))) (hS : va_S A s.heap H locs) (hl : lv_has ls 4 [(3, .int (nI i)), (0, .ref (ta 0)), (1, .ref sp), (2, .int (nI wn))]), W p l e ({ frames := 1, cells := 0, slots := 0, locals := 0 } : Room) s m ([.ref (ta 0), .ref sp, .int (nI wn)] : List Value).toArray below meth c H locs 0 0 (MQ below (va_Qv (fun (u9 : (Nat → Option Nat)) => nmOk dA w0 u9 nn NL) (fun (u9 : (Nat → Option Nat)) t9 => bW D A (TbW dA ta (TB.s_rc (TB.s_wi (TB.s_nc (TB.s_nm t u9) nn) wn) 0) ++ (ws)) t9) A) ([.ref (ta 0), .ref sp, .int (nI wn)] : List Value).toArray s 0 0 A) (F0 m 15 ls []) := by
    intro k9
    induction k9 using Nat.strongRecOn with
    | ind k9 ih15 =>
      intro i nx i1 i2 hk9 H locs ls hP hD hS hl
      refine lv_iload_n hx hb d_T_beginRows_15 rfl (lv_at hl 0 rfl) ?_
      refine lv_aload_n hx hb d_T_beginRows_16 rfl (lv_at hl 1 rfl) ?_
      refine gF (v := .int (nI nn)) hx hb hown hE hK hP 0 rfl rfl layT 1 (by decide) w1376 rfl d_T_beginRows_17 ?_
      refine lv_icmp_ge hx hb d_T_beginRows_20 (tgt := 41) rfl (fun g3 => ?_) (fun g3 => ?_)
      · have g3 := (nI_leI (a := nn) (b := i) (by omega) (by omega)).mp g3
        refine lv_aload_n hx hb d_T_beginRows_41 rfl (lv_at hl 1 rfl) ?_
        refine lv_iconst (v := 0) hx hb d_T_beginRows_42 (by decide) ?_
        refine pF (v := .int (nI 0)) hx hb hown hE hK hP hD hS 0 rfl rfl layT tyT tokT nmT 3 (by decide) w1368 rfl rfl rfl (Nat.le_of_ble_eq_true rfl) d_T_beginRows_43 (fun H locs hP hD hS => ?_)
        have hP : va_P D vwCl (TbW dA ta (TB.s_rc (TB.s_wi (TB.s_nc (TB.s_nm t nx) nn) wn) 0) ++ (ws)) H := hP
        have hD : va_D A (TbW dA ta (TB.s_rc (TB.s_wi (TB.s_nc (TB.s_nm t nx) nn) wn) 0) ++ (ws)) := hD
        exact rfV hx hb hr hlk hS nx (fun q hq => by obtain ⟨p9, a1, a2, a3⟩ := j5 q hq; exact ⟨p9, by rw [i2 q (by omega)]; exact a1, a2, a3⟩) hP hD (Nat.le_of_ble_eq_true rfl) (Nat.le_of_ble_eq_true rfl) d_T_beginRows_46
      · have g3 := mt (nI_leI (a := nn) (b := i) (by omega) (by omega)).mpr g3
        refine lv_aload_n hx hb d_T_beginRows_23 rfl (lv_at hl 1 rfl) ?_
        obtain ⟨p1, ep1, wp1, lp1⟩ := j5 i (by omega)
        have wpc := wp1
        obtain ⟨bp1, fp1, kp1, -⟩ := wpc
        have kp2 := hsub _ kp1
        refine gF (v := .ref (ta 1)) hx hb hown hE hK hP 0 rfl rfl layT 0 (by decide) w784 rfl d_T_beginRows_24 ?_
        refine lv_iload_n hx hb d_T_beginRows_27 rfl (lv_at hl 0 rfl) ?_
        refine lv_aload_n hx hb d_T_beginRows_28 rfl (lv_at hl 2 rfl) ?_
        obtain ⟨qp4, ep5⟩ := List.getElem?_of_mem (show ((sp, .inr (13, [.int kd, .int (nI pl), .long nu, .ref na, .int (nI nn), .ref ln, .ref lt, .ref mk])) : Nat × va_E) ∈ TbW dA ta (TB.s_wi (TB.s_nc (TB.s_nm t nx) nn) wn) ++ (ws) from (List.mem_append_right _ j1))
        refine gFN (v := .ref na) hx hb hown hE hK hP qp4 ep5 rfl layE 3 (by decide) w1500 rfl d_T_beginRows_29 ?_
        refine lv_iload_n hx hb d_T_beginRows_32 rfl (lv_at hl 0 rfl) ?_
        obtain ⟨qp6, ep7⟩ := List.getElem?_of_mem (show ((na, .inl (dA 6, cap, .inr (.inr (.inr (.inr fn))))) : Nat × va_E) ∈ TbW dA ta (TB.s_wi (TB.s_nc (TB.s_nm t nx) nn) wn) ++ (ws) from (List.mem_append_right _ j2))
        refine nqld (f := fn) (n := cap) hx hb hK hP (qp6) 6 ep7 rfl (i) (by omega) (by omega) ep1 d_T_beginRows_33 ?_
        obtain ⟨qp8, ep9⟩ := List.getElem?_of_mem (show ((p1, .inr (10, [.ref bp1])) : Nat × va_E) ∈ TbW dA ta (TB.s_wi (TB.s_nc (TB.s_nm t nx) nn) wn) ++ (ws) from (List.mem_append_right _ kp2))
        refine nqst (r := ("SeriesVault$Word", TW, 1)) (f := nx) (n := 6) hx hb hK hP hD hS (1) 6 (qp8) 10 rfl rfl ep9 rfl (i) (by omega) (by decide) d_T_beginRows_34 (fun H locs hP hD hS => ?_)
        have hP : va_P D vwCl (TbW dA ta (TB.s_wi (TB.s_nc (TB.s_nm t (va_up nx i (some p1))) nn) wn) ++ (ws)) H := hP
        have hD : va_D A (TbW dA ta (TB.s_wi (TB.s_nc (TB.s_nm t (va_up nx i (some p1))) nn) wn) ++ (ws)) := hD
        refine lv_iinc (k := 0) (v := nI (i + 1)) hx hb d_T_beginRows_35 hl rfl (iincN (i) 1 1 (by decide)) (by decide) rfl (fun ls hl => ?_)
        have hl : lv_has ls 4 [(3, .int (nI (i + 1))), (0, .ref (ta 0)), (1, .ref sp), (2, .int (nI wn))] := hl
        refine lv_goto hx hb d_T_beginRows_38 (tgt := 15) rfl ?_
        exact ih15 _ (by omega) (i + 1) (va_up nx i (some p1)) (by omega) (fun q hq => up_lt i2 ep1 hq) rfl H _ ls hP hD hS (lv_sub hl [0, 1, 2, 3] rfl)
  exact L15 _ 0 t.nm (Nat.zero_le _) (fun q h => absurd h (Nat.not_lt_zero q)) rfl H _ ls hP hD hS (lv_sub hl [0, 1, 2, 3] rfl)
end
section
/-! The rows of the series that a function takes. -/
theorem roT_c (NL : Nat → List Int32) (nc rc : Nat) (RS : Nat → List LB) (S : List LB) : roT NL nc rc RS S = (-1) ∨ ∃ r, r < rc ∧ roT NL nc rc RS S = nI r := by
  unfold roT
  split
  · rename_i h
    exact Or.inr ⟨_, h.1, rfl⟩
  · exact Or.inl rfl
theorem pkR_c {NL : Nat → List Int32} {SS : Nat → List LB} {nc rc : Nat} {RS : Nat → List LB} {ar : Nat → Int32} : ∀ {j o : Nat}, o < j → pkR NL SS nc rc RS ar j o = (-1) ∨ ∃ r, r < rc ∧ pkR NL SS nc rc RS ar j o = nI r
  | 0, o, h => absurd h (Nat.not_lt_zero o)
  | j + 1, o, h => by
    show (if pkR NL SS nc rc RS ar j j = (-1) then pkR NL SS nc rc RS ar j else va_up (pkR NL SS nc rc RS ar j) j (roT NL nc rc RS (SS j))) o = (-1) ∨ ∃ r, r < rc ∧ (if pkR NL SS nc rc RS ar j j = (-1) then pkR NL SS nc rc RS ar j else va_up (pkR NL SS nc rc RS ar j) j (roT NL nc rc RS (SS j))) o = nI r
    by_cases c : pkR NL SS nc rc RS ar j j = (-1)
    · rw [if_pos c]
      by_cases e : o = j
      · subst e
        exact Or.inl c
      · exact pkR_c (by omega)
    · rw [if_neg c]
      by_cases e : o = j
      · rw [show va_up (pkR NL SS nc rc RS ar j) j (roT NL nc rc RS (SS j)) o = roT NL nc rc RS (SS j) from if_pos e]
        exact roT_c _ _ _ _ _
      · rw [show va_up (pkR NL SS nc rc RS ar j) j (roT NL nc rc RS (SS j)) o = pkR NL SS nc rc RS ar j o from if_neg e]
        exact pkR_c (by omega)
theorem pkR_t {NL : Nat → List Int32} {SS : Nat → List LB} {nc rc : Nat} {RS : Nat → List LB} {ar : Nat → Int32} {j : Nat} (h : pkR NL SS nc rc RS ar j j = (-1)) : pkR NL SS nc rc RS ar (j + 1) = pkR NL SS nc rc RS ar j := if_pos h
theorem pkR_f {NL : Nat → List Int32} {SS : Nat → List LB} {nc rc : Nat} {RS : Nat → List LB} {ar : Nat → Int32} {j : Nat} (h : ¬ pkR NL SS nc rc RS ar j j = (-1)) : pkR NL SS nc rc RS ar (j + 1) = va_up (pkR NL SS nc rc RS ar j) j (roT NL nc rc RS (SS j)) := if_neg h
/-- the kept sizes of the table while rows are added -/
def pkK (t : TB) (nn : Nat) (nx : Nat → Option Nat) (wi i : Nat) (y : TB) : Prop := y.rc ≤ 256 ∧ y.nc = nn ∧ y.nm = nx ∧ y.wi = wi ∧ y.cN = t.cN ∧ y.rc ≤ i
theorem rw_le {a b : Nat} (h1 : a ≤ 256) (h2 : b ≤ 64) : a * b ≤ 16384 := Nat.mul_le_mul h1 h2
theorem clT_c {t : TB} {q : Nat} (h : t.cN ≤ 65536) (h2 : t.rc * t.wi ≤ 16384) : (clT t q).cN ≤ 65536 := by
  unfold clT
  split
  · exact h
  · show max (t.rc * t.wi) (2 * t.cN) ≤ 65536
    omega
theorem beR_k {x : VS} {n : Nat} {qA : Nat → Nat} {qN : Nat} {qT : Nat → Int64} {qO : Nat → Nat} (h : beR x n (qA, qN, qT, qO)) (h1 : x.bN ≤ 65536) (h2 : n ≤ 16384) (h6 : ∀ k, x.bO k < 256) : n ≤ qN ∧ qN ≤ 65536 ∧ ∀ k, qO k < 256 := by
  rcases h with ⟨a, b⟩ | ⟨a, b, -, d⟩
  · cases b
    exact ⟨a, h1, h6⟩
  · have b : qN = max n (2 * x.bN) := b
    have d : qO = fun _ => 0 := d
    subst d
    exact ⟨by omega, by omega, fun _ => (show (0 : Nat) < 256 by decide)⟩
end
section
/-! What points met keep of the table; names do not count for rows. -/
def kept (t u : TB) : Prop := u.wi = t.wi ∧ u.rc = t.rc ∧ u.cN = t.cN ∧ u.rs = t.rs
theorem kept_rf (t : TB) : kept t t := ⟨rfl, rfl, rfl, rfl⟩
theorem kept_tr {a b c : TB} (h1 : kept a b) (h2 : kept b c) : kept a c := ⟨h2.1.trans h1.1, h2.2.1.trans h1.2.1, h2.2.2.1.trans h1.2.2.1, h2.2.2.2.trans h1.2.2.2⟩
theorem mm1_k (fn : Int32) (x : VS) (M : MM) (o : Nat) (tm v : Int64) : kept M.1 (mm1 fn x M o tm v).1 := by
  show kept M.1 (mqY fn M.1 (x.pb M) o tm v)
  unfold mqY
  split
  · exact kept_rf _
  · exact ⟨mtT_k.1, mtT_k.2.1, mtT_k.2.2.1, mtT_k.2.2.2.1⟩
theorem mmP_k (fn : Int32) (x : VS) (P : PT) (M : MM) : ∀ i, kept M.1 (mmP fn x P M i).1
  | 0 => kept_rf _
  | i + 1 => by
    have ih := mmP_k fn x P M i
    show kept M.1 (if ¬ x.aro (P.o i) = (-1) ∧ x.sePc P i = true then mm1 fn x (mmP fn x P M i) (P.o i) (P.t i) (P.v i) else mmP fn x P M i).1
    split
    · exact kept_tr ih (mm1_k _ _ _ _ _ _)
    · exact ih
theorem mmK_k (fn : Int32) (x : VS) (PS : Nat → PT) (M : MM) : ∀ k, kept M.1 (mmK fn x PS M k).1
  | 0 => kept_rf _
  | k + 1 => kept_tr (mmK_k fn x PS M k) (mmP_k fn x (PS k) _ _)
theorem mmH_k (fn : Int32) (x : VS) (M : MM) : ∀ i, kept M.1 (mmH fn x M i).1
  | 0 => kept_rf _
  | i + 1 => by
    have ih := mmH_k fn x M i
    show kept M.1 (if ¬ x.aro (x.hO i) = (-1) then mm1 fn x (mmH fn x M i) (x.hO i) (x.hT i) (x.hV i) else mmH fn x M i).1
    split
    · exact kept_tr ih (mm1_k _ _ _ _ _ _)
    · exact ih
theorem mmA_k (fn : Int32) (x : VS) (PS : Nat → PT) (t : TB) : kept t (mmA fn x PS t).1 := kept_tr (mmK_k fn x PS (x.m0 t) x.npc) (mmH_k fn x _ x.hsize)
theorem adT_nm (NL : Nat → List Int32) (t : TB) (RS : Nat → List LB) (S : List LB) (a : Nat) (u : Nat → Option Nat) : adT NL (TB.s_nm t u) RS S a = TB.s_nm (adT NL t RS S a) u := by
  unfold adT
  by_cases c : t.rc = 256 ∨ (plT NL t.nc t.rc RS S < t.rc ∧ cmT NL t.nc (RS (plT NL t.nc t.rc RS S)) S = 0)
  · rw [if_pos c, if_pos (show (TB.s_nm t u).rc = 256 ∨ _ from c)]
  · rw [if_neg c, if_neg (show ¬ ((TB.s_nm t u).rc = 256 ∨ _) from c)]
    rfl
theorem pkG_nm (NL : Nat → List Int32) (n : Nat) (KD : Nat → Int32) (MN MT : Nat → List Int32) (SS : Nat → List LB) (kn : Nat → Option Nat) (t : TB) (RS : Nat → List LB) (ar : Nat → Int32) (bh : Nat → Bool) (u : Nat → Option Nat) : ∀ i, pkG NL n KD MN MT SS kn (TB.s_nm t u, RS, ar, bh) i = (TB.s_nm (pkG NL n KD MN MT SS kn (t, RS, ar, bh) i).1 u, (pkG NL n KD MN MT SS kn (t, RS, ar, bh) i).2)
  | 0 => rfl
  | i + 1 => by
    have ih := pkG_nm NL n KD MN MT SS kn t RS ar bh u i
    cases h : allB n (tkF KD MN MT (SS i)) with
    | true =>
      rw [pk_t h, pk_t h, ih]
      dsimp only
      rw [adT_nm]
      rfl
    | false =>
      rw [pk_f h, pk_f h, ih]
end
section
/-- what the rows picked cost -/
def pkS (rc wi cN bN : Nat) : Nat := (if rc * wi ≤ cN then 0 else max (rc * wi) (2 * cN)) + (if rc * wi ≤ bN then 0 else 2 * max (rc * wi) (2 * bN))
theorem d_A_pick_0 : decode prog_2_method_6_code 0 = .ok (.aload_n 2, 1) := by decide +kernel
theorem d_A_pick_1 : decode prog_2_method_6_code 1 = .ok (.aload_n 1, 1) := by decide +kernel
theorem d_A_pick_2 : decode prog_2_method_6_code 2 = .ok (.aload_n 0, 1) := by decide +kernel
theorem d_A_pick_3 : decode prog_2_method_6_code 3 = .ok (.getfield 54, 3) := by decide +kernel
theorem d_A_pick_6 : decode prog_2_method_6_code 6 = .ok (.invokevirtual 119, 3) := by decide +kernel
theorem d_A_pick_9 : decode prog_2_method_6_code 9 = .ok (.iconst 0, 1) := by decide +kernel
theorem d_A_pick_10 : decode prog_2_method_6_code 10 = .ok (.istore 6, 2) := by decide +kernel
theorem d_A_pick_12 : decode prog_2_method_6_code 12 = .ok (.iload 6, 2) := by decide +kernel
theorem d_A_pick_14 : decode prog_2_method_6_code 14 = .ok (.aload 4, 2) := by decide +kernel
theorem d_A_pick_16 : decode prog_2_method_6_code 16 = .ok (.getfield 123, 3) := by decide +kernel
theorem d_A_pick_19 : decode prog_2_method_6_code 19 = .ok (.if_icmp .ge 52, 3) := by decide +kernel
theorem d_A_pick_71 : decode prog_2_method_6_code 71 = .ok (.iconst 0, 1) := by decide +kernel
theorem d_A_pick_72 : decode prog_2_method_6_code 72 = .ok (.istore 6, 2) := by decide +kernel
theorem d_A_pick_74 : decode prog_2_method_6_code 74 = .ok (.iload 6, 2) := by decide +kernel
theorem d_A_pick_76 : decode prog_2_method_6_code 76 = .ok (.aload 4, 2) := by decide +kernel
theorem d_A_pick_78 : decode prog_2_method_6_code 78 = .ok (.getfield 123, 3) := by decide +kernel
theorem d_A_pick_81 : decode prog_2_method_6_code 81 = .ok (.if_icmp .ge 35, 3) := by decide +kernel
theorem d_A_pick_116 : decode prog_2_method_6_code 116 = .ok (.aload_n 2, 1) := by decide +kernel
theorem d_A_pick_117 : decode prog_2_method_6_code 117 = .ok (.invokevirtual 139, 3) := by decide +kernel
theorem d_A_pick_120 : decode prog_2_method_6_code 120 = .ok (.aload_n 0, 1) := by decide +kernel
theorem d_A_pick_121 : decode prog_2_method_6_code 121 = .ok (.aload_n 2, 1) := by decide +kernel
theorem d_A_pick_122 : decode prog_2_method_6_code 122 = .ok (.getfield 142, 3) := by decide +kernel
theorem d_A_pick_125 : decode prog_2_method_6_code 125 = .ok (.aload_n 0, 1) := by decide +kernel
theorem d_A_pick_126 : decode prog_2_method_6_code 126 = .ok (.getfield 54, 3) := by decide +kernel
theorem d_A_pick_129 : decode prog_2_method_6_code 129 = .ok (.imul, 1) := by decide +kernel
theorem d_A_pick_130 : decode prog_2_method_6_code 130 = .ok (.invokevirtual 145, 3) := by decide +kernel
theorem d_A_pick_133 : decode prog_2_method_6_code 133 = .ok (.aload_n 0, 1) := by decide +kernel
theorem d_A_pick_134 : decode prog_2_method_6_code 134 = .ok (.aload_n 1, 1) := by decide +kernel
theorem d_A_pick_135 : decode prog_2_method_6_code 135 = .ok (.getfield 79, 3) := by decide +kernel
theorem d_A_pick_138 : decode prog_2_method_6_code 138 = .ok (.l2i, 1) := by decide +kernel
theorem d_A_pick_139 : decode prog_2_method_6_code 139 = .ok (.aload_n 2, 1) := by decide +kernel
theorem d_A_pick_140 : decode prog_2_method_6_code 140 = .ok (.aload 4, 2) := by decide +kernel
theorem d_A_pick_142 : decode prog_2_method_6_code 142 = .ok (.aload 5, 2) := by decide +kernel
theorem d_A_pick_144 : decode prog_2_method_6_code 144 = .ok (.invokevirtual 149, 3) := by decide +kernel
theorem d_A_pick_147 : decode prog_2_method_6_code 147 = .ok (.aload_n 2, 1) := by decide +kernel
theorem d_A_pick_148 : decode prog_2_method_6_code 148 = .ok (.invokevirtual 153, 3) := by decide +kernel
theorem d_A_pick_151 : decode prog_2_method_6_code 151 = .ok (.return_, 1) := by decide +kernel
theorem d_A_pick_84 : decode prog_2_method_6_code 84 = .ok (.aload_n 0, 1) := by decide +kernel
theorem d_A_pick_85 : decode prog_2_method_6_code 85 = .ok (.getfield 18, 3) := by decide +kernel
theorem d_A_pick_88 : decode prog_2_method_6_code 88 = .ok (.iload 6, 2) := by decide +kernel
theorem d_A_pick_90 : decode prog_2_method_6_code 90 = .ok (.iaload, 1) := by decide +kernel
theorem d_A_pick_91 : decode prog_2_method_6_code 91 = .ok (.iconst (-1), 1) := by decide +kernel
theorem d_A_pick_92 : decode prog_2_method_6_code 92 = .ok (.if_icmp .eq 18, 3) := by decide +kernel
theorem d_A_pick_110 : decode prog_2_method_6_code 110 = .ok (.iinc 6 1, 3) := by decide +kernel
theorem d_A_pick_113 : decode prog_2_method_6_code 113 = .ok (.goto (-39), 3) := by decide +kernel
theorem d_A_pick_95 : decode prog_2_method_6_code 95 = .ok (.aload_n 0, 1) := by decide +kernel
theorem d_A_pick_96 : decode prog_2_method_6_code 96 = .ok (.getfield 18, 3) := by decide +kernel
theorem d_A_pick_99 : decode prog_2_method_6_code 99 = .ok (.iload 6, 2) := by decide +kernel
theorem d_A_pick_101 : decode prog_2_method_6_code 101 = .ok (.aload_n 2, 1) := by decide +kernel
theorem d_A_pick_102 : decode prog_2_method_6_code 102 = .ok (.aload_n 3, 1) := by decide +kernel
theorem d_A_pick_103 : decode prog_2_method_6_code 103 = .ok (.iload 6, 2) := by decide +kernel
theorem d_A_pick_105 : decode prog_2_method_6_code 105 = .ok (.aaload, 1) := by decide +kernel
theorem d_A_pick_106 : decode prog_2_method_6_code 106 = .ok (.invokevirtual 136, 3) := by decide +kernel
theorem d_A_pick_109 : decode prog_2_method_6_code 109 = .ok (.iastore, 1) := by decide +kernel
theorem d_A_pick_22 : decode prog_2_method_6_code 22 = .ok (.aload_n 0, 1) := by decide +kernel
theorem d_A_pick_23 : decode prog_2_method_6_code 23 = .ok (.getfield 18, 3) := by decide +kernel
theorem d_A_pick_26 : decode prog_2_method_6_code 26 = .ok (.iload 6, 2) := by decide +kernel
theorem d_A_pick_28 : decode prog_2_method_6_code 28 = .ok (.iconst (-1), 1) := by decide +kernel
theorem d_A_pick_29 : decode prog_2_method_6_code 29 = .ok (.iastore, 1) := by decide +kernel
theorem d_A_pick_30 : decode prog_2_method_6_code 30 = .ok (.aload_n 0, 1) := by decide +kernel
theorem d_A_pick_31 : decode prog_2_method_6_code 31 = .ok (.getfield 22, 3) := by decide +kernel
theorem d_A_pick_34 : decode prog_2_method_6_code 34 = .ok (.iload 6, 2) := by decide +kernel
theorem d_A_pick_36 : decode prog_2_method_6_code 36 = .ok (.iconst 0, 1) := by decide +kernel
theorem d_A_pick_37 : decode prog_2_method_6_code 37 = .ok (.bastore, 1) := by decide +kernel
theorem d_A_pick_38 : decode prog_2_method_6_code 38 = .ok (.aload_n 1, 1) := by decide +kernel
theorem d_A_pick_39 : decode prog_2_method_6_code 39 = .ok (.aload_n 3, 1) := by decide +kernel
theorem d_A_pick_40 : decode prog_2_method_6_code 40 = .ok (.iload 6, 2) := by decide +kernel
theorem d_A_pick_42 : decode prog_2_method_6_code 42 = .ok (.aaload, 1) := by decide +kernel
theorem d_A_pick_43 : decode prog_2_method_6_code 43 = .ok (.invokevirtual 128, 3) := by decide +kernel
theorem d_A_pick_46 : decode prog_2_method_6_code 46 = .ok (.ifCond .eq 19, 3) := by decide +kernel
theorem d_A_pick_65 : decode prog_2_method_6_code 65 = .ok (.iinc 6 1, 3) := by decide +kernel
theorem d_A_pick_68 : decode prog_2_method_6_code 68 = .ok (.goto (-56), 3) := by decide +kernel
theorem d_A_pick_49 : decode prog_2_method_6_code 49 = .ok (.aload_n 0, 1) := by decide +kernel
theorem d_A_pick_50 : decode prog_2_method_6_code 50 = .ok (.getfield 18, 3) := by decide +kernel
theorem d_A_pick_53 : decode prog_2_method_6_code 53 = .ok (.iload 6, 2) := by decide +kernel
theorem d_A_pick_55 : decode prog_2_method_6_code 55 = .ok (.iconst 0, 1) := by decide +kernel
theorem d_A_pick_56 : decode prog_2_method_6_code 56 = .ok (.iastore, 1) := by decide +kernel
theorem d_A_pick_57 : decode prog_2_method_6_code 57 = .ok (.aload_n 2, 1) := by decide +kernel
theorem d_A_pick_58 : decode prog_2_method_6_code 58 = .ok (.aload_n 3, 1) := by decide +kernel
theorem d_A_pick_59 : decode prog_2_method_6_code 59 = .ok (.iload 6, 2) := by decide +kernel
theorem d_A_pick_61 : decode prog_2_method_6_code 61 = .ok (.aaload, 1) := by decide +kernel
theorem d_A_pick_62 : decode prog_2_method_6_code 62 = .ok (.invokevirtual 132, 3) := by decide +kernel
theorem w1692 : Cond.methodLink "SeriesVault$Answers" 119 ⟨"SeriesVault$Table", "beginRows", "(LSeriesVault$Step;I)V"⟩ ∈ aW := aw_of (tb_7 (List.mem_of_getElem? (i := 188) rfl)) rfl
theorem w1693 : Cond.code ⟨"SeriesVault$Table", "beginRows", "(LSeriesVault$Step;I)V"⟩ prog_11_method_3_code 4 none ∈ aW := aw_of (tb_7 (List.mem_of_getElem? (i := 191) rfl)) rfl
theorem w1694 : Cond.instanceMethod ⟨"SeriesVault$Table", "beginRows", "(LSeriesVault$Step;I)V"⟩ ∈ aW := aw_of (tb_7 (List.mem_of_getElem? (i := 189) rfl)) rfl
theorem w1695 : Cond.selects "SeriesVault$Table" ⟨"SeriesVault$Table", "beginRows", "(LSeriesVault$Step;I)V"⟩ ⟨"SeriesVault$Table", "beginRows", "(LSeriesVault$Step;I)V"⟩ ∈ aW := aw_of (tb_7 (List.mem_of_getElem? (i := 190) rfl)) rfl
theorem w1696 : Cond.fieldLinkNest "SeriesVault$Answers" 123 "SeriesVault$Shelf" "seriesCount" "I" "SeriesVault" ∈ aW := aw_of (tb_1 (List.mem_of_getElem? (i := 155) rfl)) rfl
theorem w1697 : Cond.methodLink "SeriesVault$Answers" 139 ⟨"SeriesVault$Table", "clearCells", "()V"⟩ ∈ aW := aw_of (tb_7 (List.mem_of_getElem? (i := 227) rfl)) rfl
theorem w1698 : Cond.fieldLinkNest "SeriesVault$Answers" 142 "SeriesVault$Table" "rowCount" "I" "SeriesVault" ∈ aW := aw_of (tb_2 (List.mem_of_getElem? (i := 60) rfl)) rfl
theorem w1699 : Cond.methodLink "SeriesVault$Answers" 145 ⟨"SeriesVault$Answers", "makeBestRoom", "(I)V"⟩ ∈ aW := aw_of (tb_7 (List.mem_of_getElem? (i := 228) rfl)) rfl
theorem w1700 : Cond.code ⟨"SeriesVault$Answers", "makeBestRoom", "(I)V"⟩ prog_2_method_7_code 3 none ∈ aW := aw_of (tb_7 (List.mem_of_getElem? (i := 231) rfl)) rfl
theorem w1701 : Cond.instanceMethod ⟨"SeriesVault$Answers", "makeBestRoom", "(I)V"⟩ ∈ aW := aw_of (tb_7 (List.mem_of_getElem? (i := 230) rfl)) rfl
theorem w1702 : Cond.selects "SeriesVault$Answers" ⟨"SeriesVault$Answers", "makeBestRoom", "(I)V"⟩ ⟨"SeriesVault$Answers", "makeBestRoom", "(I)V"⟩ ∈ aW := aw_pr (List.mem_map.mpr ⟨_, pv_4 (List.mem_of_getElem? (i := 7) rfl), rfl⟩) rfl
theorem w1703 : Cond.fieldLinkNest "SeriesVault$Answers" 79 "SeriesVault$Step" "number" "J" "SeriesVault" ∈ aW := aw_of (tb_7 (List.mem_of_getElem? (i := 15) rfl)) rfl
theorem w1704 : Cond.methodLink "SeriesVault$Answers" 149 ⟨"SeriesVault$Answers", "meetPoints", "(ILSeriesVault$Table;LSeriesVault$Shelf;LSeriesVault$Points;)V"⟩ ∈ aW := aw_of (tb_7 (List.mem_of_getElem? (i := 233) rfl)) rfl
theorem w1705 : Cond.code ⟨"SeriesVault$Answers", "meetPoints", "(ILSeriesVault$Table;LSeriesVault$Shelf;LSeriesVault$Points;)V"⟩ prog_2_method_8_code 8 none ∈ aW := aw_of (tb_7 (List.mem_of_getElem? (i := 236) rfl)) rfl
theorem w1706 : Cond.instanceMethod ⟨"SeriesVault$Answers", "meetPoints", "(ILSeriesVault$Table;LSeriesVault$Shelf;LSeriesVault$Points;)V"⟩ ∈ aW := aw_of (tb_7 (List.mem_of_getElem? (i := 235) rfl)) rfl
theorem w1707 : Cond.selects "SeriesVault$Answers" ⟨"SeriesVault$Answers", "meetPoints", "(ILSeriesVault$Table;LSeriesVault$Shelf;LSeriesVault$Points;)V"⟩ ⟨"SeriesVault$Answers", "meetPoints", "(ILSeriesVault$Table;LSeriesVault$Shelf;LSeriesVault$Points;)V"⟩ ∈ aW := aw_pr (List.mem_map.mpr ⟨_, pv_4 (List.mem_of_getElem? (i := 8) rfl), rfl⟩) rfl
theorem w1708 : Cond.methodLink "SeriesVault$Answers" 153 ⟨"SeriesVault$Table", "dropEmptyRows", "()V"⟩ ∈ aW := aw_of (tb_8 (List.mem_of_getElem? (i := 28) rfl)) rfl
theorem w1709 : Cond.methodLink "SeriesVault$Answers" 136 ⟨"SeriesVault$Table", "rowOf", "(LSeriesVault$Series;)I"⟩ ∈ aW := aw_of (tb_7 (List.mem_of_getElem? (i := 223) rfl)) rfl
theorem w1710 : Cond.code ⟨"SeriesVault$Table", "rowOf", "(LSeriesVault$Series;)I"⟩ prog_11_method_5_code 3 (some FieldType.int) ∈ aW := aw_of (tb_7 (List.mem_of_getElem? (i := 226) rfl)) rfl
theorem w1711 : Cond.instanceMethod ⟨"SeriesVault$Table", "rowOf", "(LSeriesVault$Series;)I"⟩ ∈ aW := aw_of (tb_7 (List.mem_of_getElem? (i := 224) rfl)) rfl
theorem w1712 : Cond.selects "SeriesVault$Table" ⟨"SeriesVault$Table", "rowOf", "(LSeriesVault$Series;)I"⟩ ⟨"SeriesVault$Table", "rowOf", "(LSeriesVault$Series;)I"⟩ ∈ aW := aw_of (tb_7 (List.mem_of_getElem? (i := 225) rfl)) rfl
theorem w1713 : Cond.methodLink "SeriesVault$Answers" 128 ⟨"SeriesVault$Step", "takes", "(LSeriesVault$Series;)Z"⟩ ∈ aW := aw_of (tb_7 (List.mem_of_getElem? (i := 192) rfl)) rfl
theorem w1714 : Cond.code ⟨"SeriesVault$Step", "takes", "(LSeriesVault$Series;)Z"⟩ prog_10_method_5_code 3 (some FieldType.boolean) ∈ aW := aw_of (tb_7 (List.mem_of_getElem? (i := 195) rfl)) rfl
theorem w1715 : Cond.instanceMethod ⟨"SeriesVault$Step", "takes", "(LSeriesVault$Series;)Z"⟩ ∈ aW := aw_of (tb_7 (List.mem_of_getElem? (i := 193) rfl)) rfl
theorem w1716 : Cond.selects "SeriesVault$Step" ⟨"SeriesVault$Step", "takes", "(LSeriesVault$Series;)Z"⟩ ⟨"SeriesVault$Step", "takes", "(LSeriesVault$Series;)Z"⟩ ∈ aW := aw_of (tb_7 (List.mem_of_getElem? (i := 194) rfl)) rfl
theorem w1717 : Cond.methodLink "SeriesVault$Answers" 132 ⟨"SeriesVault$Table", "addRow", "(LSeriesVault$Series;)V"⟩ ∈ aW := aw_of (tb_7 (List.mem_of_getElem? (i := 209) rfl)) rfl
theorem w1718 : Cond.code ⟨"SeriesVault$Table", "addRow", "(LSeriesVault$Series;)V"⟩ prog_11_method_6_code 4 none ∈ aW := aw_of (tb_7 (List.mem_of_getElem? (i := 212) rfl)) rfl
theorem w1719 : Cond.instanceMethod ⟨"SeriesVault$Table", "addRow", "(LSeriesVault$Series;)V"⟩ ∈ aW := aw_of (tb_7 (List.mem_of_getElem? (i := 210) rfl)) rfl
theorem w1720 : Cond.selects "SeriesVault$Table" ⟨"SeriesVault$Table", "addRow", "(LSeriesVault$Series;)V"⟩ ⟨"SeriesVault$Table", "addRow", "(LSeriesVault$Series;)V"⟩ ∈ aW := aw_of (tb_7 (List.mem_of_getElem? (i := 211) rfl)) rfl
set_option maxHeartbeats 4000000 in
set_option maxRecDepth 100000 in
theorem v_pick (l : Launch) (D : va_G) (dA : Nat → ClassId) (sz : Nat) (h : Nat) (ad : Nat → Nat) (ta : Nat → Nat) (t : TB) (x : VS) (sp : Nat) (kd : Int32) (pl : Nat) (nu : Int64) (nn : Nat) (NL : Nat → List Int32) (n : Nat) (KD : Nat → Int32) (MN : Nat → List Int32) (MT : Nat → List Int32) (SS : Nat → List LB) (PS : Nat → PT) (hst : isStp dA x.pl sp kd pl nu nn NL n KD MN MT) (hnn : nn ≤ 6) (hkn : knOk dA x.kn x.nser x.pl SS) (hwi : x.awi ≤ 64) (hcN : t.cN ≤ 65536) (hra : rsAll dA x.pl t.rs) (hfn : isFn nu.toInt32) (h5 : x.bN ≤ 65536) (h6 : ∀ k : Nat, x.bO k < 256) (hps : psOk dA x.nP x.npc x.pl PS) (hpn : x.npc ≤ 32) (hs1 : x.nsc ≤ 64) (hs7 : ∀ q : Nat, q < x.nsc → x.nsO q < 2 ^ 31) (hns : x.nser ≤ 256) (hpo : ∀ k : Nat, k < x.npc → ∀ i : Nat, i < (PS k).n → (PS k).o i < x.nser ∧ wOk x.afr x.awd x.awi ((PS k).t i)) (hho : ∀ i : Nat, i < x.hsize → x.hO i < x.nser ∧ wOk x.afr x.awd x.awi (x.hT i)) (hhz : x.hsize ≤ x.hN) (hhN : x.hN ≤ 65536) : Met l ⟨"SeriesVault$Answers", "pick", "(LSeriesVault$Step;LSeriesVault$Table;[LSeriesVault$Series;LSeriesVault$Shelf;LSeriesVault$Points;)V"⟩ [Cond.code ⟨"SeriesVault$Answers", "pick", "(LSeriesVault$Step;LSeriesVault$Table;[LSeriesVault$Series;LSeriesVault$Shelf;LSeriesVault$Points;)V"⟩ prog_2_method_6_code 7 none] { frames := 6, cells := 3, slots := pkS (pkG NL n KD MN MT SS x.kn (TB.s_rc (TB.s_wi (TB.s_nc t nn) x.awi) 0, fun _ => [], x.aro, x.ahb) x.nser).1.rc x.awi t.cN x.bN, locals := 356 } (pC D dA [.ref (ad 24), .ref sp, .ref (ta 0), .ref (ad 17), .ref (ad 3), .ref (ad 1)] (TbW dA ta t ++ (VW dA h ad x)) sz) (va_Qv (fun (u9 : TB × (Nat → Int32) × (Nat → Bool) × (Nat → Int64) × (Nat → Nat) × Nat × (Nat → Int64) × (Nat → Nat) × (Nat → Option Nat) × TB × (Nat → List LB) × (Nat → Int32) × (Nat → Bool) × TB × (Nat → Int64) × (Nat → Nat) × TB) => nmOk dA x.pl u9.2.2.2.2.2.2.2.2.1 nn NL ∧ (u9.2.2.2.2.2.2.2.2.2.1, u9.2.2.2.2.2.2.2.2.2.2.1, u9.2.2.2.2.2.2.2.2.2.2.2.1, u9.2.2.2.2.2.2.2.2.2.2.2.2.1) = pkG NL n KD MN MT SS x.kn (TB.s_rc (TB.s_wi (TB.s_nc (TB.s_nm t u9.2.2.2.2.2.2.2.2.1) nn) x.awi) 0, fun _ => [], x.aro, x.ahb) x.nser ∧ u9.2.1 = pkR NL SS u9.2.2.2.2.2.2.2.2.2.1.nc u9.2.2.2.2.2.2.2.2.2.1.rc u9.2.2.2.2.2.2.2.2.2.2.1 u9.2.2.2.2.2.2.2.2.2.2.2.1 x.nser ∧ (∃ q, u9.2.2.2.2.2.2.2.2.2.2.2.2.2.1 = clT u9.2.2.2.2.2.2.2.2.2.1 q) ∧ beR (VS.s_ahb (VS.s_aro x u9.2.1) u9.2.2.2.2.2.2.2.2.2.2.2.2.1) (u9.2.2.2.2.2.2.2.2.2.2.2.2.2.1.rc * x.awi) (u9.2.2.2.2.1, u9.2.2.2.2.2.1, u9.2.2.2.2.2.2.2.2.2.2.2.2.2.2.1, u9.2.2.2.2.2.2.2.2.2.2.2.2.2.2.2.1) ∧ (u9.2.2.2.2.2.2.2.2.2.2.2.2.2.2.2.2, u9.2.2.1, u9.2.2.2.1, u9.2.2.2.2.2.2.1, u9.2.2.2.2.2.2.2.1) = mmA nu.toInt32 (VS.s_bO (VS.s_bT (VS.s_bN (VS.s_bA (VS.s_ahb (VS.s_aro x u9.2.1) u9.2.2.2.2.2.2.2.2.2.2.2.2.1) u9.2.2.2.2.1) u9.2.2.2.2.2.1) u9.2.2.2.2.2.2.2.2.2.2.2.2.2.2.1) u9.2.2.2.2.2.2.2.2.2.2.2.2.2.2.2.1) PS u9.2.2.2.2.2.2.2.2.2.2.2.2.2.1 ∧ u9.1 = u9.2.2.2.2.2.2.2.2.2.2.2.2.2.2.2.2.de ∧ rsAll dA x.pl u9.2.2.2.2.2.2.2.2.2.2.2.2.2.2.2.2.rs) (fun (u9 : TB × (Nat → Int32) × (Nat → Bool) × (Nat → Int64) × (Nat → Nat) × Nat × (Nat → Int64) × (Nat → Nat) × (Nat → Option Nat) × TB × (Nat → List LB) × (Nat → Int32) × (Nat → Bool) × TB × (Nat → Int64) × (Nat → Nat) × TB) t9 => bW D (va_A (TbW dA ta t ++ (VW dA h ad x)) sz) (TbW dA ta u9.1 ++ (VW dA h ad (VS.s_bO (VS.s_bT (VS.s_bN (VS.s_bA (VS.s_abf (VS.s_ahb (VS.s_aro x u9.2.1) u9.2.2.1) u9.2.2.2.1) u9.2.2.2.2.1) u9.2.2.2.2.2.1) u9.2.2.2.2.2.2.1) u9.2.2.2.2.2.2.2.1))) t9) (va_A (TbW dA ta t ++ (VW dA h ad x)) sz)) 3 (pkS (pkG NL n KD MN MT SS x.kn (TB.s_rc (TB.s_wi (TB.s_nc t nn) x.awi) 0, fun _ => [], x.aro, x.ahb) x.nser).1.rc x.awi t.cN x.bN) (va_A (TbW dA ta t ++ (VW dA h ad x)) sz) := by
  refine mkC (y := ⟨"SeriesVault$Answers", "pick", "(LSeriesVault$Step;LSeriesVault$Table;[LSeriesVault$Series;LSeriesVault$Shelf;LSeriesVault$Points;)V"⟩) (cc := prog_2_method_6_code) (maxL := 7) (av := [.ref (ad 24), .ref sp, .ref (ta 0), .ref (ad 17), .ref (ad 3), .ref (ad 1)]) (ws := TbW dA ta t ++ (VW dA h ad x)) (sz := sz) (Qc := fun A => va_Qv (fun (u9 : TB × (Nat → Int32) × (Nat → Bool) × (Nat → Int64) × (Nat → Nat) × Nat × (Nat → Int64) × (Nat → Nat) × (Nat → Option Nat) × TB × (Nat → List LB) × (Nat → Int32) × (Nat → Bool) × TB × (Nat → Int64) × (Nat → Nat) × TB) => nmOk dA x.pl u9.2.2.2.2.2.2.2.2.1 nn NL ∧ (u9.2.2.2.2.2.2.2.2.2.1, u9.2.2.2.2.2.2.2.2.2.2.1, u9.2.2.2.2.2.2.2.2.2.2.2.1, u9.2.2.2.2.2.2.2.2.2.2.2.2.1) = pkG NL n KD MN MT SS x.kn (TB.s_rc (TB.s_wi (TB.s_nc (TB.s_nm t u9.2.2.2.2.2.2.2.2.1) nn) x.awi) 0, fun _ => [], x.aro, x.ahb) x.nser ∧ u9.2.1 = pkR NL SS u9.2.2.2.2.2.2.2.2.2.1.nc u9.2.2.2.2.2.2.2.2.2.1.rc u9.2.2.2.2.2.2.2.2.2.2.1 u9.2.2.2.2.2.2.2.2.2.2.2.1 x.nser ∧ (∃ q, u9.2.2.2.2.2.2.2.2.2.2.2.2.2.1 = clT u9.2.2.2.2.2.2.2.2.2.1 q) ∧ beR (VS.s_ahb (VS.s_aro x u9.2.1) u9.2.2.2.2.2.2.2.2.2.2.2.2.1) (u9.2.2.2.2.2.2.2.2.2.2.2.2.2.1.rc * x.awi) (u9.2.2.2.2.1, u9.2.2.2.2.2.1, u9.2.2.2.2.2.2.2.2.2.2.2.2.2.2.1, u9.2.2.2.2.2.2.2.2.2.2.2.2.2.2.2.1) ∧ (u9.2.2.2.2.2.2.2.2.2.2.2.2.2.2.2.2, u9.2.2.1, u9.2.2.2.1, u9.2.2.2.2.2.2.1, u9.2.2.2.2.2.2.2.1) = mmA nu.toInt32 (VS.s_bO (VS.s_bT (VS.s_bN (VS.s_bA (VS.s_ahb (VS.s_aro x u9.2.1) u9.2.2.2.2.2.2.2.2.2.2.2.2.1) u9.2.2.2.2.1) u9.2.2.2.2.2.1) u9.2.2.2.2.2.2.2.2.2.2.2.2.2.2.1) u9.2.2.2.2.2.2.2.2.2.2.2.2.2.2.2.1) PS u9.2.2.2.2.2.2.2.2.2.2.2.2.2.1 ∧ u9.1 = u9.2.2.2.2.2.2.2.2.2.2.2.2.2.2.2.2.de ∧ rsAll dA x.pl u9.2.2.2.2.2.2.2.2.2.2.2.2.2.2.2.2.rs) (fun (u9 : TB × (Nat → Int32) × (Nat → Bool) × (Nat → Int64) × (Nat → Nat) × Nat × (Nat → Int64) × (Nat → Nat) × (Nat → Option Nat) × TB × (Nat → List LB) × (Nat → Int32) × (Nat → Bool) × TB × (Nat → Int64) × (Nat → Nat) × TB) t9 => bW D A (TbW dA ta u9.1 ++ (VW dA h ad (VS.s_bO (VS.s_bT (VS.s_bN (VS.s_bA (VS.s_abf (VS.s_ahb (VS.s_aro x u9.2.1) u9.2.2.1) u9.2.2.2.1) u9.2.2.2.2.1) u9.2.2.2.2.2.1) u9.2.2.2.2.2.2.1) u9.2.2.2.2.2.2.2.1))) t9) A) (by decide) (Nat.le_of_ble_eq_true rfl) ?_
  intro A p e s m below meth c ls hsz hB
  obtain ⟨hx, hb, hr, hml, hown, hin, hlk, hE, hK, hP, hD, hS, hA, hN, hl⟩ := hB
  have hown : s.vm.findClass "SeriesVault$Answers" = some m.cls := hown
  have hl : lv_has ls 7 [(0, .ref (ad 24)), (1, .ref sp), (2, .ref (ta 0)), (3, .ref (ad 17)), (4, .ref (ad 3)), (5, .ref (ad 1))] := hl
  obtain ⟨H, hH⟩ : ∃ z, z = s.heap := ⟨_, rfl⟩
  have hP : va_P D vwCl (TbW dA ta t ++ (VW dA h ad x)) H := by rw [hH]; exact hP
  have hS : va_S A s.heap H [] := by rw [hH]; exact hS
  rw [← hH]
  have hsc := hst
  obtain ⟨na, ln, lt, mk, cap, kN, fn, fk, j1, -⟩ := hsc
  refine lv_aload_n hx hb d_A_pick_0 rfl (lv_at hl 2 rfl) ?_
  refine lv_aload_n hx hb d_A_pick_1 rfl (lv_at hl 1 rfl) ?_
  refine lv_aload_n hx hb d_A_pick_2 rfl (lv_at hl 0 rfl) ?_
  refine gF (v := .int (nI x.awi)) hx hb hown hE hK hP 42 rfl rfl layA 9 (by decide) w1503 rfl d_A_pick_3 ?_
  refine jkV (wr := []) (rnV (As := [.ref sp, .int (nI x.awi)]) (rest := []) hx hb hml hown hE hK (hN _ _ hS) hP hD (v_TbeginRows2 l D dA H.size (VW dA h ad x) ta t sp x.awi kd pl nu nn NL n KD MN MT x.pl (fun _ hm => (plm hm)) hst) (q0 := 0) rfl rfl w1693 w1692 w1694 w1695 w807 rfl rfl ⟨⟨by decide, by decide⟩, rfl⟩ ⟨(Nat.le_of_ble_eq_true rfl), (Nat.le_of_ble_eq_true rfl)⟩ rfl hl.1 rfl (Nat.le_of_ble_eq_true rfl) d_A_pick_6 ⟨(show 0 + 0 ≤ 3 by omega), (show 0 + 0 ≤ pkS (pkG NL n KD MN MT SS x.kn (TB.s_rc (TB.s_wi (TB.s_nc t nn) x.awi) 0, fun _ => [], x.aro, x.ahb) x.nser).1.rc x.awi t.cN x.bN by omega)⟩) hP hD hS hA (fun u2 H locs hp9 hP hD hS => ?_)
  obtain ⟨nx, h9u⟩ : ∃ z9, z9 = u2 := ⟨_, rfl⟩
  subst h9u
  have hP : va_P D vwCl (TbW dA ta (TB.s_rc (TB.s_wi (TB.s_nc (TB.s_nm t nx) nn) x.awi) 0) ++ (VW dA h ad x)) H := hP
  have hD : va_D A (TbW dA ta (TB.s_rc (TB.s_wi (TB.s_nc (TB.s_nm t nx) nn) x.awi) 0) ++ (VW dA h ad x)) := hD
  have f_nm_3 := hp9
  refine lv_iconst (v := 0) hx hb d_A_pick_9 (by decide) ?_
  refine lv_istore hx hb d_A_pick_10 hl (by decide) rfl (fun ls hl => ?_)
  have hl : lv_has ls 7 [(6, .int 0), (0, .ref (ad 24)), (1, .ref sp), (2, .ref (ta 0)), (3, .ref (ad 17)), (4, .ref (ad 3)), (5, .ref (ad 1))] := hl
  have L12 : ∀ (k9 : Nat) (i : Nat) (y : TB) (RS : Nat → List LB) (ar : Nat → Int32) (bh : Nat → Bool) (i1 : i ≤ x.nser) (eP : (y, RS, ar, bh) = pkG NL n KD MN MT SS x.kn (TB.s_rc (TB.s_wi (TB.s_nc (TB.s_nm t nx) nn) x.awi) 0, fun _ => [], x.aro, x.ahb) i) (hnx : nmOk dA x.pl nx nn NL) (hrk : rsOk dA x.pl y.rs y.rc RS) (ky : pkK t nn nx x.awi i y) (hra2 : rsAll dA x.pl y.rs) (hk9 : x.nser - i = k9), ∀ (H : Heap) (locs : List Loc) (ls : Array Slot) (hP : va_P D vwCl (TbW dA ta y ++ (VW dA h ad (VS.s_ahb (VS.s_aro x ar) bh))) H) (hD : va_D A (TbW dA ta y ++ (VW dA h ad (VS.s_ahb (VS.s_aro x ar) bh)))) (hS : va_S A s.heap H locs) (hl : lv_has ls 7 [(6, .int (nI i)), (1, .ref sp), (2, .ref (ta 0)), (3, .ref (ad 17)), (4, .ref (ad 3)), (5, .ref (ad 1)), (0, .ref (ad 24))]), W p l e ({ frames := 6, cells := 3, slots := pkS (pkG NL n KD MN MT SS x.kn (TB.s_rc (TB.s_wi (TB.s_nc t nn) x.awi) 0, fun _ => [], x.aro, x.ahb) x.nser).1.rc x.awi t.cN x.bN, locals := 356 } : Room) s m ([.ref (ad 24), .ref sp, .ref (ta 0), .ref (ad 17), .ref (ad 3), .ref (ad 1)] : List Value).toArray below meth c H locs (0 + 0) (0 + 0) (MQ below (va_Qv (fun (u9 : TB × (Nat → Int32) × (Nat → Bool) × (Nat → Int64) × (Nat → Nat) × Nat × (Nat → Int64) × (Nat → Nat) × (Nat → Option Nat) × TB × (Nat → List LB) × (Nat → Int32) × (Nat → Bool) × TB × (Nat → Int64) × (Nat → Nat) × TB) => nmOk dA x.pl u9.2.2.2.2.2.2.2.2.1 nn NL ∧ (u9.2.2.2.2.2.2.2.2.2.1, u9.2.2.2.2.2.2.2.2.2.2.1, u9.2.2.2.2.2.2.2.2.2.2.2.1, u9.2.2.2.2.2.2.2.2.2.2.2.2.1) = pkG NL n KD MN MT SS x.kn (TB.s_rc (TB.s_wi (TB.s_nc (TB.s_nm t u9.2.2.2.2.2.2.2.2.1) nn) x.awi) 0, fun _ => [], x.aro, x.ahb) x.nser ∧ u9.2.1 = pkR NL SS u9.2.2.2.2.2.2.2.2.2.1.nc u9.2.2.2.2.2.2.2.2.2.1.rc u9.2.2.2.2.2.2.2.2.2.2.1 u9.2.2.2.2.2.2.2.2.2.2.2.1 x.nser ∧ (∃ q, u9.2.2.2.2.2.2.2.2.2.2.2.2.2.1 = clT u9.2.2.2.2.2.2.2.2.2.1 q) ∧ beR (VS.s_ahb (VS.s_aro x u9.2.1) u9.2.2.2.2.2.2.2.2.2.2.2.2.1) (u9.2.2.2.2.2.2.2.2.2.2.2.2.2.1.rc * x.awi) (u9.2.2.2.2.1, u9.2.2.2.2.2.1, u9.2.2.2.2.2.2.2.2.2.2.2.2.2.2.1, u9.2.2.2.2.2.2.2.2.2.2.2.2.2.2.2.1) ∧ (u9.2.2.2.2.2.2.2.2.2.2.2.2.2.2.2.2, u9.2.2.1, u9.2.2.2.1, u9.2.2.2.2.2.2.1, u9.2.2.2.2.2.2.2.1) = mmA nu.toInt32 (VS.s_bO (VS.s_bT (VS.s_bN (VS.s_bA (VS.s_ahb (VS.s_aro x u9.2.1) u9.2.2.2.2.2.2.2.2.2.2.2.2.1) u9.2.2.2.2.1) u9.2.2.2.2.2.1) u9.2.2.2.2.2.2.2.2.2.2.2.2.2.2.1) u9.2.2.2.2.2.2.2.2.2.2.2.2.2.2.2.1) PS u9.2.2.2.2.2.2.2.2.2.2.2.2.2.1 ∧ u9.1 = u9.2.2.2.2.2.2.2.2.2.2.2.2.2.2.2.2.de ∧ rsAll dA x.pl u9.2.2.2.2.2.2.2.2.2.2.2.2.2.2.2.2.rs) (fun (u9 : TB × (Nat → Int32) × (Nat → Bool) × (Nat → Int64) × (Nat → Nat) × Nat × (Nat → Int64) × (Nat → Nat) × (Nat → Option Nat) × TB × (Nat → List LB) × (Nat → Int32) × (Nat → Bool) × TB × (Nat → Int64) × (Nat → Nat) × TB) t9 => bW D A (TbW dA ta u9.1 ++ (VW dA h ad (VS.s_bO (VS.s_bT (VS.s_bN (VS.s_bA (VS.s_abf (VS.s_ahb (VS.s_aro x u9.2.1) u9.2.2.1) u9.2.2.2.1) u9.2.2.2.2.1) u9.2.2.2.2.2.1) u9.2.2.2.2.2.2.1) u9.2.2.2.2.2.2.2.1))) t9) A) ([.ref (ad 24), .ref sp, .ref (ta 0), .ref (ad 17), .ref (ad 3), .ref (ad 1)] : List Value).toArray s 3 (pkS (pkG NL n KD MN MT SS x.kn (TB.s_rc (TB.s_wi (TB.s_nc t nn) x.awi) 0, fun _ => [], x.aro, x.ahb) x.nser).1.rc x.awi t.cN x.bN) A) (F0 m 12 ls []) := by
    intro k9
    induction k9 using Nat.strongRecOn with
    | ind k9 ih12 =>
      intro i y RS ar bh i1 eP hnx hrk ky hra2 hk9 H locs ls hP hD hS hl
      have hny : nmOk dA x.pl y.nm y.nc NL := by rw [ky.2.2.1, ky.2.1]; exact hnx
      have hnc6 : y.nc ≤ 6 := by rw [ky.2.1]; exact hnn
      refine lv_iload hx hb d_A_pick_12 (lv_at hl 0 rfl) ?_
      refine lv_aload hx hb d_A_pick_14 (lv_at hl 4 rfl) ?_
      refine gFN (v := .int (nI x.nser)) hx hb hown hE hK hP 22 rfl rfl layH 8 (by decide) w1696 rfl d_A_pick_16 ?_
      refine lv_icmp_ge hx hb d_A_pick_19 (tgt := 71) rfl (fun g4 => ?_) (fun g4 => ?_)
      · have g4 := (nI_leI (a := x.nser) (b := i) (by omega) (by omega)).mp g4
        refine lv_iconst (v := 0) hx hb d_A_pick_71 (by decide) ?_
        refine lv_istore hx hb d_A_pick_72 hl (by decide) rfl (fun ls hl => ?_)
        have hl : lv_has ls 7 [(6, .int 0), (1, .ref sp), (2, .ref (ta 0)), (3, .ref (ad 17)), (4, .ref (ad 3)), (5, .ref (ad 1)), (0, .ref (ad 24))] := hl
        have L74 : ∀ (k9 : Nat) (j : Nat) (ar2 : Nat → Int32) (k1 : j ≤ x.nser) (e2 : ar2 = pkR NL SS y.nc y.rc RS ar j) (hk9 : x.nser - j = k9), ∀ (H : Heap) (locs : List Loc) (ls : Array Slot) (hP : va_P D vwCl (TbW dA ta y ++ (VW dA h ad (VS.s_ahb (VS.s_aro x ar2) bh))) H) (hD : va_D A (TbW dA ta y ++ (VW dA h ad (VS.s_ahb (VS.s_aro x ar2) bh)))) (hS : va_S A s.heap H locs) (hl : lv_has ls 7 [(6, .int (nI j)), (1, .ref sp), (2, .ref (ta 0)), (3, .ref (ad 17)), (4, .ref (ad 3)), (5, .ref (ad 1)), (0, .ref (ad 24))]), W p l e ({ frames := 6, cells := 3, slots := pkS (pkG NL n KD MN MT SS x.kn (TB.s_rc (TB.s_wi (TB.s_nc t nn) x.awi) 0, fun _ => [], x.aro, x.ahb) x.nser).1.rc x.awi t.cN x.bN, locals := 356 } : Room) s m ([.ref (ad 24), .ref sp, .ref (ta 0), .ref (ad 17), .ref (ad 3), .ref (ad 1)] : List Value).toArray below meth c H locs (0 + 0) (0 + 0) (MQ below (va_Qv (fun (u9 : TB × (Nat → Int32) × (Nat → Bool) × (Nat → Int64) × (Nat → Nat) × Nat × (Nat → Int64) × (Nat → Nat) × (Nat → Option Nat) × TB × (Nat → List LB) × (Nat → Int32) × (Nat → Bool) × TB × (Nat → Int64) × (Nat → Nat) × TB) => nmOk dA x.pl u9.2.2.2.2.2.2.2.2.1 nn NL ∧ (u9.2.2.2.2.2.2.2.2.2.1, u9.2.2.2.2.2.2.2.2.2.2.1, u9.2.2.2.2.2.2.2.2.2.2.2.1, u9.2.2.2.2.2.2.2.2.2.2.2.2.1) = pkG NL n KD MN MT SS x.kn (TB.s_rc (TB.s_wi (TB.s_nc (TB.s_nm t u9.2.2.2.2.2.2.2.2.1) nn) x.awi) 0, fun _ => [], x.aro, x.ahb) x.nser ∧ u9.2.1 = pkR NL SS u9.2.2.2.2.2.2.2.2.2.1.nc u9.2.2.2.2.2.2.2.2.2.1.rc u9.2.2.2.2.2.2.2.2.2.2.1 u9.2.2.2.2.2.2.2.2.2.2.2.1 x.nser ∧ (∃ q, u9.2.2.2.2.2.2.2.2.2.2.2.2.2.1 = clT u9.2.2.2.2.2.2.2.2.2.1 q) ∧ beR (VS.s_ahb (VS.s_aro x u9.2.1) u9.2.2.2.2.2.2.2.2.2.2.2.2.1) (u9.2.2.2.2.2.2.2.2.2.2.2.2.2.1.rc * x.awi) (u9.2.2.2.2.1, u9.2.2.2.2.2.1, u9.2.2.2.2.2.2.2.2.2.2.2.2.2.2.1, u9.2.2.2.2.2.2.2.2.2.2.2.2.2.2.2.1) ∧ (u9.2.2.2.2.2.2.2.2.2.2.2.2.2.2.2.2, u9.2.2.1, u9.2.2.2.1, u9.2.2.2.2.2.2.1, u9.2.2.2.2.2.2.2.1) = mmA nu.toInt32 (VS.s_bO (VS.s_bT (VS.s_bN (VS.s_bA (VS.s_ahb (VS.s_aro x u9.2.1) u9.2.2.2.2.2.2.2.2.2.2.2.2.1) u9.2.2.2.2.1) u9.2.2.2.2.2.1) u9.2.2.2.2.2.2.2.2.2.2.2.2.2.2.1) u9.2.2.2.2.2.2.2.2.2.2.2.2.2.2.2.1) PS u9.2.2.2.2.2.2.2.2.2.2.2.2.2.1 ∧ u9.1 = u9.2.2.2.2.2.2.2.2.2.2.2.2.2.2.2.2.de ∧ rsAll dA x.pl u9.2.2.2.2.2.2.2.2.2.2.2.2.2.2.2.2.rs) (fun (u9 : TB × (Nat → Int32) × (Nat → Bool) × (Nat → Int64) × (Nat → Nat) × Nat × (Nat → Int64) × (Nat → Nat) × (Nat → Option Nat) × TB × (Nat → List LB) × (Nat → Int32) × (Nat → Bool) × TB × (Nat → Int64) × (Nat → Nat) × TB) t9 => bW D A (TbW dA ta u9.1 ++ (VW dA h ad (VS.s_bO (VS.s_bT (VS.s_bN (VS.s_bA (VS.s_abf (VS.s_ahb (VS.s_aro x u9.2.1) u9.2.2.1) u9.2.2.2.1) u9.2.2.2.2.1) u9.2.2.2.2.2.1) u9.2.2.2.2.2.2.1) u9.2.2.2.2.2.2.2.1))) t9) A) ([.ref (ad 24), .ref sp, .ref (ta 0), .ref (ad 17), .ref (ad 3), .ref (ad 1)] : List Value).toArray s 3 (pkS (pkG NL n KD MN MT SS x.kn (TB.s_rc (TB.s_wi (TB.s_nc t nn) x.awi) 0, fun _ => [], x.aro, x.ahb) x.nser).1.rc x.awi t.cN x.bN) A) (F0 m 74 ls []) := by
          intro k9
          induction k9 using Nat.strongRecOn with
          | ind k9 ih74 =>
            intro j ar2 k1 e2 hk9 H locs ls hP hD hS hl
            refine lv_iload hx hb d_A_pick_74 (lv_at hl 0 rfl) ?_
            refine lv_aload hx hb d_A_pick_76 (lv_at hl 4 rfl) ?_
            refine gFN (v := .int (nI x.nser)) hx hb hown hE hK hP 22 rfl rfl layH 8 (by decide) w1696 rfl d_A_pick_78 ?_
            refine lv_icmp_ge hx hb d_A_pick_81 (tgt := 116) rfl (fun g5 => ?_) (fun g5 => ?_)
            · have g5 := (nI_leI (a := x.nser) (b := j) (by omega) (by omega)).mp g5
              refine lv_aload_n hx hb d_A_pick_116 rfl (lv_at hl 2 rfl) ?_
              have eP9 : (y, RS, ar, bh) = pkG NL n KD MN MT SS x.kn (TB.s_rc (TB.s_wi (TB.s_nc (TB.s_nm t nx) nn) x.awi) 0, fun _ => [], x.aro, x.ahb) x.nser := by rw [eP, show i = x.nser by omega]
              have erc : y.rc = (pkG NL n KD MN MT SS x.kn (TB.s_rc (TB.s_wi (TB.s_nc t nn) x.awi) 0, fun _ => [], x.aro, x.ahb) x.nser).1.rc := by have e9 := congrArg (fun q : PKS => q.1.rc) (eP9.trans (pkG_nm NL n KD MN MT SS x.kn (TB.s_rc (TB.s_wi (TB.s_nc t nn) x.awi) 0) (fun _ => []) x.aro x.ahb nx x.nser)); exact e9
              have sl1 : clS y = (if (pkG NL n KD MN MT SS x.kn (TB.s_rc (TB.s_wi (TB.s_nc t nn) x.awi) 0, fun _ => [], x.aro, x.ahb) x.nser).1.rc * x.awi ≤ t.cN then 0 else max ((pkG NL n KD MN MT SS x.kn (TB.s_rc (TB.s_wi (TB.s_nc t nn) x.awi) 0, fun _ => [], x.aro, x.ahb) x.nser).1.rc * x.awi) (2 * t.cN)) := by unfold clS; rw [ky.2.2.2.1, ky.2.2.2.2.1, erc]
              have sl0 : clS y ≤ pkS (pkG NL n KD MN MT SS x.kn (TB.s_rc (TB.s_wi (TB.s_nc t nn) x.awi) 0, fun _ => [], x.aro, x.ahb) x.nser).1.rc x.awi t.cN x.bN := by rw [sl1]; exact Nat.le_add_right _ _
              have hm1 : y.rc * y.wi ≤ 16384 := by rw [ky.2.2.2.1]; exact rw_le ky.1 hwi
              have eP9 : (y, RS, ar, bh) = pkG NL n KD MN MT SS x.kn (TB.s_rc (TB.s_wi (TB.s_nc (TB.s_nm t nx) nn) x.awi) 0, fun _ => [], x.aro, x.ahb) x.nser := by rw [eP, show i = x.nser by omega]
              have erc : y.rc = (pkG NL n KD MN MT SS x.kn (TB.s_rc (TB.s_wi (TB.s_nc t nn) x.awi) 0, fun _ => [], x.aro, x.ahb) x.nser).1.rc := by have e9 := congrArg (fun q : PKS => q.1.rc) (eP9.trans (pkG_nm NL n KD MN MT SS x.kn (TB.s_rc (TB.s_wi (TB.s_nc t nn) x.awi) 0) (fun _ => []) x.aro x.ahb nx x.nser)); exact e9
              have sl1 : clS y = (if (pkG NL n KD MN MT SS x.kn (TB.s_rc (TB.s_wi (TB.s_nc t nn) x.awi) 0, fun _ => [], x.aro, x.ahb) x.nser).1.rc * x.awi ≤ t.cN then 0 else max ((pkG NL n KD MN MT SS x.kn (TB.s_rc (TB.s_wi (TB.s_nc t nn) x.awi) 0, fun _ => [], x.aro, x.ahb) x.nser).1.rc * x.awi) (2 * t.cN)) := by unfold clS; rw [ky.2.2.2.1, ky.2.2.2.2.1, erc]
              have sl0 : clS y ≤ pkS (pkG NL n KD MN MT SS x.kn (TB.s_rc (TB.s_wi (TB.s_nc t nn) x.awi) 0, fun _ => [], x.aro, x.ahb) x.nser).1.rc x.awi t.cN x.bN := by rw [sl1]; exact Nat.le_add_right _ _
              have hm1 : y.rc * y.wi ≤ 16384 := by rw [ky.2.2.2.1]; exact rw_le ky.1 hwi
              refine jkV (wr := []) (rnV (As := []) (rest := []) hx hb hml hown hE hK (hN _ _ hS) hP hD (v_TclearQ l D dA H.size (VW dA h ad (VS.s_ahb (VS.s_aro x ar2) bh)) ta y (by rw [ky.2.2.2.2.1]; exact hcN) ky.1 hm1) (q0 := 0) rfl rfl w1429 w1697 w1430 w1431 w807 rfl rfl ⟨⟨by decide, by decide⟩, rfl⟩ ⟨(Nat.le_of_ble_eq_true rfl), (Nat.le_of_ble_eq_true rfl)⟩ rfl hl.1 rfl (Nat.le_of_ble_eq_true rfl) d_A_pick_117 ⟨(show 0 + 0 + 1 ≤ 3 by omega), (show 0 + 0 + (clS y) ≤ pkS (pkG NL n KD MN MT SS x.kn (TB.s_rc (TB.s_wi (TB.s_nc t nn) x.awi) 0, fun _ => [], x.aro, x.ahb) x.nser).1.rc x.awi t.cN x.bN by omega)⟩) hP hD hS hA (fun u7 H locs hp9 hP hD hS => ?_)
              obtain ⟨y2, h9u⟩ : ∃ z9, z9 = u7 := ⟨_, rfl⟩
              subst h9u
              have hP : va_P D vwCl (TbW dA ta y2 ++ (VW dA h ad (VS.s_ahb (VS.s_aro x ar2) bh))) H := hP
              have hD : va_D A (TbW dA ta y2 ++ (VW dA h ad (VS.s_ahb (VS.s_aro x ar2) bh))) := hD
              have f_e_8 := hp9
              refine lv_aload_n hx hb d_A_pick_120 rfl (lv_at hl 6 rfl) ?_
              refine lv_aload_n hx hb d_A_pick_121 rfl (lv_at hl 2 rfl) ?_
              obtain ⟨q9, ec⟩ := f_e_8
              have sl2 : clS y + beS (VS.s_ahb (VS.s_aro x ar2) bh) (y2.rc * x.awi) ≤ pkS (pkG NL n KD MN MT SS x.kn (TB.s_rc (TB.s_wi (TB.s_nc t nn) x.awi) 0, fun _ => [], x.aro, x.ahb) x.nser).1.rc x.awi t.cN x.bN := by rw [sl1, show y2.rc = y.rc by rw [ec]; exact (clT_k y q9).2.1, erc]; exact Nat.le_refl _
              have kc := clT_k y q9
              rw [← ec] at kc
              have kc2 : y2.cN ≤ 65536 := by rw [ec]; exact clT_c (by rw [ky.2.2.2.2.1]; exact hcN) hm1
              have hm2 : y2.rc * x.awi ≤ 16384 := by rw [kc.2.1]; exact rw_le ky.1 hwi
              refine gFN (v := .int (nI y2.rc)) hx hb hown hE hK hP 0 rfl rfl layT 3 (by decide) w1698 rfl d_A_pick_122 ?_
              refine lv_aload_n hx hb d_A_pick_125 rfl (lv_at hl 6 rfl) ?_
              refine gF (v := .int (nI x.awi)) hx hb hown hE hK hP 42 rfl rfl layA 9 (by decide) w1503 rfl d_A_pick_126 ?_
              refine lv_imul hx hb d_A_pick_129 (tpi (y := nI (y2.rc * x.awi)) (pk_mul (y2.rc) (x.awi)) ?_)
              have hPc : va_P D vwCl (VW dA h ad (VS.s_ahb (VS.s_aro x ar2) bh)) H := spP (wr := TbW dA ta y2) hP
              have hDc : va_D A (VW dA h ad (VS.s_ahb (VS.s_aro x ar2) bh)) := spD (wr := TbW dA ta y2) hD
              refine jkV (wr := TbW dA ta y2) (rnV (As := [.int (nI (y2.rc * x.awi))]) (rest := []) hx hb hml hown hE hK (hN _ _ hS) hPc hDc (v_bestQ l D dA H.size h ad (VS.s_ahb (VS.s_aro x ar2) bh) (y2.rc * x.awi) h5 hm2) (q0 := 37) rfl rfl w1700 w1699 w1701 w1702 w846 rfl rfl ⟨⟨by decide, by decide⟩, rfl⟩ ⟨(Nat.le_of_ble_eq_true rfl), (Nat.le_of_ble_eq_true rfl)⟩ rfl hl.1 rfl (Nat.le_of_ble_eq_true rfl) d_A_pick_130 ⟨(show 0 + 0 + 1 + 2 ≤ 3 by omega), (show 0 + 0 + (clS y) + (beS (VS.s_ahb (VS.s_aro x ar2) bh) (y2.rc * x.awi)) ≤ pkS (pkG NL n KD MN MT SS x.kn (TB.s_rc (TB.s_wi (TB.s_nc t nn) x.awi) 0, fun _ => [], x.aro, x.ahb) x.nser).1.rc x.awi t.cN x.bN by omega)⟩) hP hD hS hA (fun u10 H locs hp9 hP hD hS => ?_)
              obtain ⟨qA, qN, qT, qO⟩ := u10
              have hP : va_P D vwCl (TbW dA ta y2 ++ (VW dA h ad (VS.s_bO (VS.s_bT (VS.s_bN (VS.s_bA (VS.s_ahb (VS.s_aro x ar2) bh) qA) qN) qT) qO))) H := hP
              have hD : va_D A (TbW dA ta y2 ++ (VW dA h ad (VS.s_bO (VS.s_bT (VS.s_bN (VS.s_bA (VS.s_ahb (VS.s_aro x ar2) bh) qA) qN) qT) qO))) := hD
              have f_e_11 := hp9
              refine lv_aload_n hx hb d_A_pick_133 rfl (lv_at hl 6 rfl) ?_
              refine lv_aload_n hx hb d_A_pick_134 rfl (lv_at hl 1 rfl) ?_
              have hbe := f_e_11
              obtain ⟨bk1, bk2, bk3⟩ := beR_k hbe h5 hm2 h6
              obtain ⟨qp12, ep13⟩ := List.getElem?_of_mem (show ((sp, .inr (13, [.int kd, .int (nI pl), .long nu, .ref na, .int (nI nn), .ref ln, .ref lt, .ref mk])) : Nat × va_E) ∈ TbW dA ta y2 ++ (VW dA h ad (VS.s_bO (VS.s_bT (VS.s_bN (VS.s_bA (VS.s_ahb (VS.s_aro x ar2) bh) qA) qN) qT) qO)) from (List.mem_append_right _ (plm j1)))
              refine gFN (v := .long nu) hx hb hown hE hK hP qp12 ep13 rfl layE 2 (by decide) w1703 rfl d_A_pick_135 ?_
              refine lv_l2i hx hb d_A_pick_138 rfl ?_
              refine lv_aload_n hx hb d_A_pick_139 rfl (lv_at hl 2 rfl) ?_
              refine lv_aload hx hb d_A_pick_140 (lv_at hl 4 rfl) ?_
              refine lv_aload hx hb d_A_pick_142 (lv_at hl 5 rfl) ?_
              refine jkV (wr := []) (rnV (As := [.int nu.toInt32, .ref (ta 0), .ref (ad 3), .ref (ad 1)]) (rest := []) hx hb hml hown hE hK (hN _ _ hS) hP hD (v_meetPoints l D dA H.size h ad ta y2 (VS.s_bO (VS.s_bT (VS.s_bN (VS.s_bA (VS.s_ahb (VS.s_aro x ar2) bh) qA) qN) qT) qO) nu.toInt32 PS hwi (by rw [kc.2.1]; exact ky.1) kc2 (kc.1.trans ky.2.2.2.1) (by rw [kc.2.1, kc.1]; exact kc.2.2.2.2.2) bk1 bk2 bk3 hfn hps hpn hs1 hs7 hns (fun o ho => by rw [show y2.rc = y.rc from kc.2.1]; rw [show j = x.nser by omega] at e2; show ar2 o = (-1) ∨ _; rw [e2]; exact pkR_c ho) hpo hho hhz hhN) (q0 := 42) rfl rfl w1705 w1704 w1706 w1707 w846 rfl rfl ⟨⟨by decide, by decide⟩, rfl⟩ ⟨(Nat.le_of_ble_eq_true rfl), (Nat.le_of_ble_eq_true rfl)⟩ rfl hl.1 rfl (Nat.le_of_ble_eq_true rfl) d_A_pick_144 ⟨(show 0 + 0 + 1 + 2 + 0 ≤ 3 by omega), (show 0 + 0 + (clS y) + (beS (VS.s_ahb (VS.s_aro x ar2) bh) (y2.rc * x.awi)) + 0 ≤ pkS (pkG NL n KD MN MT SS x.kn (TB.s_rc (TB.s_wi (TB.s_nc t nn) x.awi) 0, fun _ => [], x.aro, x.ahb) x.nser).1.rc x.awi t.cN x.bN by omega)⟩) hP hD hS hA (fun u15 H locs hp9 hP hD hS => ?_)
              obtain ⟨y8, bh9, bf9, bt9, bo9⟩ := u15
              have hP : va_P D vwCl (TbW dA ta y8 ++ (VW dA h ad (VS.s_bO (VS.s_bT (VS.s_bN (VS.s_bA (VS.s_abf (VS.s_ahb (VS.s_aro x ar2) bh9) bf9) qA) qN) bt9) bo9))) H := hP
              have hD : va_D A (TbW dA ta y8 ++ (VW dA h ad (VS.s_bO (VS.s_bT (VS.s_bN (VS.s_bA (VS.s_abf (VS.s_ahb (VS.s_aro x ar2) bh9) bf9) qA) qN) bt9) bo9))) := hD
              have f_e_16 := hp9
              refine lv_aload_n hx hb d_A_pick_147 rfl (lv_at hl 2 rfl) ?_
              have e58 := f_e_16
              have k8 : kept y2 y8 := by have e9 := mmA_k nu.toInt32 (VS.s_bO (VS.s_bT (VS.s_bN (VS.s_bA (VS.s_ahb (VS.s_aro x ar2) bh) qA) qN) qT) qO) PS y2; rw [← e58] at e9; exact e9
              have ra8 : rsAll dA x.pl y8.rs := by rw [k8.2.2.2, kc.2.2.1]; exact hra2
              refine jkV (wr := []) (rnV (As := []) (rest := []) hx hb hml hown hE hK (hN _ _ hS) hP hD (v_TdropEmptyRows l D dA H.size (VW dA h ad (VS.s_bO (VS.s_bT (VS.s_bN (VS.s_bA (VS.s_abf (VS.s_ahb (VS.s_aro x ar2) bh9) bf9) qA) qN) bt9) bo9)) ta y8 (by rw [k8.2.2.1]; exact kc2) (rsAll_m (fun _ hm => (plm hm)) ra8) (by rw [k8.2.1, k8.1, k8.2.2.1, kc.2.1, kc.1]; exact kc.2.2.2.2.2) (by rw [k8.2.1, kc.2.1]; exact ky.1)) (q0 := 0) rfl rfl w1437 w1708 w1438 w1439 w807 rfl rfl ⟨⟨by decide, by decide⟩, rfl⟩ ⟨(Nat.le_of_ble_eq_true rfl), (Nat.le_of_ble_eq_true rfl)⟩ rfl hl.1 rfl (Nat.le_of_ble_eq_true rfl) d_A_pick_148 ⟨(show 0 + 0 + 1 + 2 + 0 + 0 ≤ 3 by omega), (show 0 + 0 + (clS y) + (beS (VS.s_ahb (VS.s_aro x ar2) bh) (y2.rc * x.awi)) + 0 + 0 ≤ pkS (pkG NL n KD MN MT SS x.kn (TB.s_rc (TB.s_wi (TB.s_nc t nn) x.awi) 0, fun _ => [], x.aro, x.ahb) x.nser).1.rc x.awi t.cN x.bN by omega)⟩) hP hD hS hA (fun u18 H locs hp9 hP hD hS => ?_)
              obtain ⟨y9, h9u⟩ : ∃ z9, z9 = u18 := ⟨_, rfl⟩
              subst h9u
              have hP : va_P D vwCl (TbW dA ta y9 ++ (VW dA h ad (VS.s_bO (VS.s_bT (VS.s_bN (VS.s_bA (VS.s_abf (VS.s_ahb (VS.s_aro x ar2) bh9) bf9) qA) qN) bt9) bo9))) H := hP
              have hD : va_D A (TbW dA ta y9 ++ (VW dA h ad (VS.s_bO (VS.s_bT (VS.s_bN (VS.s_bA (VS.s_abf (VS.s_ahb (VS.s_aro x ar2) bh9) bf9) qA) qN) bt9) bo9))) := hD
              have f_e_19 := hp9
              exact rfV hx hb hr hlk hS (⟨y9, ar2, bh9, bf9, qA, qN, bt9, bo9, nx, y, RS, ar, bh, y2, qT, qO, y8⟩) ⟨hnx, eP9, (by rw [e2, show j = x.nser by omega]), ⟨q9, ec⟩, hbe, e58, f_e_19, ra8⟩ hP hD (show 0 + 0 + 1 + 2 + 0 + 0 ≤ 3 by omega) (show 0 + 0 + (clS y) + (beS (VS.s_ahb (VS.s_aro x ar2) bh) (y2.rc * x.awi)) + 0 + 0 ≤ pkS (pkG NL n KD MN MT SS x.kn (TB.s_rc (TB.s_wi (TB.s_nc t nn) x.awi) 0, fun _ => [], x.aro, x.ahb) x.nser).1.rc x.awi t.cN x.bN by omega) d_A_pick_151
            · have g5 := mt (nI_leI (a := x.nser) (b := j) (by omega) (by omega)).mpr g5
              refine lv_aload_n hx hb d_A_pick_84 rfl (lv_at hl 6 rfl) ?_
              refine gF (v := .ref (ad 26)) hx hb hown hE hK hP 42 rfl rfl layA 2 (by decide) w800 rfl d_A_pick_85 ?_
              refine lv_iload hx hb d_A_pick_88 (lv_at hl 0 rfl) ?_
              refine nild (f := ar2) (n := 256) hx hb hK hP (43) 1 rfl rfl (j) (by omega) (by decide) d_A_pick_90 ?_
              refine lv_iconst (v := (-1)) hx hb d_A_pick_91 (by decide) ?_
              refine lv_icmp_eq hx hb d_A_pick_92 (tgt := 110) rfl (fun g20 => ?_) (fun g20 => ?_)
              · have g20 := g20
                refine lv_iinc (k := 0) (v := nI (j + 1)) hx hb d_A_pick_110 hl rfl (iincN (j) 1 1 (by decide)) (by decide) rfl (fun ls hl => ?_)
                have hl : lv_has ls 7 [(6, .int (nI (j + 1))), (1, .ref sp), (2, .ref (ta 0)), (3, .ref (ad 17)), (4, .ref (ad 3)), (5, .ref (ad 1)), (0, .ref (ad 24))] := hl
                refine lv_goto hx hb d_A_pick_113 (tgt := 74) rfl ?_
                exact ih74 _ (by omega) (j + 1) ar2 (by omega) (by rw [pkR_t (by rw [← e2]; exact g20)]; exact e2) rfl H _ ls hP hD hS (lv_sub hl [0, 1, 2, 3, 4, 5, 6] rfl)
              · have g20 := g20
                refine lv_aload_n hx hb d_A_pick_95 rfl (lv_at hl 6 rfl) ?_
                refine gF (v := .ref (ad 26)) hx hb hown hE hK hP 42 rfl rfl layA 2 (by decide) w800 rfl d_A_pick_96 ?_
                refine lv_iload hx hb d_A_pick_99 (lv_at hl 0 rfl) ?_
                refine lv_aload_n hx hb d_A_pick_101 rfl (lv_at hl 2 rfl) ?_
                obtain ⟨a1, ke, hs1, ho1⟩ := hkn j (by omega)
                have hs1c := hs1
                obtain ⟨na1, va1, no1, tx1, fn1, fv1, g1a, -⟩ := hs1c
                refine lv_aload_n hx hb d_A_pick_102 rfl (lv_at hl 3 rfl) ?_
                refine lv_iload hx hb d_A_pick_103 (lv_at hl 0 rfl) ?_
                refine nqld (f := x.kn) (n := 256) hx hb hK hP (36) 5 rfl rfl (j) (by omega) (by decide) ke d_A_pick_105 ?_
                refine jkI (wr := []) (rnV (As := [.ref a1]) (rest := [.int (nI j), .ref (ad 26)]) hx hb hml hown hE hK (hN _ _ hS) hP hD (v_TrowOf l D dA H.size (VW dA h ad (VS.s_ahb (VS.s_aro x ar2) bh)) ta y NL RS a1 (SS j) (nmOk_m (fun _ hm => (plm hm)) hny) hnc6 (rsOk_m (fun _ hm => (plm hm)) hrk) (isSer_m (fun _ hm => (plm hm)) hs1) ho1 ky.1) (q0 := 0) rfl rfl w1710 w1709 w1711 w1712 w807 rfl rfl ⟨⟨by decide, by decide⟩, rfl⟩ ⟨(Nat.le_of_ble_eq_true rfl), (Nat.le_of_ble_eq_true rfl)⟩ rfl hl.1 rfl (Nat.le_of_ble_eq_true rfl) d_A_pick_106 ⟨(show 0 + 0 + 0 ≤ 3 by omega), (show 0 + 0 + 0 ≤ pkS (pkG NL n KD MN MT SS x.kn (TB.s_rc (TB.s_wi (TB.s_nc t nn) x.awi) 0, fun _ => [], x.aro, x.ahb) x.nser).1.rc x.awi t.cN x.bN by omega)⟩) hP hD hS hA (fun r21 u22 H locs hp9 hP hD hS => ?_)
                have hP : va_P D vwCl (TbW dA ta y ++ (VW dA h ad (VS.s_ahb (VS.s_aro x ar2) bh))) H := hP
                have hD : va_D A (TbW dA ta y ++ (VW dA h ad (VS.s_ahb (VS.s_aro x ar2) bh))) := hD
                replace hp9 : roT NL y.nc y.rc RS (SS j) = r21 := Eq.symm hp9
                subst hp9
                refine nist (n := 256) hx hb hK hP hD hS (43) 1 rfl rfl (j) (by omega) (by decide) d_A_pick_109 (fun H locs hP hD hS => ?_)
                have hP : va_P D vwCl (TbW dA ta y ++ (VW dA h ad (VS.s_ahb (VS.s_aro x (va_up ar2 j (roT NL y.nc y.rc RS (SS j)))) bh))) H := hP
                have hD : va_D A (TbW dA ta y ++ (VW dA h ad (VS.s_ahb (VS.s_aro x (va_up ar2 j (roT NL y.nc y.rc RS (SS j)))) bh))) := hD
                refine lv_iinc (k := 0) (v := nI (j + 1)) hx hb d_A_pick_110 hl rfl (iincN (j) 1 1 (by decide)) (by decide) rfl (fun ls hl => ?_)
                have hl : lv_has ls 7 [(6, .int (nI (j + 1))), (1, .ref sp), (2, .ref (ta 0)), (3, .ref (ad 17)), (4, .ref (ad 3)), (5, .ref (ad 1)), (0, .ref (ad 24))] := hl
                refine lv_goto hx hb d_A_pick_113 (tgt := 74) rfl ?_
                exact ih74 _ (by omega) (j + 1) (va_up ar2 j (roT NL y.nc y.rc RS (SS j))) (by omega) (by rw [pkR_f (by rw [← e2]; exact g20), ← e2]) rfl H _ ls hP hD hS (lv_sub hl [0, 1, 2, 3, 4, 5, 6] rfl)
        exact L74 _ 0 ar (Nat.zero_le _) rfl rfl H _ ls hP hD hS (lv_sub hl [0, 1, 2, 3, 4, 5, 6] rfl)
      · have g4 := mt (nI_leI (a := x.nser) (b := i) (by omega) (by omega)).mpr g4
        refine lv_aload_n hx hb d_A_pick_22 rfl (lv_at hl 6 rfl) ?_
        refine gF (v := .ref (ad 26)) hx hb hown hE hK hP 42 rfl rfl layA 2 (by decide) w800 rfl d_A_pick_23 ?_
        refine lv_iload hx hb d_A_pick_26 (lv_at hl 0 rfl) ?_
        refine lv_iconst (v := (-1)) hx hb d_A_pick_28 (by decide) ?_
        refine nist (n := 256) hx hb hK hP hD hS (43) 1 rfl rfl (i) (by omega) (by decide) d_A_pick_29 (fun H locs hP hD hS => ?_)
        have hP : va_P D vwCl (TbW dA ta y ++ (VW dA h ad (VS.s_ahb (VS.s_aro x (va_up ar i (-1))) bh))) H := hP
        have hD : va_D A (TbW dA ta y ++ (VW dA h ad (VS.s_ahb (VS.s_aro x (va_up ar i (-1))) bh))) := hD
        refine lv_aload_n hx hb d_A_pick_30 rfl (lv_at hl 6 rfl) ?_
        refine gF (v := .ref (ad 27)) hx hb hown hE hK hP 42 rfl rfl layA 3 (by decide) w801 rfl d_A_pick_31 ?_
        refine lv_iload hx hb d_A_pick_34 (lv_at hl 0 rfl) ?_
        refine lv_iconst (v := 0) hx hb d_A_pick_36 (by decide) ?_
        refine nzstB (v := false) (n := 256) hx hb hK hP hD hS (44) 3 rfl rfl (i) (by omega) (by decide) d_A_pick_37 (fun H locs hP hD hS => ?_)
        have hP : va_P D vwCl (TbW dA ta y ++ (VW dA h ad (VS.s_ahb (VS.s_aro x (va_up ar i (-1))) (va_up bh i false)))) H := hP
        have hD : va_D A (TbW dA ta y ++ (VW dA h ad (VS.s_ahb (VS.s_aro x (va_up ar i (-1))) (va_up bh i false)))) := hD
        refine lv_aload_n hx hb d_A_pick_38 rfl (lv_at hl 1 rfl) ?_
        obtain ⟨a1, ke, hs1, ho1⟩ := hkn i (by omega)
        have hs1c := hs1
        obtain ⟨na1, va1, no1, tx1, fn1, fv1, g1a, -⟩ := hs1c
        refine lv_aload_n hx hb d_A_pick_39 rfl (lv_at hl 3 rfl) ?_
        refine lv_iload hx hb d_A_pick_40 (lv_at hl 0 rfl) ?_
        refine nqld (f := x.kn) (n := 256) hx hb hK hP (36) 5 rfl rfl (i) (by omega) (by decide) ke d_A_pick_42 ?_
        obtain ⟨qp23, ep24⟩ := List.getElem?_of_mem (show ((sp, .inr (13, [.int kd, .int (nI pl), .long nu, .ref na, .int (nI nn), .ref ln, .ref lt, .ref mk])) : Nat × va_E) ∈ TbW dA ta y ++ (VW dA h ad (VS.s_ahb (VS.s_aro x (va_up ar i (-1))) (va_up bh i false))) from (List.mem_append_right _ (plm j1)))
        refine jkI (wr := []) (rnV (As := [.ref a1]) (rest := []) hx hb hml hown hE hK (hN _ _ hS) hP hD (v_Etakes l D dA H.size (TbW dA ta y ++ (VW dA h ad (VS.s_ahb (VS.s_aro x (va_up ar i (-1))) (va_up bh i false)))) sp kd pl nu nn NL n KD MN MT a1 (SS i) (isStp_m (fun _ hm => (List.mem_append_right _ (plm hm))) hst) (isSer_m (fun _ hm => (List.mem_append_right _ (plm hm))) hs1) ho1) (q0 := qp23) ep24 rfl w1714 w1713 w1715 w1716 w1496 rfl rfl ⟨⟨by decide, by decide⟩, rfl⟩ ⟨(Nat.le_of_ble_eq_true rfl), (Nat.le_of_ble_eq_true rfl)⟩ rfl hl.1 rfl (Nat.le_of_ble_eq_true rfl) d_A_pick_43 ⟨(show 0 + 0 + 0 ≤ 3 by omega), (show 0 + 0 + 0 ≤ pkS (pkG NL n KD MN MT SS x.kn (TB.s_rc (TB.s_wi (TB.s_nc t nn) x.awi) 0, fun _ => [], x.aro, x.ahb) x.nser).1.rc x.awi t.cN x.bN by omega)⟩) hP hD hS hA (fun r25 u26 H locs hp9 hP hD hS => ?_)
        have hP : va_P D vwCl (TbW dA ta y ++ (VW dA h ad (VS.s_ahb (VS.s_aro x (va_up ar i (-1))) (va_up bh i false)))) H := hP
        have hD : va_D A (TbW dA ta y ++ (VW dA h ad (VS.s_ahb (VS.s_aro x (va_up ar i (-1))) (va_up bh i false)))) := hD
        replace hp9 : bI (allB n (tkF KD MN MT (SS i))) = r25 := Eq.symm hp9
        subst hp9
        refine lv_if_eq hx hb d_A_pick_46 (tgt := 65) rfl (fun g27 => ?_) (fun g27 => ?_)
        · have g27 := bI_0 g27
          refine lv_iinc (k := 0) (v := nI (i + 1)) hx hb d_A_pick_65 hl rfl (iincN (i) 1 1 (by decide)) (by decide) rfl (fun ls hl => ?_)
          have hl : lv_has ls 7 [(6, .int (nI (i + 1))), (1, .ref sp), (2, .ref (ta 0)), (3, .ref (ad 17)), (4, .ref (ad 3)), (5, .ref (ad 1)), (0, .ref (ad 24))] := hl
          refine lv_goto hx hb d_A_pick_68 (tgt := 12) rfl ?_
          exact ih12 _ (by omega) (i + 1) y RS (va_up ar i (-1)) (va_up bh i false) (by omega) (by rw [pk_f g27, ← eP]) hnx hrk ⟨ky.1, ky.2.1, ky.2.2.1, ky.2.2.2.1, ky.2.2.2.2.1, Nat.le_succ_of_le ky.2.2.2.2.2⟩ hra2 rfl H _ ls hP hD hS (lv_sub hl [0, 1, 2, 3, 4, 5, 6] rfl)
        · have g27 := bI_n0 g27
          refine lv_aload_n hx hb d_A_pick_49 rfl (lv_at hl 6 rfl) ?_
          refine gF (v := .ref (ad 26)) hx hb hown hE hK hP 42 rfl rfl layA 2 (by decide) w800 rfl d_A_pick_50 ?_
          refine lv_iload hx hb d_A_pick_53 (lv_at hl 0 rfl) ?_
          refine lv_iconst (v := 0) hx hb d_A_pick_55 (by decide) ?_
          refine nist (n := 256) hx hb hK hP hD hS (43) 1 rfl rfl (i) (by omega) (by decide) d_A_pick_56 (fun H locs hP hD hS => ?_)
          have hP : va_P D vwCl (TbW dA ta y ++ (VW dA h ad (VS.s_ahb (VS.s_aro x (va_up (va_up ar i (-1)) i 0)) (va_up bh i false)))) H := hP
          have hD : va_D A (TbW dA ta y ++ (VW dA h ad (VS.s_ahb (VS.s_aro x (va_up (va_up ar i (-1)) i 0)) (va_up bh i false)))) := hD
          refine lv_aload_n hx hb d_A_pick_57 rfl (lv_at hl 2 rfl) ?_
          refine lv_aload_n hx hb d_A_pick_58 rfl (lv_at hl 3 rfl) ?_
          refine lv_iload hx hb d_A_pick_59 (lv_at hl 0 rfl) ?_
          refine nqld (f := x.kn) (n := 256) hx hb hK hP (36) 5 rfl rfl (i) (by omega) (by decide) ke d_A_pick_61 ?_
          refine jkV (wr := []) (rnV (As := [.ref a1]) (rest := []) hx hb hml hown hE hK (hN _ _ hS) hP hD (v_TaddRow l D dA H.size (VW dA h ad (VS.s_ahb (VS.s_aro x (va_up (va_up ar i (-1)) i 0)) (va_up bh i false))) ta y NL RS a1 (SS i) (nmOk_m (fun _ hm => (plm hm)) hny) hnc6 (rsOk_m (fun _ hm => (plm hm)) hrk) (isSer_m (fun _ hm => (plm hm)) hs1) ho1 ky.1) (q0 := 0) rfl rfl w1718 w1717 w1719 w1720 w807 rfl rfl ⟨⟨by decide, by decide⟩, rfl⟩ ⟨(Nat.le_of_ble_eq_true rfl), (Nat.le_of_ble_eq_true rfl)⟩ rfl hl.1 rfl (Nat.le_of_ble_eq_true rfl) d_A_pick_62 ⟨(show 0 + 0 + 0 + 0 ≤ 3 by omega), (show 0 + 0 + 0 + 0 ≤ pkS (pkG NL n KD MN MT SS x.kn (TB.s_rc (TB.s_wi (TB.s_nc t nn) x.awi) 0, fun _ => [], x.aro, x.ahb) x.nser).1.rc x.awi t.cN x.bN by omega)⟩) hP hD hS hA (fun u29 H locs hp9 hP hD hS => ?_)
          obtain ⟨y1, h9u⟩ : ∃ z9, z9 = u29 := ⟨_, rfl⟩
          subst h9u
          have hP : va_P D vwCl (TbW dA ta y1 ++ (VW dA h ad (VS.s_ahb (VS.s_aro x (va_up (va_up ar i (-1)) i 0)) (va_up bh i false)))) H := hP
          have hD : va_D A (TbW dA ta y1 ++ (VW dA h ad (VS.s_ahb (VS.s_aro x (va_up (va_up ar i (-1)) i 0)) (va_up bh i false)))) := hD
          have f_e_30 := hp9
          have eg : (x.kn i).getD 0 = a1 := by rw [ke]; rfl
          obtain ⟨r1, r2, r3, r4, r5, r6, r7⟩ := rsOk_ad (NL := NL) hrk hs1 ho1 ky.1
          rw [← f_e_30] at r1 r2 r3 r4 r5 r6 r7
          have ra1 : rsAll dA x.pl y1.rs := by rw [f_e_30]; exact rsAll_ad hra2 hs1 ho1
          refine lv_iinc (k := 0) (v := nI (i + 1)) hx hb d_A_pick_65 hl rfl (iincN (i) 1 1 (by decide)) (by decide) rfl (fun ls hl => ?_)
          have hl : lv_has ls 7 [(6, .int (nI (i + 1))), (1, .ref sp), (2, .ref (ta 0)), (3, .ref (ad 17)), (4, .ref (ad 3)), (5, .ref (ad 1)), (0, .ref (ad 24))] := hl
          refine lv_goto hx hb d_A_pick_68 (tgt := 12) rfl ?_
          exact ih12 _ (by omega) (i + 1) y1 (adRS NL y RS (SS i)) (va_up (va_up ar i (-1)) i 0) (va_up bh i false) (by omega) (by rw [pk_t g27, ← eP, eg]; show _ = (adT NL y RS (SS i) a1, _, _, _); rw [← f_e_30]) hnx r1 ⟨r2, r3.trans ky.2.1, r4.trans ky.2.2.1, r5.trans ky.2.2.2.1, r6.trans ky.2.2.2.2.1, Nat.le_trans r7 (Nat.succ_le_succ ky.2.2.2.2.2)⟩ ra1 rfl H _ ls hP hD hS (lv_sub hl [0, 1, 2, 3, 4, 5, 6] rfl)
  exact L12 _ 0 (TB.s_rc (TB.s_wi (TB.s_nc (TB.s_nm t nx) nn) x.awi) 0) (fun _ => []) x.aro x.ahb (Nat.zero_le _) rfl f_nm_3 (fun q hq => absurd hq (Nat.not_lt_zero q)) ⟨Nat.zero_le _, rfl, rfl, rfl, rfl, Nat.le_refl _⟩ hra rfl H _ ls hP hD hS (lv_sub hl [0, 2, 3, 4, 5, 6, 1] rfl)
end
section
set_option maxHeartbeats 4000000 in
set_option maxRecDepth 100000 in
theorem v_names_0 (l : Launch) (D : va_G) (dA : Nat → ClassId) (sz : Nat) (h : Nat) (ad : Nat → Nat) (x : VS) (ht : x.hasTable = false) : Met l ⟨"SeriesVault", "names", "()I"⟩ [Cond.code ⟨"SeriesVault", "names", "()I"⟩ prog_1_method_46_code 1 (some FieldType.int)] { frames := 1, cells := 0, slots := 0, locals := 0 } (pC D dA [.ref h] (VW dA h ad x) sz) (va_Qi (fun (r9 : Int32) (u9 : Unit) => r9 = (-1)) (fun (u9 : Unit) t9 => bW D (va_A (VW dA h ad x) sz) (VW dA h ad x) t9) (va_A (VW dA h ad x) sz)) 0 0 (va_A (VW dA h ad x) sz) := by
  refine mkC (y := ⟨"SeriesVault", "names", "()I"⟩) (cc := prog_1_method_46_code) (maxL := 1) (av := [.ref h]) (ws := VW dA h ad x) (sz := sz) (Qc := fun A => va_Qi (fun (r9 : Int32) (u9 : Unit) => r9 = (-1)) (fun (u9 : Unit) t9 => bW D A (VW dA h ad x) t9) A) (by decide) (Nat.le_of_ble_eq_true rfl) ?_
  intro A p e s m below meth c ls hsz hB
  obtain ⟨hx, hb, hr, hml, hown, hin, hlk, hE, hK, hP, hD, hS, hA, hN, hl⟩ := hB
  have hown : s.vm.findClass "SeriesVault" = some m.cls := hown
  have hl : lv_has ls 1 [(0, .ref h)] := hl
  obtain ⟨H, hH⟩ : ∃ z, z = s.heap := ⟨_, rfl⟩
  have hP : va_P D vwCl (VW dA h ad x) H := by rw [hH]; exact hP
  have hS : va_S A s.heap H [] := by rw [hH]; exact hS
  rw [← hH]
  refine lv_aload_n hx hb d_V_names_0 rfl (lv_at hl 0 rfl) ?_
  refine gF (v := .int (bI x.hasTable)) hx hb hown hE hK hP 0 rfl rfl layV 17 (by decide) w210 rfl d_V_names_1 ?_
  refine lv_if_eq hx hb d_V_names_4 (tgt := 20) rfl (fun _ => ?_) (fun h9 => absurd (by rw [ht]; decide) h9)
  refine lv_iconst (v := (-1)) hx hb d_V_names_20 (by decide) ?_
  exact rfI hx hb hr hlk hS () rfl hP hD (Nat.le_of_ble_eq_true rfl) (Nat.le_of_ble_eq_true rfl) d_V_names_21
theorem d_V_names_7 : decode prog_1_method_46_code 7 = .ok (.aload_n 0, 1) := by decide +kernel
theorem d_V_names_8 : decode prog_1_method_46_code 8 = .ok (.getfield 63, 3) := by decide +kernel
theorem d_V_names_11 : decode prog_1_method_46_code 11 = .ok (.invokevirtual 386, 3) := by decide +kernel
theorem d_V_names_14 : decode prog_1_method_46_code 14 = .ok (.getfield 395, 3) := by decide +kernel
theorem d_V_names_17 : decode prog_1_method_46_code 17 = .ok (.goto 4, 3) := by decide +kernel
theorem w1721 : Cond.methodLink "SeriesVault" 386 ⟨"SeriesVault$Answers", "table", "()LSeriesVault$Table;"⟩ ∈ aW := aw_of (tb_3 (List.mem_of_getElem? (i := 28) rfl)) rfl
theorem w1722 : Cond.code ⟨"SeriesVault$Answers", "table", "()LSeriesVault$Table;"⟩ prog_2_method_2_code 1 (some (FieldType.object "SeriesVault$Table")) ∈ aW := aw_of (tb_3 (List.mem_of_getElem? (i := 31) rfl)) rfl
theorem w1723 : Cond.instanceMethod ⟨"SeriesVault$Answers", "table", "()LSeriesVault$Table;"⟩ ∈ aW := aw_of (tb_3 (List.mem_of_getElem? (i := 29) rfl)) rfl
theorem w1724 : Cond.selects "SeriesVault$Answers" ⟨"SeriesVault$Answers", "table", "()LSeriesVault$Table;"⟩ ⟨"SeriesVault$Answers", "table", "()LSeriesVault$Table;"⟩ ∈ aW := aw_of (tb_3 (List.mem_of_getElem? (i := 30) rfl)) rfl
theorem w1725 : Cond.fieldLinkNest "SeriesVault" 395 "SeriesVault$Table" "nameCount" "I" "SeriesVault" ∈ aW := aw_of (tb_2 (List.mem_of_getElem? (i := 56) rfl)) rfl
set_option maxHeartbeats 4000000 in
set_option maxRecDepth 100000 in
theorem v_names_1 (l : Launch) (D : va_G) (dA : Nat → ClassId) (sz : Nat) (h : Nat) (ad : Nat → Nat) (ta : Nat → Nat) (t : TB) (la : Nat → Nat) (g : LI) (x : VS) (hla : la 0 = ad 25) (hs : g.sz ≤ g.eN) (hn : g.eN ≤ 65536) (h1 : 0 < g.sz) (hel : g.el 0 = some (ta 0)) (ht : x.hasTable = true) : Met l ⟨"SeriesVault", "names", "()I"⟩ [Cond.code ⟨"SeriesVault", "names", "()I"⟩ prog_1_method_46_code 1 (some FieldType.int)] { frames := 5, cells := 0, slots := 0, locals := 84 } (pC D dA [.ref h] (TbW dA ta t ++ (LiW dA la g ++ (VW dA h ad x))) sz) (va_Qi (fun (r9 : Int32) (u9 : Unit) => r9 = nI t.nc) (fun (u9 : Unit) t9 => bW D (va_A (TbW dA ta t ++ (LiW dA la g ++ (VW dA h ad x))) sz) (TbW dA ta t ++ (LiW dA la g ++ (VW dA h ad x))) t9) (va_A (TbW dA ta t ++ (LiW dA la g ++ (VW dA h ad x))) sz)) 0 0 (va_A (TbW dA ta t ++ (LiW dA la g ++ (VW dA h ad x))) sz) := by
  refine mkC (y := ⟨"SeriesVault", "names", "()I"⟩) (cc := prog_1_method_46_code) (maxL := 1) (av := [.ref h]) (ws := TbW dA ta t ++ (LiW dA la g ++ (VW dA h ad x))) (sz := sz) (Qc := fun A => va_Qi (fun (r9 : Int32) (u9 : Unit) => r9 = nI t.nc) (fun (u9 : Unit) t9 => bW D A (TbW dA ta t ++ (LiW dA la g ++ (VW dA h ad x))) t9) A) (by decide) (Nat.le_of_ble_eq_true rfl) ?_
  intro A p e s m below meth c ls hsz hB
  obtain ⟨hx, hb, hr, hml, hown, hin, hlk, hE, hK, hP, hD, hS, hA, hN, hl⟩ := hB
  have hown : s.vm.findClass "SeriesVault" = some m.cls := hown
  have hl : lv_has ls 1 [(0, .ref h)] := hl
  obtain ⟨H, hH⟩ : ∃ z, z = s.heap := ⟨_, rfl⟩
  have hP : va_P D vwCl (TbW dA ta t ++ (LiW dA la g ++ (VW dA h ad x))) H := by rw [hH]; exact hP
  have hS : va_S A s.heap H [] := by rw [hH]; exact hS
  rw [← hH]
  refine lv_aload_n hx hb d_V_names_0 rfl (lv_at hl 0 rfl) ?_
  refine gF (v := .int (bI x.hasTable)) hx hb hown hE hK hP 7 rfl rfl layV 17 (by decide) w210 rfl d_V_names_1 ?_
  refine lv_if_eq hx hb d_V_names_4 (tgt := 20) rfl (fun h9 => absurd h9 (by rw [ht]; decide)) (fun _ => ?_)
  refine lv_aload_n hx hb d_V_names_7 rfl (lv_at hl 0 rfl) ?_
  refine gF (v := .ref (ad 24)) hx hb hown hE hK hP 7 rfl rfl layV 16 (by decide) w850 rfl d_V_names_8 ?_
  refine jkR (wr := []) (rnV (As := []) (rest := []) hx hb hml hown hE hK (hN _ _ hS) hP hD (v_Atable l D dA H.size h ad ta t la g x hla hs hn h1 hel) (q0 := 44) rfl rfl w1722 w1721 w1723 w1724 w846 rfl rfl ⟨⟨by decide, by decide⟩, rfl⟩ ⟨(Nat.le_of_ble_eq_true rfl), (Nat.le_of_ble_eq_true rfl)⟩ rfl hl.1 rfl (Nat.le_of_ble_eq_true rfl) d_V_names_11 ⟨(Nat.le_of_ble_eq_true rfl), (Nat.le_of_ble_eq_true rfl)⟩) hP hD hS hA (fun u2 r1 H locs hp9 hP hD hS => ?_)
  have hP : va_P D vwCl (TbW dA ta t ++ (LiW dA la g ++ (VW dA h ad x))) H := hP
  have hD : va_D A (TbW dA ta t ++ (LiW dA la g ++ (VW dA h ad x))) := hD
  have f_e_3 := hp9
  have e9 := f_e_3
  subst e9
  refine gFN (v := .int (nI t.nc)) hx hb hown hE hK hP 0 rfl rfl layT 1 (by decide) w1725 rfl d_V_names_14 ?_
  refine lv_goto hx hb d_V_names_17 (tgt := 21) rfl ?_
  exact rfI hx hb hr hlk hS () rfl hP hD (Nat.le_of_ble_eq_true rfl) (Nat.le_of_ble_eq_true rfl) d_V_names_21
theorem d_V_checkRow_7 : decode prog_1_method_50_code 7 = .ok (.iload_n 1, 1) := by decide +kernel
theorem d_V_checkRow_8 : decode prog_1_method_50_code 8 = .ok (.ifCond .lt 17, 3) := by decide +kernel
theorem d_V_checkRow_11 : decode prog_1_method_50_code 11 = .ok (.iload_n 1, 1) := by decide +kernel
theorem d_V_checkRow_12 : decode prog_1_method_50_code 12 = .ok (.aload_n 0, 1) := by decide +kernel
theorem d_V_checkRow_13 : decode prog_1_method_50_code 13 = .ok (.getfield 63, 3) := by decide +kernel
theorem d_V_checkRow_16 : decode prog_1_method_50_code 16 = .ok (.invokevirtual 386, 3) := by decide +kernel
theorem d_V_checkRow_19 : decode prog_1_method_50_code 19 = .ok (.getfield 390, 3) := by decide +kernel
theorem d_V_checkRow_22 : decode prog_1_method_50_code 22 = .ok (.if_icmp .lt 11, 3) := by decide +kernel
theorem d_V_checkRow_33 : decode prog_1_method_50_code 33 = .ok (.return_, 1) := by decide +kernel
theorem w1726 : Cond.fieldLinkNest "SeriesVault" 390 "SeriesVault$Table" "rowCount" "I" "SeriesVault" ∈ aW := aw_of (tb_2 (List.mem_of_getElem? (i := 61) rfl)) rfl
set_option maxHeartbeats 4000000 in
set_option maxRecDepth 100000 in
theorem v_checkRow_1 (l : Launch) (D : va_G) (dA : Nat → ClassId) (sz : Nat) (h : Nat) (ad : Nat → Nat) (ta : Nat → Nat) (t : TB) (la : Nat → Nat) (g : LI) (x : VS) (r : Nat) (hla : la 0 = ad 25) (hs : g.sz ≤ g.eN) (hn : g.eN ≤ 65536) (h1 : 0 < g.sz) (hel : g.el 0 = some (ta 0)) (ht : x.hasTable = true) (hr1 : r < t.rc) (hr2 : t.rc ≤ 256) : Met l ⟨"SeriesVault", "checkRow", "(I)V"⟩ [Cond.code ⟨"SeriesVault", "checkRow", "(I)V"⟩ prog_1_method_50_code 2 none] { frames := 5, cells := 0, slots := 0, locals := 84 } (pC D dA [.ref h, .int (nI r)] (TbW dA ta t ++ (LiW dA la g ++ (VW dA h ad x))) sz) (va_Qv (fun (u9 : Unit) => True) (fun (u9 : Unit) t9 => bW D (va_A (TbW dA ta t ++ (LiW dA la g ++ (VW dA h ad x))) sz) (TbW dA ta t ++ (LiW dA la g ++ (VW dA h ad x))) t9) (va_A (TbW dA ta t ++ (LiW dA la g ++ (VW dA h ad x))) sz)) 0 0 (va_A (TbW dA ta t ++ (LiW dA la g ++ (VW dA h ad x))) sz) := by
  refine mkC (y := ⟨"SeriesVault", "checkRow", "(I)V"⟩) (cc := prog_1_method_50_code) (maxL := 2) (av := [.ref h, .int (nI r)]) (ws := TbW dA ta t ++ (LiW dA la g ++ (VW dA h ad x))) (sz := sz) (Qc := fun A => va_Qv (fun (u9 : Unit) => True) (fun (u9 : Unit) t9 => bW D A (TbW dA ta t ++ (LiW dA la g ++ (VW dA h ad x))) t9) A) (by decide) (Nat.le_of_ble_eq_true rfl) ?_
  intro A p e s m below meth c ls hsz hB
  obtain ⟨hx, hb, hr, hml, hown, hin, hlk, hE, hK, hP, hD, hS, hA, hN, hl⟩ := hB
  have hown : s.vm.findClass "SeriesVault" = some m.cls := hown
  have hl : lv_has ls 2 [(0, .ref h), (1, .int (nI r))] := hl
  obtain ⟨H, hH⟩ : ∃ z, z = s.heap := ⟨_, rfl⟩
  have hP : va_P D vwCl (TbW dA ta t ++ (LiW dA la g ++ (VW dA h ad x))) H := by rw [hH]; exact hP
  have hS : va_S A s.heap H [] := by rw [hH]; exact hS
  rw [← hH]
  refine lv_aload_n hx hb d_V_checkRow_0 rfl (lv_at hl 0 rfl) ?_
  refine gF (v := .int (bI x.hasTable)) hx hb hown hE hK hP 7 rfl rfl layV 17 (by decide) w210 rfl d_V_checkRow_1 ?_
  refine lv_if_eq hx hb d_V_checkRow_4 (tgt := 25) rfl (fun h9 => absurd h9 (by rw [ht]; decide)) (fun _ => ?_)
  refine lv_iload_n hx hb d_V_checkRow_7 rfl (lv_at hl 1 rfl) ?_
  refine lv_if_lt hx hb d_V_checkRow_8 (tgt := 25) rfl (fun h9 => absurd h9 (nI_pos (n := r) (by omega))) (fun _ => ?_)
  refine lv_iload_n hx hb d_V_checkRow_11 rfl (lv_at hl 1 rfl) ?_
  refine lv_aload_n hx hb d_V_checkRow_12 rfl (lv_at hl 0 rfl) ?_
  refine gF (v := .ref (ad 24)) hx hb hown hE hK hP 7 rfl rfl layV 16 (by decide) w850 rfl d_V_checkRow_13 ?_
  refine jkR (wr := []) (rnV (As := []) (rest := [.int (nI r)]) hx hb hml hown hE hK (hN _ _ hS) hP hD (v_Atable l D dA H.size h ad ta t la g x hla hs hn h1 hel) (q0 := 44) rfl rfl w1722 w1721 w1723 w1724 w846 rfl rfl ⟨⟨by decide, by decide⟩, rfl⟩ ⟨(Nat.le_of_ble_eq_true rfl), (Nat.le_of_ble_eq_true rfl)⟩ rfl hl.1 rfl (Nat.le_of_ble_eq_true rfl) d_V_checkRow_16 ⟨(Nat.le_of_ble_eq_true rfl), (Nat.le_of_ble_eq_true rfl)⟩) hP hD hS hA (fun u2 r1 H locs hp9 hP hD hS => ?_)
  have hP : va_P D vwCl (TbW dA ta t ++ (LiW dA la g ++ (VW dA h ad x))) H := hP
  have hD : va_D A (TbW dA ta t ++ (LiW dA la g ++ (VW dA h ad x))) := hD
  have f_e_3 := hp9
  have e9 := f_e_3
  subst e9
  refine gFN (v := .int (nI t.rc)) hx hb hown hE hK hP 0 rfl rfl layT 3 (by decide) w1726 rfl d_V_checkRow_19 ?_
  refine lv_icmp_lt hx hb d_V_checkRow_22 (tgt := 33) rfl (fun _ => ?_) (fun h9 => absurd ((nI_ltI (a := r) (b := t.rc) (by omega) (by omega)).mpr hr1) h9)
  exact rfV hx hb hr hlk hS () trivial hP hD (Nat.le_of_ble_eq_true rfl) (Nat.le_of_ble_eq_true rfl) d_V_checkRow_33
theorem d_V_checkCell_5 : decode prog_1_method_51_code 5 = .ok (.iload_n 2, 1) := by decide +kernel
theorem d_V_checkCell_6 : decode prog_1_method_51_code 6 = .ok (.ifCond .lt 17, 3) := by decide +kernel
theorem d_V_checkCell_9 : decode prog_1_method_51_code 9 = .ok (.iload_n 2, 1) := by decide +kernel
theorem d_V_checkCell_10 : decode prog_1_method_51_code 10 = .ok (.aload_n 0, 1) := by decide +kernel
theorem d_V_checkCell_11 : decode prog_1_method_51_code 11 = .ok (.getfield 63, 3) := by decide +kernel
theorem d_V_checkCell_14 : decode prog_1_method_51_code 14 = .ok (.invokevirtual 386, 3) := by decide +kernel
theorem d_V_checkCell_17 : decode prog_1_method_51_code 17 = .ok (.getfield 416, 3) := by decide +kernel
theorem d_V_checkCell_20 : decode prog_1_method_51_code 20 = .ok (.if_icmp .lt 11, 3) := by decide +kernel
theorem d_V_checkCell_31 : decode prog_1_method_51_code 31 = .ok (.return_, 1) := by decide +kernel
theorem w1727 : Cond.fieldLinkNest "SeriesVault" 416 "SeriesVault$Table" "windows" "I" "SeriesVault" ∈ aW := aw_of (tb_2 (List.mem_of_getElem? (i := 58) rfl)) rfl
set_option maxHeartbeats 4000000 in
set_option maxRecDepth 100000 in
theorem v_checkCell_1 (l : Launch) (D : va_G) (dA : Nat → ClassId) (sz : Nat) (h : Nat) (ad : Nat → Nat) (ta : Nat → Nat) (t : TB) (la : Nat → Nat) (g : LI) (x : VS) (r : Nat) (w : Nat) (hla : la 0 = ad 25) (hs : g.sz ≤ g.eN) (hn : g.eN ≤ 65536) (h1 : 0 < g.sz) (hel : g.el 0 = some (ta 0)) (ht : x.hasTable = true) (hr1 : r < t.rc) (hr2 : t.rc ≤ 256) (hw1 : w < t.wi) (hw2 : t.wi ≤ 64) : Met l ⟨"SeriesVault", "checkCell", "(II)V"⟩ [Cond.code ⟨"SeriesVault", "checkCell", "(II)V"⟩ prog_1_method_51_code 3 none] { frames := 6, cells := 0, slots := 0, locals := 105 } (pC D dA [.ref h, .int (nI r), .int (nI w)] (TbW dA ta t ++ (LiW dA la g ++ (VW dA h ad x))) sz) (va_Qv (fun (u9 : Unit) => True) (fun (u9 : Unit) t9 => bW D (va_A (TbW dA ta t ++ (LiW dA la g ++ (VW dA h ad x))) sz) (TbW dA ta t ++ (LiW dA la g ++ (VW dA h ad x))) t9) (va_A (TbW dA ta t ++ (LiW dA la g ++ (VW dA h ad x))) sz)) 0 0 (va_A (TbW dA ta t ++ (LiW dA la g ++ (VW dA h ad x))) sz) := by
  refine mkC (y := ⟨"SeriesVault", "checkCell", "(II)V"⟩) (cc := prog_1_method_51_code) (maxL := 3) (av := [.ref h, .int (nI r), .int (nI w)]) (ws := TbW dA ta t ++ (LiW dA la g ++ (VW dA h ad x))) (sz := sz) (Qc := fun A => va_Qv (fun (u9 : Unit) => True) (fun (u9 : Unit) t9 => bW D A (TbW dA ta t ++ (LiW dA la g ++ (VW dA h ad x))) t9) A) (by decide) (Nat.le_of_ble_eq_true rfl) ?_
  intro A p e s m below meth c ls hsz hB
  obtain ⟨hx, hb, hr, hml, hown, hin, hlk, hE, hK, hP, hD, hS, hA, hN, hl⟩ := hB
  have hown : s.vm.findClass "SeriesVault" = some m.cls := hown
  have hl : lv_has ls 3 [(0, .ref h), (1, .int (nI r)), (2, .int (nI w))] := hl
  obtain ⟨H, hH⟩ : ∃ z, z = s.heap := ⟨_, rfl⟩
  have hP : va_P D vwCl (TbW dA ta t ++ (LiW dA la g ++ (VW dA h ad x))) H := by rw [hH]; exact hP
  have hS : va_S A s.heap H [] := by rw [hH]; exact hS
  rw [← hH]
  refine lv_aload_n hx hb d_V_checkCell_0 rfl (lv_at hl 0 rfl) ?_
  refine lv_iload_n hx hb d_V_checkCell_1 rfl (lv_at hl 1 rfl) ?_
  refine jkV (wr := []) (rnV (As := [.int (nI r)]) (rest := []) hx hb hml hown hE hK (hN _ _ hS) hP hD (v_checkRow_1 l D dA H.size h ad ta t la g x r hla hs hn h1 hel ht (show r < t.rc from by omega) (show t.rc ≤ 256 from by omega)) (q0 := 7) rfl rfl w305 w304 w306 w307 w277 rfl rfl ⟨⟨by decide, by decide⟩, rfl⟩ ⟨(Nat.le_of_ble_eq_true rfl), (Nat.le_of_ble_eq_true rfl)⟩ rfl hl.1 rfl (Nat.le_of_ble_eq_true rfl) d_V_checkCell_2 ⟨(Nat.le_of_ble_eq_true rfl), (Nat.le_of_ble_eq_true rfl)⟩) hP hD hS hA (fun u2 H locs hp9 hP hD hS => ?_)
  have hP : va_P D vwCl (TbW dA ta t ++ (LiW dA la g ++ (VW dA h ad x))) H := hP
  have hD : va_D A (TbW dA ta t ++ (LiW dA la g ++ (VW dA h ad x))) := hD
  refine lv_iload_n hx hb d_V_checkCell_5 rfl (lv_at hl 2 rfl) ?_
  refine lv_if_lt hx hb d_V_checkCell_6 (tgt := 23) rfl (fun h9 => absurd h9 (nI_pos (n := w) (by omega))) (fun _ => ?_)
  refine lv_iload_n hx hb d_V_checkCell_9 rfl (lv_at hl 2 rfl) ?_
  refine lv_aload_n hx hb d_V_checkCell_10 rfl (lv_at hl 0 rfl) ?_
  refine gF (v := .ref (ad 24)) hx hb hown hE hK hP 7 rfl rfl layV 16 (by decide) w850 rfl d_V_checkCell_11 ?_
  refine jkR (wr := []) (rnV (As := []) (rest := [.int (nI w)]) hx hb hml hown hE hK (hN _ _ hS) hP hD (v_Atable l D dA H.size h ad ta t la g x hla hs hn h1 hel) (q0 := 44) rfl rfl w1722 w1721 w1723 w1724 w846 rfl rfl ⟨⟨by decide, by decide⟩, rfl⟩ ⟨(Nat.le_of_ble_eq_true rfl), (Nat.le_of_ble_eq_true rfl)⟩ rfl hl.1 rfl (Nat.le_of_ble_eq_true rfl) d_V_checkCell_14 ⟨(Nat.le_of_ble_eq_true rfl), (Nat.le_of_ble_eq_true rfl)⟩) hP hD hS hA (fun u4 r3 H locs hp9 hP hD hS => ?_)
  have hP : va_P D vwCl (TbW dA ta t ++ (LiW dA la g ++ (VW dA h ad x))) H := hP
  have hD : va_D A (TbW dA ta t ++ (LiW dA la g ++ (VW dA h ad x))) := hD
  have f_e_5 := hp9
  have e9 := f_e_5
  subst e9
  refine gFN (v := .int (nI t.wi)) hx hb hown hE hK hP 0 rfl rfl layT 2 (by decide) w1727 rfl d_V_checkCell_17 ?_
  refine lv_icmp_lt hx hb d_V_checkCell_20 (tgt := 31) rfl (fun _ => ?_) (fun h9 => absurd ((nI_ltI (a := w) (b := t.wi) (by omega) (by omega)).mpr hw1) h9)
  exact rfV hx hb hr hlk hS () trivial hP hD (Nat.le_of_ble_eq_true rfl) (Nat.le_of_ble_eq_true rfl) d_V_checkCell_31
theorem d_V_isThere_6 : decode prog_1_method_48_code 6 = .ok (.aload_n 0, 1) := by decide +kernel
theorem d_V_isThere_7 : decode prog_1_method_48_code 7 = .ok (.getfield 63, 3) := by decide +kernel
theorem d_V_isThere_10 : decode prog_1_method_48_code 10 = .ok (.invokevirtual 386, 3) := by decide +kernel
theorem d_V_isThere_13 : decode prog_1_method_48_code 13 = .ok (.iload_n 1, 1) := by decide +kernel
theorem d_V_isThere_14 : decode prog_1_method_48_code 14 = .ok (.iload_n 2, 1) := by decide +kernel
theorem d_V_isThere_15 : decode prog_1_method_48_code 15 = .ok (.invokevirtual 408, 3) := by decide +kernel
theorem d_V_isThere_18 : decode prog_1_method_48_code 18 = .ok (.ireturn, 1) := by decide +kernel
theorem w1728 : Cond.methodLink "SeriesVault" 408 ⟨"SeriesVault$Table", "has", "(II)Z"⟩ ∈ aW := aw_of (tb_8 (List.mem_of_getElem? (i := 97) rfl)) rfl
set_option maxHeartbeats 4000000 in
set_option maxRecDepth 100000 in
theorem v_isThere_1 (l : Launch) (D : va_G) (dA : Nat → ClassId) (sz : Nat) (h : Nat) (ad : Nat → Nat) (ta : Nat → Nat) (t : TB) (la : Nat → Nat) (g : LI) (x : VS) (r : Nat) (w : Nat) (hla : la 0 = ad 25) (hs : g.sz ≤ g.eN) (hn : g.eN ≤ 65536) (h1 : 0 < g.sz) (hel : g.el 0 = some (ta 0)) (ht : x.hasTable = true) (hr1 : r < t.rc) (hr2 : t.rc ≤ 256) (hw1 : w < t.wi) (hw2 : t.wi ≤ 64) : Met l ⟨"SeriesVault", "isThere", "(II)Z"⟩ [Cond.code ⟨"SeriesVault", "isThere", "(II)Z"⟩ prog_1_method_48_code 3 (some FieldType.boolean)] { frames := 7, cells := 0, slots := 0, locals := 127 } (pC D dA [.ref h, .int (nI r), .int (nI w)] (TbW dA ta t ++ (LiW dA la g ++ (VW dA h ad x))) sz) (va_Qi (fun (r9 : Int32) (u9 : Unit) => r9 = bI (hasB (t.th r) w)) (fun (u9 : Unit) t9 => bW D (va_A (TbW dA ta t ++ (LiW dA la g ++ (VW dA h ad x))) sz) (TbW dA ta t ++ (LiW dA la g ++ (VW dA h ad x))) t9) (va_A (TbW dA ta t ++ (LiW dA la g ++ (VW dA h ad x))) sz)) 0 0 (va_A (TbW dA ta t ++ (LiW dA la g ++ (VW dA h ad x))) sz) := by
  refine mkC (y := ⟨"SeriesVault", "isThere", "(II)Z"⟩) (cc := prog_1_method_48_code) (maxL := 3) (av := [.ref h, .int (nI r), .int (nI w)]) (ws := TbW dA ta t ++ (LiW dA la g ++ (VW dA h ad x))) (sz := sz) (Qc := fun A => va_Qi (fun (r9 : Int32) (u9 : Unit) => r9 = bI (hasB (t.th r) w)) (fun (u9 : Unit) t9 => bW D A (TbW dA ta t ++ (LiW dA la g ++ (VW dA h ad x))) t9) A) (by decide) (Nat.le_of_ble_eq_true rfl) ?_
  intro A p e s m below meth c ls hsz hB
  obtain ⟨hx, hb, hr, hml, hown, hin, hlk, hE, hK, hP, hD, hS, hA, hN, hl⟩ := hB
  have hown : s.vm.findClass "SeriesVault" = some m.cls := hown
  have hl : lv_has ls 3 [(0, .ref h), (1, .int (nI r)), (2, .int (nI w))] := hl
  obtain ⟨H, hH⟩ : ∃ z, z = s.heap := ⟨_, rfl⟩
  have hP : va_P D vwCl (TbW dA ta t ++ (LiW dA la g ++ (VW dA h ad x))) H := by rw [hH]; exact hP
  have hS : va_S A s.heap H [] := by rw [hH]; exact hS
  rw [← hH]
  refine lv_aload_n hx hb d_V_isThere_0 rfl (lv_at hl 0 rfl) ?_
  refine lv_iload_n hx hb d_V_isThere_1 rfl (lv_at hl 1 rfl) ?_
  refine lv_iload_n hx hb d_V_isThere_2 rfl (lv_at hl 2 rfl) ?_
  refine jkV (wr := []) (rnV (As := [.int (nI r), .int (nI w)]) (rest := []) hx hb hml hown hE hK (hN _ _ hS) hP hD (v_checkCell_1 l D dA H.size h ad ta t la g x r w hla hs hn h1 hel ht (show r < t.rc from by omega) (show t.rc ≤ 256 from by omega) (show w < t.wi from by omega) (show t.wi ≤ 64 from by omega)) (q0 := 7) rfl rfl w309 w308 w310 w311 w277 rfl rfl ⟨⟨by decide, by decide⟩, rfl⟩ ⟨(Nat.le_of_ble_eq_true rfl), (Nat.le_of_ble_eq_true rfl)⟩ rfl hl.1 rfl (Nat.le_of_ble_eq_true rfl) d_V_isThere_3 ⟨(Nat.le_of_ble_eq_true rfl), (Nat.le_of_ble_eq_true rfl)⟩) hP hD hS hA (fun u2 H locs hp9 hP hD hS => ?_)
  have hP : va_P D vwCl (TbW dA ta t ++ (LiW dA la g ++ (VW dA h ad x))) H := hP
  have hD : va_D A (TbW dA ta t ++ (LiW dA la g ++ (VW dA h ad x))) := hD
  refine lv_aload_n hx hb d_V_isThere_6 rfl (lv_at hl 0 rfl) ?_
  refine gF (v := .ref (ad 24)) hx hb hown hE hK hP 7 rfl rfl layV 16 (by decide) w850 rfl d_V_isThere_7 ?_
  refine jkR (wr := []) (rnV (As := []) (rest := []) hx hb hml hown hE hK (hN _ _ hS) hP hD (v_Atable l D dA H.size h ad ta t la g x hla hs hn h1 hel) (q0 := 44) rfl rfl w1722 w1721 w1723 w1724 w846 rfl rfl ⟨⟨by decide, by decide⟩, rfl⟩ ⟨(Nat.le_of_ble_eq_true rfl), (Nat.le_of_ble_eq_true rfl)⟩ rfl hl.1 rfl (Nat.le_of_ble_eq_true rfl) d_V_isThere_10 ⟨(Nat.le_of_ble_eq_true rfl), (Nat.le_of_ble_eq_true rfl)⟩) hP hD hS hA (fun u4 r3 H locs hp9 hP hD hS => ?_)
  have hP : va_P D vwCl (TbW dA ta t ++ (LiW dA la g ++ (VW dA h ad x))) H := hP
  have hD : va_D A (TbW dA ta t ++ (LiW dA la g ++ (VW dA h ad x))) := hD
  have f_e_5 := hp9
  refine lv_iload_n hx hb d_V_isThere_13 rfl (lv_at hl 1 rfl) ?_
  refine lv_iload_n hx hb d_V_isThere_14 rfl (lv_at hl 2 rfl) ?_
  have e9 := f_e_5
  subst e9
  refine jkI (wr := []) (rnV (As := [.int (nI r), .int (nI w)]) (rest := []) hx hb hml hown hE hK (hN _ _ hS) hP hD (v_Thas l D dA H.size (LiW dA la g ++ (VW dA h ad x)) ta t r w (show r < 256 from by omega)) (q0 := 0) rfl rfl w1506 w1728 w1507 w1508 w807 rfl rfl ⟨⟨by decide, by decide⟩, rfl⟩ ⟨(Nat.le_of_ble_eq_true rfl), (Nat.le_of_ble_eq_true rfl)⟩ rfl hl.1 rfl (Nat.le_of_ble_eq_true rfl) d_V_isThere_15 ⟨(Nat.le_of_ble_eq_true rfl), (Nat.le_of_ble_eq_true rfl)⟩) hP hD hS hA (fun r6 u7 H locs hp9 hP hD hS => ?_)
  have hP : va_P D vwCl (TbW dA ta t ++ (LiW dA la g ++ (VW dA h ad x))) H := hP
  have hD : va_D A (TbW dA ta t ++ (LiW dA la g ++ (VW dA h ad x))) := hD
  replace hp9 : bI (hasB (t.th r) w) = r6 := Eq.symm hp9
  subst hp9
  exact rfZ hx hb hr (bI_nar (hasB (t.th r) w)) hlk hS () rfl hP hD (Nat.le_of_ble_eq_true rfl) (Nat.le_of_ble_eq_true rfl) d_V_isThere_18
theorem d_V_cell_6 : decode prog_1_method_49_code 6 = .ok (.aload_n 0, 1) := by decide +kernel
theorem d_V_cell_7 : decode prog_1_method_49_code 7 = .ok (.getfield 63, 3) := by decide +kernel
theorem d_V_cell_10 : decode prog_1_method_49_code 10 = .ok (.invokevirtual 386, 3) := by decide +kernel
theorem d_V_cell_13 : decode prog_1_method_49_code 13 = .ok (.astore_n 3, 1) := by decide +kernel
theorem d_V_cell_14 : decode prog_1_method_49_code 14 = .ok (.aload_n 3, 1) := by decide +kernel
theorem d_V_cell_15 : decode prog_1_method_49_code 15 = .ok (.iload_n 1, 1) := by decide +kernel
theorem d_V_cell_16 : decode prog_1_method_49_code 16 = .ok (.iload_n 2, 1) := by decide +kernel
theorem d_V_cell_17 : decode prog_1_method_49_code 17 = .ok (.invokevirtual 408, 3) := by decide +kernel
theorem d_V_cell_20 : decode prog_1_method_49_code 20 = .ok (.ifCond .eq 12, 3) := by decide +kernel
theorem d_V_cell_32 : decode prog_1_method_49_code 32 = .ok (.lconst 0, 1) := by decide +kernel
theorem d_V_cell_33 : decode prog_1_method_49_code 33 = .ok (.lreturn, 1) := by decide +kernel
theorem d_V_cell_23 : decode prog_1_method_49_code 23 = .ok (.aload_n 3, 1) := by decide +kernel
theorem d_V_cell_24 : decode prog_1_method_49_code 24 = .ok (.iload_n 1, 1) := by decide +kernel
theorem d_V_cell_25 : decode prog_1_method_49_code 25 = .ok (.iload_n 2, 1) := by decide +kernel
theorem d_V_cell_26 : decode prog_1_method_49_code 26 = .ok (.invokevirtual 412, 3) := by decide +kernel
theorem d_V_cell_29 : decode prog_1_method_49_code 29 = .ok (.goto 4, 3) := by decide +kernel
theorem w1729 : Cond.methodLink "SeriesVault" 412 ⟨"SeriesVault$Table", "numberAt", "(II)J"⟩ ∈ aW := aw_of (tb_8 (List.mem_of_getElem? (i := 105) rfl)) rfl
set_option maxHeartbeats 4000000 in
set_option maxRecDepth 100000 in
theorem v_cell_1 (l : Launch) (D : va_G) (dA : Nat → ClassId) (sz : Nat) (h : Nat) (ad : Nat → Nat) (ta : Nat → Nat) (t : TB) (la : Nat → Nat) (g : LI) (x : VS) (r : Nat) (w : Nat) (hla : la 0 = ad 25) (hs : g.sz ≤ g.eN) (hn : g.eN ≤ 65536) (h1 : 0 < g.sz) (hel : g.el 0 = some (ta 0)) (ht : x.hasTable = true) (hr1 : r < t.rc) (hr2 : t.rc ≤ 256) (hw1 : w < t.wi) (hw2 : t.wi ≤ 64) (hcN : t.cN ≤ 65536) (hrc : t.rc * t.wi ≤ t.cN) : Met l ⟨"SeriesVault", "cell", "(II)J"⟩ [Cond.code ⟨"SeriesVault", "cell", "(II)J"⟩ prog_1_method_49_code 4 (some FieldType.long)] { frames := 7, cells := 0, slots := 0, locals := 127 } (pC D dA [.ref h, .int (nI r), .int (nI w)] (TbW dA ta t ++ (LiW dA la g ++ (VW dA h ad x))) sz) (va_Ql (fun (r9 : Int64) (u9 : Unit) => r9 = if hasB (t.th r) w = true then t.ce (r * t.wi + w) else 0) (fun (u9 : Unit) t9 => bW D (va_A (TbW dA ta t ++ (LiW dA la g ++ (VW dA h ad x))) sz) (TbW dA ta t ++ (LiW dA la g ++ (VW dA h ad x))) t9) (va_A (TbW dA ta t ++ (LiW dA la g ++ (VW dA h ad x))) sz)) 0 0 (va_A (TbW dA ta t ++ (LiW dA la g ++ (VW dA h ad x))) sz) := by
  refine mkC (y := ⟨"SeriesVault", "cell", "(II)J"⟩) (cc := prog_1_method_49_code) (maxL := 4) (av := [.ref h, .int (nI r), .int (nI w)]) (ws := TbW dA ta t ++ (LiW dA la g ++ (VW dA h ad x))) (sz := sz) (Qc := fun A => va_Ql (fun (r9 : Int64) (u9 : Unit) => r9 = if hasB (t.th r) w = true then t.ce (r * t.wi + w) else 0) (fun (u9 : Unit) t9 => bW D A (TbW dA ta t ++ (LiW dA la g ++ (VW dA h ad x))) t9) A) (by decide) (Nat.le_of_ble_eq_true rfl) ?_
  intro A p e s m below meth c ls hsz hB
  obtain ⟨hx, hb, hr, hml, hown, hin, hlk, hE, hK, hP, hD, hS, hA, hN, hl⟩ := hB
  have hown : s.vm.findClass "SeriesVault" = some m.cls := hown
  have hl : lv_has ls 4 [(0, .ref h), (1, .int (nI r)), (2, .int (nI w))] := hl
  obtain ⟨H, hH⟩ : ∃ z, z = s.heap := ⟨_, rfl⟩
  have hP : va_P D vwCl (TbW dA ta t ++ (LiW dA la g ++ (VW dA h ad x))) H := by rw [hH]; exact hP
  have hS : va_S A s.heap H [] := by rw [hH]; exact hS
  rw [← hH]
  have hmi := mul_in hr1 hw1 hrc
  refine lv_aload_n hx hb d_V_cell_0 rfl (lv_at hl 0 rfl) ?_
  refine lv_iload_n hx hb d_V_cell_1 rfl (lv_at hl 1 rfl) ?_
  refine lv_iload_n hx hb d_V_cell_2 rfl (lv_at hl 2 rfl) ?_
  refine jkV (wr := []) (rnV (As := [.int (nI r), .int (nI w)]) (rest := []) hx hb hml hown hE hK (hN _ _ hS) hP hD (v_checkCell_1 l D dA H.size h ad ta t la g x r w hla hs hn h1 hel ht (show r < t.rc from by omega) (show t.rc ≤ 256 from by omega) (show w < t.wi from by omega) (show t.wi ≤ 64 from by omega)) (q0 := 7) rfl rfl w309 w308 w310 w311 w277 rfl rfl ⟨⟨by decide, by decide⟩, rfl⟩ ⟨(Nat.le_of_ble_eq_true rfl), (Nat.le_of_ble_eq_true rfl)⟩ rfl hl.1 rfl (Nat.le_of_ble_eq_true rfl) d_V_cell_3 ⟨(Nat.le_of_ble_eq_true rfl), (Nat.le_of_ble_eq_true rfl)⟩) hP hD hS hA (fun u2 H locs hp9 hP hD hS => ?_)
  have hP : va_P D vwCl (TbW dA ta t ++ (LiW dA la g ++ (VW dA h ad x))) H := hP
  have hD : va_D A (TbW dA ta t ++ (LiW dA la g ++ (VW dA h ad x))) := hD
  refine lv_aload_n hx hb d_V_cell_6 rfl (lv_at hl 0 rfl) ?_
  refine gF (v := .ref (ad 24)) hx hb hown hE hK hP 7 rfl rfl layV 16 (by decide) w850 rfl d_V_cell_7 ?_
  refine jkR (wr := []) (rnV (As := []) (rest := []) hx hb hml hown hE hK (hN _ _ hS) hP hD (v_Atable l D dA H.size h ad ta t la g x hla hs hn h1 hel) (q0 := 44) rfl rfl w1722 w1721 w1723 w1724 w846 rfl rfl ⟨⟨by decide, by decide⟩, rfl⟩ ⟨(Nat.le_of_ble_eq_true rfl), (Nat.le_of_ble_eq_true rfl)⟩ rfl hl.1 rfl (Nat.le_of_ble_eq_true rfl) d_V_cell_10 ⟨(Nat.le_of_ble_eq_true rfl), (Nat.le_of_ble_eq_true rfl)⟩) hP hD hS hA (fun u4 r3 H locs hp9 hP hD hS => ?_)
  have hP : va_P D vwCl (TbW dA ta t ++ (LiW dA la g ++ (VW dA h ad x))) H := hP
  have hD : va_D A (TbW dA ta t ++ (LiW dA la g ++ (VW dA h ad x))) := hD
  have f_e_5 := hp9
  refine lv_astore_n hx hb d_V_cell_13 rfl hl (by decide) rfl (fun ls hl => ?_)
  have hl : lv_has ls 4 [(3, .ref r3), (0, .ref h), (1, .int (nI r)), (2, .int (nI w))] := hl
  refine lv_aload_n hx hb d_V_cell_14 rfl (lv_at hl 0 rfl) ?_
  refine lv_iload_n hx hb d_V_cell_15 rfl (lv_at hl 2 rfl) ?_
  refine lv_iload_n hx hb d_V_cell_16 rfl (lv_at hl 3 rfl) ?_
  have e9 := f_e_5
  subst e9
  refine jkI (wr := []) (rnV (As := [.int (nI r), .int (nI w)]) (rest := []) hx hb hml hown hE hK (hN _ _ hS) hP hD (v_Thas l D dA H.size (LiW dA la g ++ (VW dA h ad x)) ta t r w (show r < 256 from by omega)) (q0 := 0) rfl rfl w1506 w1728 w1507 w1508 w807 rfl rfl ⟨⟨by decide, by decide⟩, rfl⟩ ⟨(Nat.le_of_ble_eq_true rfl), (Nat.le_of_ble_eq_true rfl)⟩ rfl hl.1 rfl (Nat.le_of_ble_eq_true rfl) d_V_cell_17 ⟨(Nat.le_of_ble_eq_true rfl), (Nat.le_of_ble_eq_true rfl)⟩) hP hD hS hA (fun r6 u7 H locs hp9 hP hD hS => ?_)
  have hP : va_P D vwCl (TbW dA ta t ++ (LiW dA la g ++ (VW dA h ad x))) H := hP
  have hD : va_D A (TbW dA ta t ++ (LiW dA la g ++ (VW dA h ad x))) := hD
  replace hp9 : bI (hasB (t.th r) w) = r6 := Eq.symm hp9
  subst hp9
  refine lv_if_eq hx hb d_V_cell_20 (tgt := 32) rfl (fun g8 => ?_) (fun g8 => ?_)
  · have g8 := bI_0 g8
    refine lv_lconst (v := 0) hx hb d_V_cell_32 (by decide) ?_
    exact rfL hx hb hr hlk hS () (by rw [if_neg (by rw [g8]; decide)]) hP hD (Nat.le_of_ble_eq_true rfl) (Nat.le_of_ble_eq_true rfl) d_V_cell_33
  · have g8 := bI_n0 g8
    refine lv_aload_n hx hb d_V_cell_23 rfl (lv_at hl 0 rfl) ?_
    refine lv_iload_n hx hb d_V_cell_24 rfl (lv_at hl 2 rfl) ?_
    refine lv_iload_n hx hb d_V_cell_25 rfl (lv_at hl 3 rfl) ?_
    refine jkL (wr := []) (rnV (As := [.int (nI r), .int (nI w)]) (rest := []) hx hb hml hown hE hK (hN _ _ hS) hP hD (v_TnumberAt l D dA H.size (LiW dA la g ++ (VW dA h ad x)) ta t r w (show t.cN ≤ 65536 from by omega) (show r * t.wi + w < t.cN from by omega)) (q0 := 0) rfl rfl w1414 w1729 w1415 w1416 w807 rfl rfl ⟨⟨by decide, by decide⟩, rfl⟩ ⟨(Nat.le_of_ble_eq_true rfl), (Nat.le_of_ble_eq_true rfl)⟩ rfl hl.1 rfl (Nat.le_of_ble_eq_true rfl) d_V_cell_26 ⟨(Nat.le_of_ble_eq_true rfl), (Nat.le_of_ble_eq_true rfl)⟩) hP hD hS hA (fun r9 u10 H locs hp9 hP hD hS => ?_)
    have hP : va_P D vwCl (TbW dA ta t ++ (LiW dA la g ++ (VW dA h ad x))) H := hP
    have hD : va_D A (TbW dA ta t ++ (LiW dA la g ++ (VW dA h ad x))) := hD
    replace hp9 : t.ce (r * t.wi + w) = r9 := Eq.symm hp9
    subst hp9
    refine lv_goto hx hb d_V_cell_29 (tgt := 33) rfl ?_
    exact rfL hx hb hr hlk hS () (by rw [if_pos g8]) hP hD (Nat.le_of_ble_eq_true rfl) (Nat.le_of_ble_eq_true rfl) d_V_cell_33
end
section
set_option maxHeartbeats 4000000 in
set_option maxRecDepth 100000 in
theorem v_TrowText2 (l : Launch) (D : va_G) (dA : Nat → ClassId) (sz : Nat) (ws : va_W) (ta : Nat → Nat) (t : TB) (NL : Nat → List Int32) (RS : Nat → List LB) (r : Nat) (k : Nat) (w0 : va_W) (hsub : ∀ c, c ∈ w0 → c ∈ ws) (hnm : nmOk dA w0 t.nm t.nc NL) (hnc : t.nc ≤ 6) (hrs : rsOk dA w0 t.rs t.rc RS) (h1 : t.rc ≤ 256) (h2 : r < t.rc) (h3 : k < t.nc) : Met l ⟨"SeriesVault$Table", "rowText", "(II)LSeriesVault$Word;"⟩ [Cond.code ⟨"SeriesVault$Table", "rowText", "(II)LSeriesVault$Word;"⟩ prog_11_method_12_code 3 (some (FieldType.object "SeriesVault$Word"))] { frames := 3, cells := 0, slots := 0, locals := 44 } (pC D dA [.ref (ta 0), .int (nI r), .int (nI k)] (TbW dA ta t ++ (ws)) sz) (va_Qr (fun (_ : Unit) => True) (fun (u9 : Unit) (r9 : Nat) t9 => (isWo dA w0 r9 (valS (RS r) (NL k))) ∧ bW D (va_A (TbW dA ta t ++ (ws)) sz) (TbW dA ta t ++ (ws)) t9) (va_A (TbW dA ta t ++ (ws)) sz)) 0 0 (va_A (TbW dA ta t ++ (ws)) sz) := by
  refine mkC (y := ⟨"SeriesVault$Table", "rowText", "(II)LSeriesVault$Word;"⟩) (cc := prog_11_method_12_code) (maxL := 3) (av := [.ref (ta 0), .int (nI r), .int (nI k)]) (ws := TbW dA ta t ++ (ws)) (sz := sz) (Qc := fun A => va_Qr (fun (_ : Unit) => True) (fun (u9 : Unit) (r9 : Nat) t9 => (isWo dA w0 r9 (valS (RS r) (NL k))) ∧ bW D A (TbW dA ta t ++ (ws)) t9) A) (by decide) (Nat.le_of_ble_eq_true rfl) ?_
  intro A p e s m below meth c ls hsz hB
  obtain ⟨hx, hb, hr, hml, hown, hin, hlk, hE, hK, hP, hD, hS, hA, hN, hl⟩ := hB
  have hown : s.vm.findClass "SeriesVault$Table" = some m.cls := hown
  have hl : lv_has ls 3 [(0, .ref (ta 0)), (1, .int (nI r)), (2, .int (nI k))] := hl
  obtain ⟨H, hH⟩ : ∃ z, z = s.heap := ⟨_, rfl⟩
  have hP : va_P D vwCl (TbW dA ta t ++ (ws)) H := by rw [hH]; exact hP
  have hS : va_S A s.heap H [] := by rw [hH]; exact hS
  rw [← hH]
  refine lv_aload_n hx hb d_T_rowText_0 rfl (lv_at hl 0 rfl) ?_
  refine gF (v := .ref (ta 2)) hx hb hown hE hK hP 0 rfl rfl layT 4 (by decide) w787 rfl d_T_rowText_1 ?_
  obtain ⟨a1, er1, hs1, ho1⟩ := hrs r (by omega)
  have hs1c := hs1
  obtain ⟨na1, va1, no1, tx1, fn1, fv1, j1, -⟩ := hs1c
  have j1b := hsub _ j1
  obtain ⟨p1, ep1, wp1, lp1⟩ := hnm k h3
  refine lv_iload_n hx hb d_T_rowText_4 rfl (lv_at hl 1 rfl) ?_
  refine nqld (f := t.rs) (n := 256) hx hb hK hP (2) 5 rfl rfl (r) (by omega) (by decide) er1 d_T_rowText_5 ?_
  refine lv_aload_n hx hb d_T_rowText_6 rfl (lv_at hl 0 rfl) ?_
  refine gF (v := .ref (ta 1)) hx hb hown hE hK hP 0 rfl rfl layT 0 (by decide) w784 rfl d_T_rowText_7 ?_
  refine lv_iload_n hx hb d_T_rowText_10 rfl (lv_at hl 2 rfl) ?_
  refine nqld (f := t.nm) (n := 6) hx hb hK hP (1) 6 rfl rfl (k) (by omega) (by decide) ep1 d_T_rowText_11 ?_
  obtain ⟨qp1, ep2⟩ := List.getElem?_of_mem (show ((a1, .inr (11, [.ref na1, .ref va1, .ref no1, .ref tx1])) : Nat × va_E) ∈ TbW dA ta t ++ (ws) from (List.mem_append_right _ j1b))
  refine jkR (wr := []) (rnV (As := [.ref p1]) (rest := []) hx hb hml hown hE hK (hN _ _ hS) hP hD (v_SvalueOf2 l D dA H.size (TbW dA ta t ++ (ws)) w0 a1 (RS r) p1 (NL k) (fun c hc => (fun _ hm => (List.mem_append_right _ hm)) c (hsub c hc)) hs1 ho1 (isWo_m (fun c hc => (fun _ hm => (List.mem_append_right _ hm)) c (hsub c hc)) wp1) lp1) (q0 := qp1) ep2 rfl w1378 w1377 w1379 w1380 w1288 rfl rfl ⟨⟨by decide, by decide⟩, rfl⟩ ⟨(Nat.le_of_ble_eq_true rfl), (Nat.le_of_ble_eq_true rfl)⟩ rfl hl.1 rfl (Nat.le_of_ble_eq_true rfl) d_T_rowText_12 ⟨(Nat.le_of_ble_eq_true rfl), (Nat.le_of_ble_eq_true rfl)⟩) hP hD hS hA (fun u4 r3 H locs hp9 hP hD hS => ?_)
  have hP : va_P D vwCl (TbW dA ta t ++ (ws)) H := hP
  have hD : va_D A (TbW dA ta t ++ (ws)) := hD
  have f_w_5 := hp9
  exact rkR hx hb hr (Or.inl ⟨_, rfl⟩) hlk hS () f_w_5 hP hD (Nat.le_of_ble_eq_true rfl) (Nat.le_of_ble_eq_true rfl) d_T_rowText_15
theorem d_V_text_5 : decode prog_1_method_47_code 5 = .ok (.aload_n 0, 1) := by decide +kernel
theorem d_V_text_6 : decode prog_1_method_47_code 6 = .ok (.getfield 63, 3) := by decide +kernel
theorem d_V_text_9 : decode prog_1_method_47_code 9 = .ok (.invokevirtual 386, 3) := by decide +kernel
theorem d_V_text_12 : decode prog_1_method_47_code 12 = .ok (.astore 4, 2) := by decide +kernel
theorem d_V_text_14 : decode prog_1_method_47_code 14 = .ok (.iload_n 2, 1) := by decide +kernel
theorem d_V_text_15 : decode prog_1_method_47_code 15 = .ok (.ifCond .lt 12, 3) := by decide +kernel
theorem d_V_text_27 : decode prog_1_method_47_code 27 = .ok (.iconst (-1), 1) := by decide +kernel
theorem d_V_text_28 : decode prog_1_method_47_code 28 = .ok (.goto 14, 3) := by decide +kernel
theorem d_V_text_42 : decode prog_1_method_47_code 42 = .ok (.ireturn, 1) := by decide +kernel
theorem d_V_text_18 : decode prog_1_method_47_code 18 = .ok (.iload_n 2, 1) := by decide +kernel
theorem d_V_text_19 : decode prog_1_method_47_code 19 = .ok (.aload 4, 2) := by decide +kernel
theorem d_V_text_21 : decode prog_1_method_47_code 21 = .ok (.getfield 395, 3) := by decide +kernel
theorem d_V_text_24 : decode prog_1_method_47_code 24 = .ok (.if_icmp .lt 7, 3) := by decide +kernel
set_option maxHeartbeats 4000000 in
set_option maxRecDepth 100000 in
theorem v_text_n (l : Launch) (D : va_G) (dA : Nat → ClassId) (sz : Nat) (h : Nat) (ad : Nat → Nat) (ta : Nat → Nat) (t : TB) (la : Nat → Nat) (g : LI) (x : VS) (r : Nat) (k : Int32) (i : Int32) (hla : la 0 = ad 25) (hs : g.sz ≤ g.eN) (hn : g.eN ≤ 65536) (h1 : 0 < g.sz) (hel : g.el 0 = some (ta 0)) (ht : x.hasTable = true) (hr1 : r < t.rc) (hr2 : t.rc ≤ 256) (hnc : t.nc ≤ 6) (h0 : k < 0 ∨ nI t.nc ≤ k) : Met l ⟨"SeriesVault", "text", "(III)I"⟩ [Cond.code ⟨"SeriesVault", "text", "(III)I"⟩ prog_1_method_47_code 5 (some FieldType.int)] { frames := 6, cells := 0, slots := 0, locals := 105 } (pC D dA [.ref h, .int (nI r), .int k, .int i] (TbW dA ta t ++ (LiW dA la g ++ (VW dA h ad x))) sz) (va_Qi (fun (r9 : Int32) (u9 : Unit) => r9 = (-1)) (fun (u9 : Unit) t9 => bW D (va_A (TbW dA ta t ++ (LiW dA la g ++ (VW dA h ad x))) sz) (TbW dA ta t ++ (LiW dA la g ++ (VW dA h ad x))) t9) (va_A (TbW dA ta t ++ (LiW dA la g ++ (VW dA h ad x))) sz)) 0 0 (va_A (TbW dA ta t ++ (LiW dA la g ++ (VW dA h ad x))) sz) := by
  refine mkC (y := ⟨"SeriesVault", "text", "(III)I"⟩) (cc := prog_1_method_47_code) (maxL := 5) (av := [.ref h, .int (nI r), .int k, .int i]) (ws := TbW dA ta t ++ (LiW dA la g ++ (VW dA h ad x))) (sz := sz) (Qc := fun A => va_Qi (fun (r9 : Int32) (u9 : Unit) => r9 = (-1)) (fun (u9 : Unit) t9 => bW D A (TbW dA ta t ++ (LiW dA la g ++ (VW dA h ad x))) t9) A) (by decide) (Nat.le_of_ble_eq_true rfl) ?_
  intro A p e s m below meth c ls hsz hB
  obtain ⟨hx, hb, hr, hml, hown, hin, hlk, hE, hK, hP, hD, hS, hA, hN, hl⟩ := hB
  have hown : s.vm.findClass "SeriesVault" = some m.cls := hown
  have hl : lv_has ls 5 [(0, .ref h), (1, .int (nI r)), (2, .int k), (3, .int i)] := hl
  obtain ⟨H, hH⟩ : ∃ z, z = s.heap := ⟨_, rfl⟩
  have hP : va_P D vwCl (TbW dA ta t ++ (LiW dA la g ++ (VW dA h ad x))) H := by rw [hH]; exact hP
  have hS : va_S A s.heap H [] := by rw [hH]; exact hS
  rw [← hH]
  refine lv_aload_n hx hb d_V_text_0 rfl (lv_at hl 0 rfl) ?_
  refine lv_iload_n hx hb d_V_text_1 rfl (lv_at hl 1 rfl) ?_
  refine jkV (wr := []) (rnV (As := [.int (nI r)]) (rest := []) hx hb hml hown hE hK (hN _ _ hS) hP hD (v_checkRow_1 l D dA H.size h ad ta t la g x r hla hs hn h1 hel ht (show r < t.rc from by omega) (show t.rc ≤ 256 from by omega)) (q0 := 7) rfl rfl w305 w304 w306 w307 w277 rfl rfl ⟨⟨by decide, by decide⟩, rfl⟩ ⟨(Nat.le_of_ble_eq_true rfl), (Nat.le_of_ble_eq_true rfl)⟩ rfl hl.1 rfl (Nat.le_of_ble_eq_true rfl) d_V_text_2 ⟨(Nat.le_of_ble_eq_true rfl), (Nat.le_of_ble_eq_true rfl)⟩) hP hD hS hA (fun u2 H locs hp9 hP hD hS => ?_)
  have hP : va_P D vwCl (TbW dA ta t ++ (LiW dA la g ++ (VW dA h ad x))) H := hP
  have hD : va_D A (TbW dA ta t ++ (LiW dA la g ++ (VW dA h ad x))) := hD
  refine lv_aload_n hx hb d_V_text_5 rfl (lv_at hl 0 rfl) ?_
  refine gF (v := .ref (ad 24)) hx hb hown hE hK hP 7 rfl rfl layV 16 (by decide) w850 rfl d_V_text_6 ?_
  refine jkR (wr := []) (rnV (As := []) (rest := []) hx hb hml hown hE hK (hN _ _ hS) hP hD (v_Atable l D dA H.size h ad ta t la g x hla hs hn h1 hel) (q0 := 44) rfl rfl w1722 w1721 w1723 w1724 w846 rfl rfl ⟨⟨by decide, by decide⟩, rfl⟩ ⟨(Nat.le_of_ble_eq_true rfl), (Nat.le_of_ble_eq_true rfl)⟩ rfl hl.1 rfl (Nat.le_of_ble_eq_true rfl) d_V_text_9 ⟨(Nat.le_of_ble_eq_true rfl), (Nat.le_of_ble_eq_true rfl)⟩) hP hD hS hA (fun u4 r3 H locs hp9 hP hD hS => ?_)
  have hP : va_P D vwCl (TbW dA ta t ++ (LiW dA la g ++ (VW dA h ad x))) H := hP
  have hD : va_D A (TbW dA ta t ++ (LiW dA la g ++ (VW dA h ad x))) := hD
  have f_e_5 := hp9
  refine lv_astore hx hb d_V_text_12 hl (by decide) rfl (fun ls hl => ?_)
  have hl : lv_has ls 5 [(4, .ref r3), (0, .ref h), (1, .int (nI r)), (2, .int k), (3, .int i)] := hl
  refine lv_iload_n hx hb d_V_text_14 rfl (lv_at hl 3 rfl) ?_
  refine lv_if_lt hx hb d_V_text_15 (tgt := 27) rfl (fun g6 => ?_) (fun g6 => ?_)
  · have g6 := g6
    refine lv_iconst (v := (-1)) hx hb d_V_text_27 (by decide) ?_
    refine lv_goto hx hb d_V_text_28 (tgt := 42) rfl ?_
    exact rfI hx hb hr hlk hS () rfl hP hD (Nat.le_of_ble_eq_true rfl) (Nat.le_of_ble_eq_true rfl) d_V_text_42
  · have g6 := g6
    refine lv_iload_n hx hb d_V_text_18 rfl (lv_at hl 3 rfl) ?_
    refine lv_aload hx hb d_V_text_19 (lv_at hl 0 rfl) ?_
    have e9 := f_e_5
    subst e9
    refine gFN (v := .int (nI t.nc)) hx hb hown hE hK hP 0 rfl rfl layT 1 (by decide) w1725 rfl d_V_text_21 ?_
    refine lv_icmp_lt hx hb d_V_text_24 (tgt := 31) rfl (fun h9 => absurd h9 (Int32.not_lt.mpr (h0.resolve_left g6))) (fun _ => ?_)
    refine lv_iconst (v := (-1)) hx hb d_V_text_27 (by decide) ?_
    refine lv_goto hx hb d_V_text_28 (tgt := 42) rfl ?_
    exact rfI hx hb hr hlk hS () rfl hP hD (Nat.le_of_ble_eq_true rfl) (Nat.le_of_ble_eq_true rfl) d_V_text_42
theorem d_V_text_31 : decode prog_1_method_47_code 31 = .ok (.aload 4, 2) := by decide +kernel
theorem d_V_text_33 : decode prog_1_method_47_code 33 = .ok (.iload_n 1, 1) := by decide +kernel
theorem d_V_text_34 : decode prog_1_method_47_code 34 = .ok (.iload_n 2, 1) := by decide +kernel
theorem d_V_text_35 : decode prog_1_method_47_code 35 = .ok (.invokevirtual 401, 3) := by decide +kernel
theorem d_V_text_38 : decode prog_1_method_47_code 38 = .ok (.iload_n 3, 1) := by decide +kernel
theorem d_V_text_39 : decode prog_1_method_47_code 39 = .ok (.invokevirtual 247, 3) := by decide +kernel
theorem w1730 : Cond.methodLink "SeriesVault" 401 ⟨"SeriesVault$Table", "rowText", "(II)LSeriesVault$Word;"⟩ ∈ aW := aw_of (tb_8 (List.mem_of_getElem? (i := 82) rfl)) rfl
theorem w1731 : Cond.code ⟨"SeriesVault$Table", "rowText", "(II)LSeriesVault$Word;"⟩ prog_11_method_12_code 3 (some (FieldType.object "SeriesVault$Word")) ∈ aW := aw_of (tb_8 (List.mem_of_getElem? (i := 85) rfl)) rfl
theorem w1732 : Cond.instanceMethod ⟨"SeriesVault$Table", "rowText", "(II)LSeriesVault$Word;"⟩ ∈ aW := aw_of (tb_8 (List.mem_of_getElem? (i := 83) rfl)) rfl
theorem w1733 : Cond.selects "SeriesVault$Table" ⟨"SeriesVault$Table", "rowText", "(II)LSeriesVault$Word;"⟩ ⟨"SeriesVault$Table", "rowText", "(II)LSeriesVault$Word;"⟩ ∈ aW := aw_of (tb_8 (List.mem_of_getElem? (i := 84) rfl)) rfl
set_option maxHeartbeats 4000000 in
set_option maxRecDepth 100000 in
theorem v_text_1 (l : Launch) (D : va_G) (dA : Nat → ClassId) (sz : Nat) (h : Nat) (ad : Nat → Nat) (ta : Nat → Nat) (t : TB) (la : Nat → Nat) (g : LI) (x : VS) (r : Nat) (NL : Nat → List Int32) (RS : Nat → List LB) (k : Nat) (i : Nat) (hla : la 0 = ad 25) (hs : g.sz ≤ g.eN) (hn : g.eN ≤ 65536) (h1 : 0 < g.sz) (hel : g.el 0 = some (ta 0)) (ht : x.hasTable = true) (hr1 : r < t.rc) (hr2 : t.rc ≤ 256) (hnc : t.nc ≤ 6) (hnm : nmOk dA x.pl t.nm t.nc NL) (hrs : rsOk dA x.pl t.rs t.rc RS) (hk : k < t.nc) (hi : i < (valS (RS r) (NL k)).length) : Met l ⟨"SeriesVault", "text", "(III)I"⟩ [Cond.code ⟨"SeriesVault", "text", "(III)I"⟩ prog_1_method_47_code 5 (some FieldType.int)] { frames := 6, cells := 0, slots := 0, locals := 105 } (pC D dA [.ref h, .int (nI r), .int (nI k), .int (nI i)] (TbW dA ta t ++ (LiW dA la g ++ (VW dA h ad x))) sz) (va_Qi (fun (r9 : Int32) (u9 : Unit) => r9 = (valS (RS r) (NL k)).getD i 0 &&& 255) (fun (u9 : Unit) t9 => bW D (va_A (TbW dA ta t ++ (LiW dA la g ++ (VW dA h ad x))) sz) (TbW dA ta t ++ (LiW dA la g ++ (VW dA h ad x))) t9) (va_A (TbW dA ta t ++ (LiW dA la g ++ (VW dA h ad x))) sz)) 0 0 (va_A (TbW dA ta t ++ (LiW dA la g ++ (VW dA h ad x))) sz) := by
  refine mkC (y := ⟨"SeriesVault", "text", "(III)I"⟩) (cc := prog_1_method_47_code) (maxL := 5) (av := [.ref h, .int (nI r), .int (nI k), .int (nI i)]) (ws := TbW dA ta t ++ (LiW dA la g ++ (VW dA h ad x))) (sz := sz) (Qc := fun A => va_Qi (fun (r9 : Int32) (u9 : Unit) => r9 = (valS (RS r) (NL k)).getD i 0 &&& 255) (fun (u9 : Unit) t9 => bW D A (TbW dA ta t ++ (LiW dA la g ++ (VW dA h ad x))) t9) A) (by decide) (Nat.le_of_ble_eq_true rfl) ?_
  intro A p e s m below meth c ls hsz hB
  obtain ⟨hx, hb, hr, hml, hown, hin, hlk, hE, hK, hP, hD, hS, hA, hN, hl⟩ := hB
  have hown : s.vm.findClass "SeriesVault" = some m.cls := hown
  have hl : lv_has ls 5 [(0, .ref h), (1, .int (nI r)), (2, .int (nI k)), (3, .int (nI i))] := hl
  obtain ⟨H, hH⟩ : ∃ z, z = s.heap := ⟨_, rfl⟩
  have hP : va_P D vwCl (TbW dA ta t ++ (LiW dA la g ++ (VW dA h ad x))) H := by rw [hH]; exact hP
  have hS : va_S A s.heap H [] := by rw [hH]; exact hS
  rw [← hH]
  refine lv_aload_n hx hb d_V_text_0 rfl (lv_at hl 0 rfl) ?_
  refine lv_iload_n hx hb d_V_text_1 rfl (lv_at hl 1 rfl) ?_
  refine jkV (wr := []) (rnV (As := [.int (nI r)]) (rest := []) hx hb hml hown hE hK (hN _ _ hS) hP hD (v_checkRow_1 l D dA H.size h ad ta t la g x r hla hs hn h1 hel ht (show r < t.rc from by omega) (show t.rc ≤ 256 from by omega)) (q0 := 7) rfl rfl w305 w304 w306 w307 w277 rfl rfl ⟨⟨by decide, by decide⟩, rfl⟩ ⟨(Nat.le_of_ble_eq_true rfl), (Nat.le_of_ble_eq_true rfl)⟩ rfl hl.1 rfl (Nat.le_of_ble_eq_true rfl) d_V_text_2 ⟨(Nat.le_of_ble_eq_true rfl), (Nat.le_of_ble_eq_true rfl)⟩) hP hD hS hA (fun u2 H locs hp9 hP hD hS => ?_)
  have hP : va_P D vwCl (TbW dA ta t ++ (LiW dA la g ++ (VW dA h ad x))) H := hP
  have hD : va_D A (TbW dA ta t ++ (LiW dA la g ++ (VW dA h ad x))) := hD
  refine lv_aload_n hx hb d_V_text_5 rfl (lv_at hl 0 rfl) ?_
  refine gF (v := .ref (ad 24)) hx hb hown hE hK hP 7 rfl rfl layV 16 (by decide) w850 rfl d_V_text_6 ?_
  refine jkR (wr := []) (rnV (As := []) (rest := []) hx hb hml hown hE hK (hN _ _ hS) hP hD (v_Atable l D dA H.size h ad ta t la g x hla hs hn h1 hel) (q0 := 44) rfl rfl w1722 w1721 w1723 w1724 w846 rfl rfl ⟨⟨by decide, by decide⟩, rfl⟩ ⟨(Nat.le_of_ble_eq_true rfl), (Nat.le_of_ble_eq_true rfl)⟩ rfl hl.1 rfl (Nat.le_of_ble_eq_true rfl) d_V_text_9 ⟨(Nat.le_of_ble_eq_true rfl), (Nat.le_of_ble_eq_true rfl)⟩) hP hD hS hA (fun u4 r3 H locs hp9 hP hD hS => ?_)
  have hP : va_P D vwCl (TbW dA ta t ++ (LiW dA la g ++ (VW dA h ad x))) H := hP
  have hD : va_D A (TbW dA ta t ++ (LiW dA la g ++ (VW dA h ad x))) := hD
  have f_e_5 := hp9
  refine lv_astore hx hb d_V_text_12 hl (by decide) rfl (fun ls hl => ?_)
  have hl : lv_has ls 5 [(4, .ref r3), (0, .ref h), (1, .int (nI r)), (2, .int (nI k)), (3, .int (nI i))] := hl
  refine lv_iload_n hx hb d_V_text_14 rfl (lv_at hl 3 rfl) ?_
  refine lv_if_lt hx hb d_V_text_15 (tgt := 27) rfl (fun h9 => absurd h9 (nI_pos (n := k) (by omega))) (fun _ => ?_)
  refine lv_iload_n hx hb d_V_text_18 rfl (lv_at hl 3 rfl) ?_
  refine lv_aload hx hb d_V_text_19 (lv_at hl 0 rfl) ?_
  have e9 := f_e_5
  subst e9
  refine gFN (v := .int (nI t.nc)) hx hb hown hE hK hP 0 rfl rfl layT 1 (by decide) w1725 rfl d_V_text_21 ?_
  refine lv_icmp_lt hx hb d_V_text_24 (tgt := 31) rfl (fun _ => ?_) (fun h9 => absurd ((nI_ltI (a := k) (b := t.nc) (by omega) (by omega)).mpr hk) h9)
  refine lv_aload hx hb d_V_text_31 (lv_at hl 0 rfl) ?_
  refine lv_iload_n hx hb d_V_text_33 rfl (lv_at hl 2 rfl) ?_
  refine lv_iload_n hx hb d_V_text_34 rfl (lv_at hl 3 rfl) ?_
  refine jkR (wr := []) (rnV (As := [.int (nI r), .int (nI k)]) (rest := []) hx hb hml hown hE hK (hN _ _ hS) hP hD (v_TrowText2 l D dA H.size (LiW dA la g ++ (VW dA h ad x)) ta t NL RS r k x.pl (fun _ hm => (List.mem_append_right _ (plm hm))) hnm hnc hrs hr2 (show r < t.rc from by omega) (show k < t.nc from by omega)) (q0 := 0) rfl rfl w1731 w1730 w1732 w1733 w807 rfl rfl ⟨⟨by decide, by decide⟩, rfl⟩ ⟨(Nat.le_of_ble_eq_true rfl), (Nat.le_of_ble_eq_true rfl)⟩ rfl hl.1 rfl (Nat.le_of_ble_eq_true rfl) d_V_text_35 ⟨(Nat.le_of_ble_eq_true rfl), (Nat.le_of_ble_eq_true rfl)⟩) hP hD hS hA (fun u6 wq H locs hp9 hP hD hS => ?_)
  have hP : va_P D vwCl (TbW dA ta t ++ (LiW dA la g ++ (VW dA h ad x))) H := hP
  have hD : va_D A (TbW dA ta t ++ (LiW dA la g ++ (VW dA h ad x))) := hD
  have f_w_7 := hp9
  refine lv_iload_n hx hb d_V_text_38 rfl (lv_at hl 4 rfl) ?_
  have w9 := f_w_7
  have w9c := w9
  obtain ⟨bq, fq9, kq9, -⟩ := w9c
  have vl9 := valS_le (M := NL k) (S := RS r) (by obtain ⟨a1, -, -, ho1⟩ := hrs r hr1; exact ho1)
  obtain ⟨qp8, ep9⟩ := List.getElem?_of_mem (show ((wq, .inr (10, [.ref bq])) : Nat × va_E) ∈ TbW dA ta t ++ (LiW dA la g ++ (VW dA h ad x)) from (List.mem_append_right _ (List.mem_append_right _ (plm kq9))))
  refine jkI (wr := []) (rnV (As := [.int (nI i)]) (rest := []) hx hb hml hown hE hK (hN _ _ hS) hP hD (v_Wat l D dA H.size (TbW dA ta t ++ (LiW dA la g ++ (VW dA h ad x))) wq (valS (RS r) (NL k)) i (isWo_m (fun _ hm => (List.mem_append_right _ (List.mem_append_right _ (plm hm)))) w9) (show (valS (RS r) (NL k)).length ≤ 65536 by omega) hi) (q0 := qp8) ep9 rfl w1328 w1327 w1329 w1330 w1281 rfl rfl ⟨⟨by decide, by decide⟩, rfl⟩ ⟨(Nat.le_of_ble_eq_true rfl), (Nat.le_of_ble_eq_true rfl)⟩ rfl hl.1 rfl (Nat.le_of_ble_eq_true rfl) d_V_text_39 ⟨(Nat.le_of_ble_eq_true rfl), (Nat.le_of_ble_eq_true rfl)⟩) hP hD hS hA (fun r10 u11 H locs hp9 hP hD hS => ?_)
  have hP : va_P D vwCl (TbW dA ta t ++ (LiW dA la g ++ (VW dA h ad x))) H := hP
  have hD : va_D A (TbW dA ta t ++ (LiW dA la g ++ (VW dA h ad x))) := hD
  replace hp9 : (valS (RS r) (NL k)).getD i 0 &&& 255 = r10 := Eq.symm hp9
  subst hp9
  exact rfI hx hb hr hlk hS () rfl hP hD (Nat.le_of_ble_eq_true rfl) (Nat.le_of_ble_eq_true rfl) d_V_text_42
set_option maxHeartbeats 4000000 in
set_option maxRecDepth 100000 in
theorem v_text_0 (l : Launch) (D : va_G) (dA : Nat → ClassId) (sz : Nat) (h : Nat) (ad : Nat → Nat) (ta : Nat → Nat) (t : TB) (la : Nat → Nat) (g : LI) (x : VS) (r : Nat) (NL : Nat → List Int32) (RS : Nat → List LB) (k : Nat) (i : Int32) (hla : la 0 = ad 25) (hs : g.sz ≤ g.eN) (hn : g.eN ≤ 65536) (h1 : 0 < g.sz) (hel : g.el 0 = some (ta 0)) (ht : x.hasTable = true) (hr1 : r < t.rc) (hr2 : t.rc ≤ 256) (hnc : t.nc ≤ 6) (hnm : nmOk dA x.pl t.nm t.nc NL) (hrs : rsOk dA x.pl t.rs t.rc RS) (hk : k < t.nc) (hi : i < 0 ∨ nI (valS (RS r) (NL k)).length ≤ i) : Met l ⟨"SeriesVault", "text", "(III)I"⟩ [Cond.code ⟨"SeriesVault", "text", "(III)I"⟩ prog_1_method_47_code 5 (some FieldType.int)] { frames := 6, cells := 0, slots := 0, locals := 105 } (pC D dA [.ref h, .int (nI r), .int (nI k), .int i] (TbW dA ta t ++ (LiW dA la g ++ (VW dA h ad x))) sz) (va_Qi (fun (r9 : Int32) (u9 : Unit) => r9 = (-1)) (fun (u9 : Unit) t9 => bW D (va_A (TbW dA ta t ++ (LiW dA la g ++ (VW dA h ad x))) sz) (TbW dA ta t ++ (LiW dA la g ++ (VW dA h ad x))) t9) (va_A (TbW dA ta t ++ (LiW dA la g ++ (VW dA h ad x))) sz)) 0 0 (va_A (TbW dA ta t ++ (LiW dA la g ++ (VW dA h ad x))) sz) := by
  refine mkC (y := ⟨"SeriesVault", "text", "(III)I"⟩) (cc := prog_1_method_47_code) (maxL := 5) (av := [.ref h, .int (nI r), .int (nI k), .int i]) (ws := TbW dA ta t ++ (LiW dA la g ++ (VW dA h ad x))) (sz := sz) (Qc := fun A => va_Qi (fun (r9 : Int32) (u9 : Unit) => r9 = (-1)) (fun (u9 : Unit) t9 => bW D A (TbW dA ta t ++ (LiW dA la g ++ (VW dA h ad x))) t9) A) (by decide) (Nat.le_of_ble_eq_true rfl) ?_
  intro A p e s m below meth c ls hsz hB
  obtain ⟨hx, hb, hr, hml, hown, hin, hlk, hE, hK, hP, hD, hS, hA, hN, hl⟩ := hB
  have hown : s.vm.findClass "SeriesVault" = some m.cls := hown
  have hl : lv_has ls 5 [(0, .ref h), (1, .int (nI r)), (2, .int (nI k)), (3, .int i)] := hl
  obtain ⟨H, hH⟩ : ∃ z, z = s.heap := ⟨_, rfl⟩
  have hP : va_P D vwCl (TbW dA ta t ++ (LiW dA la g ++ (VW dA h ad x))) H := by rw [hH]; exact hP
  have hS : va_S A s.heap H [] := by rw [hH]; exact hS
  rw [← hH]
  refine lv_aload_n hx hb d_V_text_0 rfl (lv_at hl 0 rfl) ?_
  refine lv_iload_n hx hb d_V_text_1 rfl (lv_at hl 1 rfl) ?_
  refine jkV (wr := []) (rnV (As := [.int (nI r)]) (rest := []) hx hb hml hown hE hK (hN _ _ hS) hP hD (v_checkRow_1 l D dA H.size h ad ta t la g x r hla hs hn h1 hel ht (show r < t.rc from by omega) (show t.rc ≤ 256 from by omega)) (q0 := 7) rfl rfl w305 w304 w306 w307 w277 rfl rfl ⟨⟨by decide, by decide⟩, rfl⟩ ⟨(Nat.le_of_ble_eq_true rfl), (Nat.le_of_ble_eq_true rfl)⟩ rfl hl.1 rfl (Nat.le_of_ble_eq_true rfl) d_V_text_2 ⟨(Nat.le_of_ble_eq_true rfl), (Nat.le_of_ble_eq_true rfl)⟩) hP hD hS hA (fun u2 H locs hp9 hP hD hS => ?_)
  have hP : va_P D vwCl (TbW dA ta t ++ (LiW dA la g ++ (VW dA h ad x))) H := hP
  have hD : va_D A (TbW dA ta t ++ (LiW dA la g ++ (VW dA h ad x))) := hD
  refine lv_aload_n hx hb d_V_text_5 rfl (lv_at hl 0 rfl) ?_
  refine gF (v := .ref (ad 24)) hx hb hown hE hK hP 7 rfl rfl layV 16 (by decide) w850 rfl d_V_text_6 ?_
  refine jkR (wr := []) (rnV (As := []) (rest := []) hx hb hml hown hE hK (hN _ _ hS) hP hD (v_Atable l D dA H.size h ad ta t la g x hla hs hn h1 hel) (q0 := 44) rfl rfl w1722 w1721 w1723 w1724 w846 rfl rfl ⟨⟨by decide, by decide⟩, rfl⟩ ⟨(Nat.le_of_ble_eq_true rfl), (Nat.le_of_ble_eq_true rfl)⟩ rfl hl.1 rfl (Nat.le_of_ble_eq_true rfl) d_V_text_9 ⟨(Nat.le_of_ble_eq_true rfl), (Nat.le_of_ble_eq_true rfl)⟩) hP hD hS hA (fun u4 r3 H locs hp9 hP hD hS => ?_)
  have hP : va_P D vwCl (TbW dA ta t ++ (LiW dA la g ++ (VW dA h ad x))) H := hP
  have hD : va_D A (TbW dA ta t ++ (LiW dA la g ++ (VW dA h ad x))) := hD
  have f_e_5 := hp9
  refine lv_astore hx hb d_V_text_12 hl (by decide) rfl (fun ls hl => ?_)
  have hl : lv_has ls 5 [(4, .ref r3), (0, .ref h), (1, .int (nI r)), (2, .int (nI k)), (3, .int i)] := hl
  refine lv_iload_n hx hb d_V_text_14 rfl (lv_at hl 3 rfl) ?_
  refine lv_if_lt hx hb d_V_text_15 (tgt := 27) rfl (fun h9 => absurd h9 (nI_pos (n := k) (by omega))) (fun _ => ?_)
  refine lv_iload_n hx hb d_V_text_18 rfl (lv_at hl 3 rfl) ?_
  refine lv_aload hx hb d_V_text_19 (lv_at hl 0 rfl) ?_
  have e9 := f_e_5
  subst e9
  refine gFN (v := .int (nI t.nc)) hx hb hown hE hK hP 0 rfl rfl layT 1 (by decide) w1725 rfl d_V_text_21 ?_
  refine lv_icmp_lt hx hb d_V_text_24 (tgt := 31) rfl (fun _ => ?_) (fun h9 => absurd ((nI_ltI (a := k) (b := t.nc) (by omega) (by omega)).mpr hk) h9)
  refine lv_aload hx hb d_V_text_31 (lv_at hl 0 rfl) ?_
  refine lv_iload_n hx hb d_V_text_33 rfl (lv_at hl 2 rfl) ?_
  refine lv_iload_n hx hb d_V_text_34 rfl (lv_at hl 3 rfl) ?_
  refine jkR (wr := []) (rnV (As := [.int (nI r), .int (nI k)]) (rest := []) hx hb hml hown hE hK (hN _ _ hS) hP hD (v_TrowText2 l D dA H.size (LiW dA la g ++ (VW dA h ad x)) ta t NL RS r k x.pl (fun _ hm => (List.mem_append_right _ (plm hm))) hnm hnc hrs hr2 (show r < t.rc from by omega) (show k < t.nc from by omega)) (q0 := 0) rfl rfl w1731 w1730 w1732 w1733 w807 rfl rfl ⟨⟨by decide, by decide⟩, rfl⟩ ⟨(Nat.le_of_ble_eq_true rfl), (Nat.le_of_ble_eq_true rfl)⟩ rfl hl.1 rfl (Nat.le_of_ble_eq_true rfl) d_V_text_35 ⟨(Nat.le_of_ble_eq_true rfl), (Nat.le_of_ble_eq_true rfl)⟩) hP hD hS hA (fun u6 wq H locs hp9 hP hD hS => ?_)
  have hP : va_P D vwCl (TbW dA ta t ++ (LiW dA la g ++ (VW dA h ad x))) H := hP
  have hD : va_D A (TbW dA ta t ++ (LiW dA la g ++ (VW dA h ad x))) := hD
  have f_w_7 := hp9
  refine lv_iload_n hx hb d_V_text_38 rfl (lv_at hl 4 rfl) ?_
  have w9 := f_w_7
  have w9c := w9
  obtain ⟨bq, fq9, kq9, -⟩ := w9c
  have vl9 := valS_le (M := NL k) (S := RS r) (by obtain ⟨a1, -, -, ho1⟩ := hrs r hr1; exact ho1)
  obtain ⟨qp8, ep9⟩ := List.getElem?_of_mem (show ((wq, .inr (10, [.ref bq])) : Nat × va_E) ∈ TbW dA ta t ++ (LiW dA la g ++ (VW dA h ad x)) from (List.mem_append_right _ (List.mem_append_right _ (plm kq9))))
  refine jkI (wr := []) (rnV (As := [.int i]) (rest := []) hx hb hml hown hE hK (hN _ _ hS) hP hD (v_Wat_n l D dA H.size (TbW dA ta t ++ (LiW dA la g ++ (VW dA h ad x))) wq (valS (RS r) (NL k)) i (isWo_m (fun _ hm => (List.mem_append_right _ (List.mem_append_right _ (plm hm)))) w9) (show (valS (RS r) (NL k)).length ≤ 65536 by omega) hi) (q0 := qp8) ep9 rfl w1328 w1327 w1329 w1330 w1281 rfl rfl ⟨⟨by decide, by decide⟩, rfl⟩ ⟨(Nat.le_of_ble_eq_true rfl), (Nat.le_of_ble_eq_true rfl)⟩ rfl hl.1 rfl (Nat.le_of_ble_eq_true rfl) d_V_text_39 ⟨(Nat.le_of_ble_eq_true rfl), (Nat.le_of_ble_eq_true rfl)⟩) hP hD hS hA (fun r10 u11 H locs hp9 hP hD hS => ?_)
  have hP : va_P D vwCl (TbW dA ta t ++ (LiW dA la g ++ (VW dA h ad x))) H := hP
  have hD : va_D A (TbW dA ta t ++ (LiW dA la g ++ (VW dA h ad x))) := hD
  replace hp9 : (-1) = r10 := Eq.symm hp9
  subst hp9
  exact rfI hx hb hr hlk hS () rfl hP hD (Nat.le_of_ble_eq_true rfl) (Nat.le_of_ble_eq_true rfl) d_V_text_42
end
section
set_option maxHeartbeats 4000000 in
set_option maxRecDepth 100000 in
theorem v_checkRow_xa (l : Launch) (htr : l.stackTraces = false) (D : va_G) (dA : Nat → ClassId) (sz : Nat) (h : Nat) (ad : Nat → Nat) (x : VS) (r : Int32) (ht : x.hasTable = false) : mX l ⟨"SeriesVault", "checkRow", "(I)V"⟩ [Cond.code ⟨"SeriesVault", "checkRow", "(I)V"⟩ prog_1_method_50_code 2 none] { frames := 6, cells := 1, slots := 6, locals := 81 } (pC D dA [.ref h, .int r] (VW dA h ad x) sz) "java/lang/IndexOutOfBoundsException" (fun st9 t9 => va_F (va_A (VW dA h ad x) sz) st9 t9 ∧ ∃ u9 : Unit, (True) ∧ bW D (va_A (VW dA h ad x) sz) (VW dA h ad x) t9) 1 6 (va_A (VW dA h ad x) sz) := by
  refine mkX (y := ⟨"SeriesVault", "checkRow", "(I)V"⟩) (cc := prog_1_method_50_code) (maxL := 2) (av := [.ref h, .int r]) (ws := VW dA h ad x) (sz := sz) (B := fun A => (fun st9 t9 => va_F A st9 t9 ∧ ∃ u9 : Unit, (True) ∧ bW D A (VW dA h ad x) t9)) (by decide) (Nat.le_of_ble_eq_true rfl) ?_
  intro A p e s m below meth c ls hsz hno hB
  obtain ⟨hx, hb, hr, hml, hown, hin, hlk, hE, hK, hP, hD, hS, hA, hN, hl⟩ := hB
  have hown : s.vm.findClass "SeriesVault" = some m.cls := hown
  have hl : lv_has ls 2 [(0, .ref h), (1, .int r)] := hl
  obtain ⟨H, hH⟩ : ∃ z, z = s.heap := ⟨_, rfl⟩
  have hP : va_P D vwCl (VW dA h ad x) H := by rw [hH]; exact hP
  have hS : va_S A s.heap H [] := by rw [hH]; exact hS
  rw [← hH]
  refine lv_aload_n hx hb d_V_checkRow_0 rfl (lv_at hl 0 rfl) ?_
  refine gF (v := .int (bI x.hasTable)) hx hb hown hE hK hP 0 rfl rfl layV 17 (by decide) w210 rfl d_V_checkRow_1 ?_
  refine lv_if_eq hx hb d_V_checkRow_4 (tgt := 25) rfl (fun _ => ?_) (fun h9 => absurd (by rw [ht]; decide) h9)
  exact xNew (E := "java/lang/IndexOutOfBoundsException") (names := ["java/lang/RuntimeException", "java/lang/Exception"]) hx hb htr hown (by decide) (by decide) hE w257 w258 (fun U hU => at_V_IOOBE hU) (hN _ _ hS) (hl.1.trans hml.symm) d_V_checkRow_25 d_V_checkRow_28 d_V_checkRow_29 d_V_checkRow_32 hno (by decide) (Nat.le_of_ble_eq_true rfl) (show 0 + 1 ≤ 1 by omega) (show 0 + 6 ≤ 6 by omega) hlk (fun t h1 h2 => xkE () trivial hP hD hS t h1 h2) hS.2.2 (show 0 + 1 ≤ 1 by omega) (show 0 + 6 ≤ 6 by omega)
set_option maxHeartbeats 4000000 in
set_option maxRecDepth 100000 in
theorem v_checkCell_xa (l : Launch) (htr : l.stackTraces = false) (D : va_G) (dA : Nat → ClassId) (sz : Nat) (h : Nat) (ad : Nat → Nat) (x : VS) (r : Int32) (w : Int32) (ht : x.hasTable = false) : mX l ⟨"SeriesVault", "checkCell", "(II)V"⟩ [Cond.code ⟨"SeriesVault", "checkCell", "(II)V"⟩ prog_1_method_51_code 3 none] { frames := 7, cells := 1, slots := 6, locals := 102 } (pC D dA [.ref h, .int r, .int w] (VW dA h ad x) sz) "java/lang/IndexOutOfBoundsException" (fun st9 t9 => va_F (va_A (VW dA h ad x) sz) st9 t9 ∧ ∃ u9 : Unit, (True) ∧ bW D (va_A (VW dA h ad x) sz) (VW dA h ad x) t9) 1 6 (va_A (VW dA h ad x) sz) := by
  refine mkX (y := ⟨"SeriesVault", "checkCell", "(II)V"⟩) (cc := prog_1_method_51_code) (maxL := 3) (av := [.ref h, .int r, .int w]) (ws := VW dA h ad x) (sz := sz) (B := fun A => (fun st9 t9 => va_F A st9 t9 ∧ ∃ u9 : Unit, (True) ∧ bW D A (VW dA h ad x) t9)) (by decide) (Nat.le_of_ble_eq_true rfl) ?_
  intro A p e s m below meth c ls hsz hno hB
  obtain ⟨hx, hb, hr, hml, hown, hin, hlk, hE, hK, hP, hD, hS, hA, hN, hl⟩ := hB
  have hown : s.vm.findClass "SeriesVault" = some m.cls := hown
  have hl : lv_has ls 3 [(0, .ref h), (1, .int r), (2, .int w)] := hl
  obtain ⟨H, hH⟩ : ∃ z, z = s.heap := ⟨_, rfl⟩
  have hP : va_P D vwCl (VW dA h ad x) H := by rw [hH]; exact hP
  have hS : va_S A s.heap H [] := by rw [hH]; exact hS
  rw [← hH]
  refine lv_aload_n hx hb d_V_checkCell_0 rfl (lv_at hl 0 rfl) ?_
  refine lv_iload_n hx hb d_V_checkCell_1 rfl (lv_at hl 1 rfl) ?_
  refine xkV (wr := []) (As := [.int r]) (rest := []) hx hb hml hown hE hK (hN _ _ hS) (v_checkRow_xa l htr D dA H.size h ad x r ht) (q0 := 0) rfl rfl w305 w304 w306 w307 w277 rfl rfl ⟨⟨by decide, by decide⟩, rfl⟩ ⟨(Nat.le_of_ble_eq_true rfl), (Nat.le_of_ble_eq_true rfl)⟩ rfl hl.1 rfl (Nat.le_of_ble_eq_true rfl) d_V_checkCell_2 ⟨(show 0 + 1 ≤ 1 by omega), (show 0 + 6 ≤ 6 by omega)⟩ hP hD hS hA (fun u2 xa1 ce H locs hp9 hP hD hS hce hcv hcl => ?_)
  have hP : va_P D vwCl (VW dA h ad x) H := hP
  have hD : va_D A (VW dA h ad x) := hD
  exact xOut hno hlk hce hcv hcl (fun t ht => xkE () trivial hP hD hS t (by rw [ht]; exact Nat.le_refl _) (fun q _ => by rw [ht])) hS.2.2 (show 0 + 1 ≤ 1 by omega) (show 0 + 6 ≤ 6 by omega)
set_option maxHeartbeats 4000000 in
set_option maxRecDepth 100000 in
theorem v_text_xa (l : Launch) (htr : l.stackTraces = false) (D : va_G) (dA : Nat → ClassId) (sz : Nat) (h : Nat) (ad : Nat → Nat) (x : VS) (r : Int32) (k : Int32) (i : Int32) (ht : x.hasTable = false) : mX l ⟨"SeriesVault", "text", "(III)I"⟩ [Cond.code ⟨"SeriesVault", "text", "(III)I"⟩ prog_1_method_47_code 5 (some FieldType.int)] { frames := 7, cells := 1, slots := 6, locals := 102 } (pC D dA [.ref h, .int r, .int k, .int i] (VW dA h ad x) sz) "java/lang/IndexOutOfBoundsException" (fun st9 t9 => va_F (va_A (VW dA h ad x) sz) st9 t9 ∧ ∃ u9 : Unit, (True) ∧ bW D (va_A (VW dA h ad x) sz) (VW dA h ad x) t9) 1 6 (va_A (VW dA h ad x) sz) := by
  refine mkX (y := ⟨"SeriesVault", "text", "(III)I"⟩) (cc := prog_1_method_47_code) (maxL := 5) (av := [.ref h, .int r, .int k, .int i]) (ws := VW dA h ad x) (sz := sz) (B := fun A => (fun st9 t9 => va_F A st9 t9 ∧ ∃ u9 : Unit, (True) ∧ bW D A (VW dA h ad x) t9)) (by decide) (Nat.le_of_ble_eq_true rfl) ?_
  intro A p e s m below meth c ls hsz hno hB
  obtain ⟨hx, hb, hr, hml, hown, hin, hlk, hE, hK, hP, hD, hS, hA, hN, hl⟩ := hB
  have hown : s.vm.findClass "SeriesVault" = some m.cls := hown
  have hl : lv_has ls 5 [(0, .ref h), (1, .int r), (2, .int k), (3, .int i)] := hl
  obtain ⟨H, hH⟩ : ∃ z, z = s.heap := ⟨_, rfl⟩
  have hP : va_P D vwCl (VW dA h ad x) H := by rw [hH]; exact hP
  have hS : va_S A s.heap H [] := by rw [hH]; exact hS
  rw [← hH]
  refine lv_aload_n hx hb d_V_text_0 rfl (lv_at hl 0 rfl) ?_
  refine lv_iload_n hx hb d_V_text_1 rfl (lv_at hl 1 rfl) ?_
  refine xkV (wr := []) (As := [.int r]) (rest := []) hx hb hml hown hE hK (hN _ _ hS) (v_checkRow_xa l htr D dA H.size h ad x r ht) (q0 := 0) rfl rfl w305 w304 w306 w307 w277 rfl rfl ⟨⟨by decide, by decide⟩, rfl⟩ ⟨(Nat.le_of_ble_eq_true rfl), (Nat.le_of_ble_eq_true rfl)⟩ rfl hl.1 rfl (Nat.le_of_ble_eq_true rfl) d_V_text_2 ⟨(show 0 + 1 ≤ 1 by omega), (show 0 + 6 ≤ 6 by omega)⟩ hP hD hS hA (fun u2 xa1 ce H locs hp9 hP hD hS hce hcv hcl => ?_)
  have hP : va_P D vwCl (VW dA h ad x) H := hP
  have hD : va_D A (VW dA h ad x) := hD
  exact xOut hno hlk hce hcv hcl (fun t ht => xkE () trivial hP hD hS t (by rw [ht]; exact Nat.le_refl _) (fun q _ => by rw [ht])) hS.2.2 (show 0 + 1 ≤ 1 by omega) (show 0 + 6 ≤ 6 by omega)
set_option maxHeartbeats 4000000 in
set_option maxRecDepth 100000 in
theorem v_isThere_xa (l : Launch) (htr : l.stackTraces = false) (D : va_G) (dA : Nat → ClassId) (sz : Nat) (h : Nat) (ad : Nat → Nat) (x : VS) (r : Int32) (w : Int32) (ht : x.hasTable = false) : mX l ⟨"SeriesVault", "isThere", "(II)Z"⟩ [Cond.code ⟨"SeriesVault", "isThere", "(II)Z"⟩ prog_1_method_48_code 3 (some FieldType.boolean)] { frames := 8, cells := 1, slots := 6, locals := 124 } (pC D dA [.ref h, .int r, .int w] (VW dA h ad x) sz) "java/lang/IndexOutOfBoundsException" (fun st9 t9 => va_F (va_A (VW dA h ad x) sz) st9 t9 ∧ ∃ u9 : Unit, (True) ∧ bW D (va_A (VW dA h ad x) sz) (VW dA h ad x) t9) 1 6 (va_A (VW dA h ad x) sz) := by
  refine mkX (y := ⟨"SeriesVault", "isThere", "(II)Z"⟩) (cc := prog_1_method_48_code) (maxL := 3) (av := [.ref h, .int r, .int w]) (ws := VW dA h ad x) (sz := sz) (B := fun A => (fun st9 t9 => va_F A st9 t9 ∧ ∃ u9 : Unit, (True) ∧ bW D A (VW dA h ad x) t9)) (by decide) (Nat.le_of_ble_eq_true rfl) ?_
  intro A p e s m below meth c ls hsz hno hB
  obtain ⟨hx, hb, hr, hml, hown, hin, hlk, hE, hK, hP, hD, hS, hA, hN, hl⟩ := hB
  have hown : s.vm.findClass "SeriesVault" = some m.cls := hown
  have hl : lv_has ls 3 [(0, .ref h), (1, .int r), (2, .int w)] := hl
  obtain ⟨H, hH⟩ : ∃ z, z = s.heap := ⟨_, rfl⟩
  have hP : va_P D vwCl (VW dA h ad x) H := by rw [hH]; exact hP
  have hS : va_S A s.heap H [] := by rw [hH]; exact hS
  rw [← hH]
  refine lv_aload_n hx hb d_V_isThere_0 rfl (lv_at hl 0 rfl) ?_
  refine lv_iload_n hx hb d_V_isThere_1 rfl (lv_at hl 1 rfl) ?_
  refine lv_iload_n hx hb d_V_isThere_2 rfl (lv_at hl 2 rfl) ?_
  refine xkV (wr := []) (As := [.int r, .int w]) (rest := []) hx hb hml hown hE hK (hN _ _ hS) (v_checkCell_xa l htr D dA H.size h ad x r w ht) (q0 := 0) rfl rfl w309 w308 w310 w311 w277 rfl rfl ⟨⟨by decide, by decide⟩, rfl⟩ ⟨(Nat.le_of_ble_eq_true rfl), (Nat.le_of_ble_eq_true rfl)⟩ rfl hl.1 rfl (Nat.le_of_ble_eq_true rfl) d_V_isThere_3 ⟨(show 0 + 1 ≤ 1 by omega), (show 0 + 6 ≤ 6 by omega)⟩ hP hD hS hA (fun u2 xa1 ce H locs hp9 hP hD hS hce hcv hcl => ?_)
  have hP : va_P D vwCl (VW dA h ad x) H := hP
  have hD : va_D A (VW dA h ad x) := hD
  exact xOut hno hlk hce hcv hcl (fun t ht => xkE () trivial hP hD hS t (by rw [ht]; exact Nat.le_refl _) (fun q _ => by rw [ht])) hS.2.2 (show 0 + 1 ≤ 1 by omega) (show 0 + 6 ≤ 6 by omega)
set_option maxHeartbeats 4000000 in
set_option maxRecDepth 100000 in
theorem v_cell_xa (l : Launch) (htr : l.stackTraces = false) (D : va_G) (dA : Nat → ClassId) (sz : Nat) (h : Nat) (ad : Nat → Nat) (x : VS) (r : Int32) (w : Int32) (ht : x.hasTable = false) : mX l ⟨"SeriesVault", "cell", "(II)J"⟩ [Cond.code ⟨"SeriesVault", "cell", "(II)J"⟩ prog_1_method_49_code 4 (some FieldType.long)] { frames := 8, cells := 1, slots := 6, locals := 124 } (pC D dA [.ref h, .int r, .int w] (VW dA h ad x) sz) "java/lang/IndexOutOfBoundsException" (fun st9 t9 => va_F (va_A (VW dA h ad x) sz) st9 t9 ∧ ∃ u9 : Unit, (True) ∧ bW D (va_A (VW dA h ad x) sz) (VW dA h ad x) t9) 1 6 (va_A (VW dA h ad x) sz) := by
  refine mkX (y := ⟨"SeriesVault", "cell", "(II)J"⟩) (cc := prog_1_method_49_code) (maxL := 4) (av := [.ref h, .int r, .int w]) (ws := VW dA h ad x) (sz := sz) (B := fun A => (fun st9 t9 => va_F A st9 t9 ∧ ∃ u9 : Unit, (True) ∧ bW D A (VW dA h ad x) t9)) (by decide) (Nat.le_of_ble_eq_true rfl) ?_
  intro A p e s m below meth c ls hsz hno hB
  obtain ⟨hx, hb, hr, hml, hown, hin, hlk, hE, hK, hP, hD, hS, hA, hN, hl⟩ := hB
  have hown : s.vm.findClass "SeriesVault" = some m.cls := hown
  have hl : lv_has ls 4 [(0, .ref h), (1, .int r), (2, .int w)] := hl
  obtain ⟨H, hH⟩ : ∃ z, z = s.heap := ⟨_, rfl⟩
  have hP : va_P D vwCl (VW dA h ad x) H := by rw [hH]; exact hP
  have hS : va_S A s.heap H [] := by rw [hH]; exact hS
  rw [← hH]
  refine lv_aload_n hx hb d_V_cell_0 rfl (lv_at hl 0 rfl) ?_
  refine lv_iload_n hx hb d_V_cell_1 rfl (lv_at hl 1 rfl) ?_
  refine lv_iload_n hx hb d_V_cell_2 rfl (lv_at hl 2 rfl) ?_
  refine xkV (wr := []) (As := [.int r, .int w]) (rest := []) hx hb hml hown hE hK (hN _ _ hS) (v_checkCell_xa l htr D dA H.size h ad x r w ht) (q0 := 0) rfl rfl w309 w308 w310 w311 w277 rfl rfl ⟨⟨by decide, by decide⟩, rfl⟩ ⟨(Nat.le_of_ble_eq_true rfl), (Nat.le_of_ble_eq_true rfl)⟩ rfl hl.1 rfl (Nat.le_of_ble_eq_true rfl) d_V_cell_3 ⟨(show 0 + 1 ≤ 1 by omega), (show 0 + 6 ≤ 6 by omega)⟩ hP hD hS hA (fun u2 xa1 ce H locs hp9 hP hD hS hce hcv hcl => ?_)
  have hP : va_P D vwCl (VW dA h ad x) H := hP
  have hD : va_D A (VW dA h ad x) := hD
  exact xOut hno hlk hce hcv hcl (fun t ht => xkE () trivial hP hD hS t (by rw [ht]; exact Nat.le_refl _) (fun q _ => by rw [ht])) hS.2.2 (show 0 + 1 ≤ 1 by omega) (show 0 + 6 ≤ 6 by omega)
set_option maxHeartbeats 4000000 in
set_option maxRecDepth 100000 in
theorem v_checkRow_xb (l : Launch) (htr : l.stackTraces = false) (D : va_G) (dA : Nat → ClassId) (sz : Nat) (h : Nat) (ad : Nat → Nat) (x : VS) (r : Int32) (ht : x.hasTable = true) (hr0 : r < 0) : mX l ⟨"SeriesVault", "checkRow", "(I)V"⟩ [Cond.code ⟨"SeriesVault", "checkRow", "(I)V"⟩ prog_1_method_50_code 2 none] { frames := 6, cells := 1, slots := 6, locals := 81 } (pC D dA [.ref h, .int r] (VW dA h ad x) sz) "java/lang/IndexOutOfBoundsException" (fun st9 t9 => va_F (va_A (VW dA h ad x) sz) st9 t9 ∧ ∃ u9 : Unit, (True) ∧ bW D (va_A (VW dA h ad x) sz) (VW dA h ad x) t9) 1 6 (va_A (VW dA h ad x) sz) := by
  refine mkX (y := ⟨"SeriesVault", "checkRow", "(I)V"⟩) (cc := prog_1_method_50_code) (maxL := 2) (av := [.ref h, .int r]) (ws := VW dA h ad x) (sz := sz) (B := fun A => (fun st9 t9 => va_F A st9 t9 ∧ ∃ u9 : Unit, (True) ∧ bW D A (VW dA h ad x) t9)) (by decide) (Nat.le_of_ble_eq_true rfl) ?_
  intro A p e s m below meth c ls hsz hno hB
  obtain ⟨hx, hb, hr, hml, hown, hin, hlk, hE, hK, hP, hD, hS, hA, hN, hl⟩ := hB
  have hown : s.vm.findClass "SeriesVault" = some m.cls := hown
  have hl : lv_has ls 2 [(0, .ref h), (1, .int r)] := hl
  obtain ⟨H, hH⟩ : ∃ z, z = s.heap := ⟨_, rfl⟩
  have hP : va_P D vwCl (VW dA h ad x) H := by rw [hH]; exact hP
  have hS : va_S A s.heap H [] := by rw [hH]; exact hS
  rw [← hH]
  refine lv_aload_n hx hb d_V_checkRow_0 rfl (lv_at hl 0 rfl) ?_
  refine gF (v := .int (bI x.hasTable)) hx hb hown hE hK hP 0 rfl rfl layV 17 (by decide) w210 rfl d_V_checkRow_1 ?_
  refine lv_if_eq hx hb d_V_checkRow_4 (tgt := 25) rfl (fun h9 => absurd h9 (by rw [ht]; decide)) (fun _ => ?_)
  refine lv_iload_n hx hb d_V_checkRow_7 rfl (lv_at hl 1 rfl) ?_
  refine lv_if_lt hx hb d_V_checkRow_8 (tgt := 25) rfl (fun _ => ?_) (fun h9 => absurd hr0 h9)
  exact xNew (E := "java/lang/IndexOutOfBoundsException") (names := ["java/lang/RuntimeException", "java/lang/Exception"]) hx hb htr hown (by decide) (by decide) hE w257 w258 (fun U hU => at_V_IOOBE hU) (hN _ _ hS) (hl.1.trans hml.symm) d_V_checkRow_25 d_V_checkRow_28 d_V_checkRow_29 d_V_checkRow_32 hno (by decide) (Nat.le_of_ble_eq_true rfl) (show 0 + 1 ≤ 1 by omega) (show 0 + 6 ≤ 6 by omega) hlk (fun t h1 h2 => xkE () trivial hP hD hS t h1 h2) hS.2.2 (show 0 + 1 ≤ 1 by omega) (show 0 + 6 ≤ 6 by omega)
set_option maxHeartbeats 4000000 in
set_option maxRecDepth 100000 in
theorem v_checkCell_xb (l : Launch) (htr : l.stackTraces = false) (D : va_G) (dA : Nat → ClassId) (sz : Nat) (h : Nat) (ad : Nat → Nat) (x : VS) (r : Int32) (w : Int32) (ht : x.hasTable = true) (hr0 : r < 0) : mX l ⟨"SeriesVault", "checkCell", "(II)V"⟩ [Cond.code ⟨"SeriesVault", "checkCell", "(II)V"⟩ prog_1_method_51_code 3 none] { frames := 7, cells := 1, slots := 6, locals := 102 } (pC D dA [.ref h, .int r, .int w] (VW dA h ad x) sz) "java/lang/IndexOutOfBoundsException" (fun st9 t9 => va_F (va_A (VW dA h ad x) sz) st9 t9 ∧ ∃ u9 : Unit, (True) ∧ bW D (va_A (VW dA h ad x) sz) (VW dA h ad x) t9) 1 6 (va_A (VW dA h ad x) sz) := by
  refine mkX (y := ⟨"SeriesVault", "checkCell", "(II)V"⟩) (cc := prog_1_method_51_code) (maxL := 3) (av := [.ref h, .int r, .int w]) (ws := VW dA h ad x) (sz := sz) (B := fun A => (fun st9 t9 => va_F A st9 t9 ∧ ∃ u9 : Unit, (True) ∧ bW D A (VW dA h ad x) t9)) (by decide) (Nat.le_of_ble_eq_true rfl) ?_
  intro A p e s m below meth c ls hsz hno hB
  obtain ⟨hx, hb, hr, hml, hown, hin, hlk, hE, hK, hP, hD, hS, hA, hN, hl⟩ := hB
  have hown : s.vm.findClass "SeriesVault" = some m.cls := hown
  have hl : lv_has ls 3 [(0, .ref h), (1, .int r), (2, .int w)] := hl
  obtain ⟨H, hH⟩ : ∃ z, z = s.heap := ⟨_, rfl⟩
  have hP : va_P D vwCl (VW dA h ad x) H := by rw [hH]; exact hP
  have hS : va_S A s.heap H [] := by rw [hH]; exact hS
  rw [← hH]
  refine lv_aload_n hx hb d_V_checkCell_0 rfl (lv_at hl 0 rfl) ?_
  refine lv_iload_n hx hb d_V_checkCell_1 rfl (lv_at hl 1 rfl) ?_
  refine xkV (wr := []) (As := [.int r]) (rest := []) hx hb hml hown hE hK (hN _ _ hS) (v_checkRow_xb l htr D dA H.size h ad x r ht hr0) (q0 := 0) rfl rfl w305 w304 w306 w307 w277 rfl rfl ⟨⟨by decide, by decide⟩, rfl⟩ ⟨(Nat.le_of_ble_eq_true rfl), (Nat.le_of_ble_eq_true rfl)⟩ rfl hl.1 rfl (Nat.le_of_ble_eq_true rfl) d_V_checkCell_2 ⟨(show 0 + 1 ≤ 1 by omega), (show 0 + 6 ≤ 6 by omega)⟩ hP hD hS hA (fun u2 xa1 ce H locs hp9 hP hD hS hce hcv hcl => ?_)
  have hP : va_P D vwCl (VW dA h ad x) H := hP
  have hD : va_D A (VW dA h ad x) := hD
  exact xOut hno hlk hce hcv hcl (fun t ht => xkE () trivial hP hD hS t (by rw [ht]; exact Nat.le_refl _) (fun q _ => by rw [ht])) hS.2.2 (show 0 + 1 ≤ 1 by omega) (show 0 + 6 ≤ 6 by omega)
set_option maxHeartbeats 4000000 in
set_option maxRecDepth 100000 in
theorem v_text_xb (l : Launch) (htr : l.stackTraces = false) (D : va_G) (dA : Nat → ClassId) (sz : Nat) (h : Nat) (ad : Nat → Nat) (x : VS) (r : Int32) (k : Int32) (i : Int32) (ht : x.hasTable = true) (hr0 : r < 0) : mX l ⟨"SeriesVault", "text", "(III)I"⟩ [Cond.code ⟨"SeriesVault", "text", "(III)I"⟩ prog_1_method_47_code 5 (some FieldType.int)] { frames := 7, cells := 1, slots := 6, locals := 102 } (pC D dA [.ref h, .int r, .int k, .int i] (VW dA h ad x) sz) "java/lang/IndexOutOfBoundsException" (fun st9 t9 => va_F (va_A (VW dA h ad x) sz) st9 t9 ∧ ∃ u9 : Unit, (True) ∧ bW D (va_A (VW dA h ad x) sz) (VW dA h ad x) t9) 1 6 (va_A (VW dA h ad x) sz) := by
  refine mkX (y := ⟨"SeriesVault", "text", "(III)I"⟩) (cc := prog_1_method_47_code) (maxL := 5) (av := [.ref h, .int r, .int k, .int i]) (ws := VW dA h ad x) (sz := sz) (B := fun A => (fun st9 t9 => va_F A st9 t9 ∧ ∃ u9 : Unit, (True) ∧ bW D A (VW dA h ad x) t9)) (by decide) (Nat.le_of_ble_eq_true rfl) ?_
  intro A p e s m below meth c ls hsz hno hB
  obtain ⟨hx, hb, hr, hml, hown, hin, hlk, hE, hK, hP, hD, hS, hA, hN, hl⟩ := hB
  have hown : s.vm.findClass "SeriesVault" = some m.cls := hown
  have hl : lv_has ls 5 [(0, .ref h), (1, .int r), (2, .int k), (3, .int i)] := hl
  obtain ⟨H, hH⟩ : ∃ z, z = s.heap := ⟨_, rfl⟩
  have hP : va_P D vwCl (VW dA h ad x) H := by rw [hH]; exact hP
  have hS : va_S A s.heap H [] := by rw [hH]; exact hS
  rw [← hH]
  refine lv_aload_n hx hb d_V_text_0 rfl (lv_at hl 0 rfl) ?_
  refine lv_iload_n hx hb d_V_text_1 rfl (lv_at hl 1 rfl) ?_
  refine xkV (wr := []) (As := [.int r]) (rest := []) hx hb hml hown hE hK (hN _ _ hS) (v_checkRow_xb l htr D dA H.size h ad x r ht hr0) (q0 := 0) rfl rfl w305 w304 w306 w307 w277 rfl rfl ⟨⟨by decide, by decide⟩, rfl⟩ ⟨(Nat.le_of_ble_eq_true rfl), (Nat.le_of_ble_eq_true rfl)⟩ rfl hl.1 rfl (Nat.le_of_ble_eq_true rfl) d_V_text_2 ⟨(show 0 + 1 ≤ 1 by omega), (show 0 + 6 ≤ 6 by omega)⟩ hP hD hS hA (fun u2 xa1 ce H locs hp9 hP hD hS hce hcv hcl => ?_)
  have hP : va_P D vwCl (VW dA h ad x) H := hP
  have hD : va_D A (VW dA h ad x) := hD
  exact xOut hno hlk hce hcv hcl (fun t ht => xkE () trivial hP hD hS t (by rw [ht]; exact Nat.le_refl _) (fun q _ => by rw [ht])) hS.2.2 (show 0 + 1 ≤ 1 by omega) (show 0 + 6 ≤ 6 by omega)
set_option maxHeartbeats 4000000 in
set_option maxRecDepth 100000 in
theorem v_isThere_xb (l : Launch) (htr : l.stackTraces = false) (D : va_G) (dA : Nat → ClassId) (sz : Nat) (h : Nat) (ad : Nat → Nat) (x : VS) (r : Int32) (w : Int32) (ht : x.hasTable = true) (hr0 : r < 0) : mX l ⟨"SeriesVault", "isThere", "(II)Z"⟩ [Cond.code ⟨"SeriesVault", "isThere", "(II)Z"⟩ prog_1_method_48_code 3 (some FieldType.boolean)] { frames := 8, cells := 1, slots := 6, locals := 124 } (pC D dA [.ref h, .int r, .int w] (VW dA h ad x) sz) "java/lang/IndexOutOfBoundsException" (fun st9 t9 => va_F (va_A (VW dA h ad x) sz) st9 t9 ∧ ∃ u9 : Unit, (True) ∧ bW D (va_A (VW dA h ad x) sz) (VW dA h ad x) t9) 1 6 (va_A (VW dA h ad x) sz) := by
  refine mkX (y := ⟨"SeriesVault", "isThere", "(II)Z"⟩) (cc := prog_1_method_48_code) (maxL := 3) (av := [.ref h, .int r, .int w]) (ws := VW dA h ad x) (sz := sz) (B := fun A => (fun st9 t9 => va_F A st9 t9 ∧ ∃ u9 : Unit, (True) ∧ bW D A (VW dA h ad x) t9)) (by decide) (Nat.le_of_ble_eq_true rfl) ?_
  intro A p e s m below meth c ls hsz hno hB
  obtain ⟨hx, hb, hr, hml, hown, hin, hlk, hE, hK, hP, hD, hS, hA, hN, hl⟩ := hB
  have hown : s.vm.findClass "SeriesVault" = some m.cls := hown
  have hl : lv_has ls 3 [(0, .ref h), (1, .int r), (2, .int w)] := hl
  obtain ⟨H, hH⟩ : ∃ z, z = s.heap := ⟨_, rfl⟩
  have hP : va_P D vwCl (VW dA h ad x) H := by rw [hH]; exact hP
  have hS : va_S A s.heap H [] := by rw [hH]; exact hS
  rw [← hH]
  refine lv_aload_n hx hb d_V_isThere_0 rfl (lv_at hl 0 rfl) ?_
  refine lv_iload_n hx hb d_V_isThere_1 rfl (lv_at hl 1 rfl) ?_
  refine lv_iload_n hx hb d_V_isThere_2 rfl (lv_at hl 2 rfl) ?_
  refine xkV (wr := []) (As := [.int r, .int w]) (rest := []) hx hb hml hown hE hK (hN _ _ hS) (v_checkCell_xb l htr D dA H.size h ad x r w ht hr0) (q0 := 0) rfl rfl w309 w308 w310 w311 w277 rfl rfl ⟨⟨by decide, by decide⟩, rfl⟩ ⟨(Nat.le_of_ble_eq_true rfl), (Nat.le_of_ble_eq_true rfl)⟩ rfl hl.1 rfl (Nat.le_of_ble_eq_true rfl) d_V_isThere_3 ⟨(show 0 + 1 ≤ 1 by omega), (show 0 + 6 ≤ 6 by omega)⟩ hP hD hS hA (fun u2 xa1 ce H locs hp9 hP hD hS hce hcv hcl => ?_)
  have hP : va_P D vwCl (VW dA h ad x) H := hP
  have hD : va_D A (VW dA h ad x) := hD
  exact xOut hno hlk hce hcv hcl (fun t ht => xkE () trivial hP hD hS t (by rw [ht]; exact Nat.le_refl _) (fun q _ => by rw [ht])) hS.2.2 (show 0 + 1 ≤ 1 by omega) (show 0 + 6 ≤ 6 by omega)
set_option maxHeartbeats 4000000 in
set_option maxRecDepth 100000 in
theorem v_cell_xb (l : Launch) (htr : l.stackTraces = false) (D : va_G) (dA : Nat → ClassId) (sz : Nat) (h : Nat) (ad : Nat → Nat) (x : VS) (r : Int32) (w : Int32) (ht : x.hasTable = true) (hr0 : r < 0) : mX l ⟨"SeriesVault", "cell", "(II)J"⟩ [Cond.code ⟨"SeriesVault", "cell", "(II)J"⟩ prog_1_method_49_code 4 (some FieldType.long)] { frames := 8, cells := 1, slots := 6, locals := 124 } (pC D dA [.ref h, .int r, .int w] (VW dA h ad x) sz) "java/lang/IndexOutOfBoundsException" (fun st9 t9 => va_F (va_A (VW dA h ad x) sz) st9 t9 ∧ ∃ u9 : Unit, (True) ∧ bW D (va_A (VW dA h ad x) sz) (VW dA h ad x) t9) 1 6 (va_A (VW dA h ad x) sz) := by
  refine mkX (y := ⟨"SeriesVault", "cell", "(II)J"⟩) (cc := prog_1_method_49_code) (maxL := 4) (av := [.ref h, .int r, .int w]) (ws := VW dA h ad x) (sz := sz) (B := fun A => (fun st9 t9 => va_F A st9 t9 ∧ ∃ u9 : Unit, (True) ∧ bW D A (VW dA h ad x) t9)) (by decide) (Nat.le_of_ble_eq_true rfl) ?_
  intro A p e s m below meth c ls hsz hno hB
  obtain ⟨hx, hb, hr, hml, hown, hin, hlk, hE, hK, hP, hD, hS, hA, hN, hl⟩ := hB
  have hown : s.vm.findClass "SeriesVault" = some m.cls := hown
  have hl : lv_has ls 4 [(0, .ref h), (1, .int r), (2, .int w)] := hl
  obtain ⟨H, hH⟩ : ∃ z, z = s.heap := ⟨_, rfl⟩
  have hP : va_P D vwCl (VW dA h ad x) H := by rw [hH]; exact hP
  have hS : va_S A s.heap H [] := by rw [hH]; exact hS
  rw [← hH]
  refine lv_aload_n hx hb d_V_cell_0 rfl (lv_at hl 0 rfl) ?_
  refine lv_iload_n hx hb d_V_cell_1 rfl (lv_at hl 1 rfl) ?_
  refine lv_iload_n hx hb d_V_cell_2 rfl (lv_at hl 2 rfl) ?_
  refine xkV (wr := []) (As := [.int r, .int w]) (rest := []) hx hb hml hown hE hK (hN _ _ hS) (v_checkCell_xb l htr D dA H.size h ad x r w ht hr0) (q0 := 0) rfl rfl w309 w308 w310 w311 w277 rfl rfl ⟨⟨by decide, by decide⟩, rfl⟩ ⟨(Nat.le_of_ble_eq_true rfl), (Nat.le_of_ble_eq_true rfl)⟩ rfl hl.1 rfl (Nat.le_of_ble_eq_true rfl) d_V_cell_3 ⟨(show 0 + 1 ≤ 1 by omega), (show 0 + 6 ≤ 6 by omega)⟩ hP hD hS hA (fun u2 xa1 ce H locs hp9 hP hD hS hce hcv hcl => ?_)
  have hP : va_P D vwCl (VW dA h ad x) H := hP
  have hD : va_D A (VW dA h ad x) := hD
  exact xOut hno hlk hce hcv hcl (fun t ht => xkE () trivial hP hD hS t (by rw [ht]; exact Nat.le_refl _) (fun q _ => by rw [ht])) hS.2.2 (show 0 + 1 ≤ 1 by omega) (show 0 + 6 ≤ 6 by omega)
end
section
/-! A time is in a window, or in none. -/
theorem wOk_of {fr wd tm : Int64} {n : Nat} (hn : n ≤ 64) (h0 : 0 ≤ fr) (h1 : tm ≤ 1099511627775) : wOk fr wd n tm := by
  unfold wOk woA
  by_cases a : tm < fr
  · exact Or.inl (if_pos a)
  · by_cases b : 1 ≤ wd
    · by_cases c : lN n ≤ (tm - fr) / wd
      · left
        rw [if_neg a, if_pos b, if_pos c]
      · right
        have a0 : fr.toInt ≤ tm.toInt := Int64.le_iff_toInt_le.mp (Int64.not_lt.mp a)
        have a1 : (0 : Int) ≤ fr.toInt := by have := Int64.le_iff_toInt_le.mp h0; simpa using this
        have a2 : tm.toInt ≤ 1099511627775 := by have := Int64.le_iff_toInt_le.mp h1; simpa using this
        have a3 : (1 : Int) ≤ wd.toInt := by have := Int64.le_iff_toInt_le.mp b; simpa using this
        have s1 : (tm - fr).toInt = tm.toInt - fr.toInt := by
          rw [Int64.toInt_sub]
          exact Int.bmod_eq_of_le (by omega) (by omega)
        have d0 : 0 ≤ (tm.toInt - fr.toInt).tdiv wd.toInt := Int.tdiv_nonneg (by omega) (by omega)
        have d1 : (tm.toInt - fr.toInt).tdiv wd.toInt ≤ tm.toInt - fr.toInt := Int.tdiv_le_self _ (by omega)
        have s2 : ((tm - fr) / wd).toInt = (tm.toInt - fr.toInt).tdiv wd.toInt := by
          rw [Int64.toInt_div, s1]
          exact Int.bmod_eq_of_le (by omega) (by omega)
        have c1 : ((tm - fr) / wd).toInt < (n : Int) := by
          have h := Int64.lt_iff_toInt_lt.mp (Int64.not_le.mp c)
          rw [show (lN n).toInt = (n : Int) from lN_toInt (by omega)] at h
          exact h
        refine ⟨((tm - fr) / wd).toInt.toNat, by omega, ?_⟩
        rw [if_neg a, if_pos b, if_neg c]
        apply Int32.toInt_inj.mp
        rw [nI_toInt (by omega), Int64.toInt_toInt32, Int.bmod_eq_of_le (by omega) (by omega)]
        omega
    · exact Or.inl ((if_neg a).trans (if_neg b))
end
