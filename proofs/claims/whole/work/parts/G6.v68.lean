theorem d_Q_readFactor_48 : decode prog_6_method_7_code 48 = .ok (.aload_n 0, 1) := by decide +kernel
theorem d_Q_readFactor_49 : decode prog_6_method_7_code 49 = .ok (.getfield 18, 3) := by decide +kernel
theorem d_Q_readFactor_52 : decode prog_6_method_7_code 52 = .ok (.new 58, 3) := by decide +kernel
theorem d_Q_readFactor_55 : decode prog_6_method_7_code 55 = .ok (.dup, 1) := by decide +kernel
theorem d_Q_readFactor_56 : decode prog_6_method_7_code 56 = .ok (.sipush 257, 3) := by decide +kernel
theorem d_Q_readFactor_59 : decode prog_6_method_7_code 59 = .ok (.aload_n 0, 1) := by decide +kernel
theorem d_Q_readFactor_60 : decode prog_6_method_7_code 60 = .ok (.getfield 48, 3) := by decide +kernel
theorem d_Q_readFactor_63 : decode prog_6_method_7_code 63 = .ok (.aload_n 0, 1) := by decide +kernel
theorem d_Q_readFactor_64 : decode prog_6_method_7_code 64 = .ok (.getfield 73, 3) := by decide +kernel
theorem d_Q_readFactor_67 : decode prog_6_method_7_code 67 = .ok (.invokespecial 60, 3) := by decide +kernel
theorem d_Q_readFactor_70 : decode prog_6_method_7_code 70 = .ok (.invokevirtual 63, 3) := by decide +kernel
theorem d_Q_readFactor_73 : decode prog_6_method_7_code 73 = .ok (.pop, 1) := by decide +kernel
theorem d_Q_readFactor_74 : decode prog_6_method_7_code 74 = .ok (.aload_n 0, 1) := by decide +kernel
theorem d_Q_readFactor_75 : decode prog_6_method_7_code 75 = .ok (.invokevirtual 38, 3) := by decide +kernel
theorem d_Q_readFactor_78 : decode prog_6_method_7_code 78 = .ok (.iconst 1, 1) := by decide +kernel
theorem d_Q_readFactor_79 : decode prog_6_method_7_code 79 = .ok (.ireturn, 1) := by decide +kernel
theorem d_Q_readFactor_80 : decode prog_6_method_7_code 80 = .ok (.aload_n 0, 1) := by decide +kernel
theorem d_Q_readFactor_81 : decode prog_6_method_7_code 81 = .ok (.invokevirtual 77, 3) := by decide +kernel
theorem d_Q_readFactor_84 : decode prog_6_method_7_code 84 = .ok (.ireturn, 1) := by decide +kernel
theorem d_Q_readFactor_85 : decode prog_6_method_7_code 85 = .ok (.iload_n 1, 1) := by decide +kernel
theorem d_Q_readFactor_86 : decode prog_6_method_7_code 86 = .ok (.bipush 8, 2) := by decide +kernel
theorem d_Q_readFactor_88 : decode prog_6_method_7_code 88 = .ok (.if_icmp .ge 13, 3) := by decide +kernel
theorem d_Q_readFactor_91 : decode prog_6_method_7_code 91 = .ok (.aload_n 0, 1) := by decide +kernel
theorem d_Q_readFactor_92 : decode prog_6_method_7_code 92 = .ok (.iload_n 1, 1) := by decide +kernel
theorem d_Q_readFactor_93 : decode prog_6_method_7_code 93 = .ok (.iconst 1, 1) := by decide +kernel
theorem d_Q_readFactor_94 : decode prog_6_method_7_code 94 = .ok (.iadd, 1) := by decide +kernel
theorem d_Q_readFactor_95 : decode prog_6_method_7_code 95 = .ok (.invokevirtual 81, 3) := by decide +kernel
theorem d_Q_readFactor_98 : decode prog_6_method_7_code 98 = .ok (.goto 12, 3) := by decide +kernel
theorem d_Q_readFactor_110 : decode prog_6_method_7_code 110 = .ok (.ireturn, 1) := by decide +kernel
theorem w1669 : Cond.methodLink "SeriesVault$Question" 77 ⟨"SeriesVault$Question", "readFunc", "()Z"⟩ ∈ aW := aw_of (tb_7 (List.mem_of_getElem? (i := 41) rfl)) rfl
theorem w1670 : Cond.code ⟨"SeriesVault$Question", "readFunc", "()Z"⟩ prog_6_method_10_code 4 (some FieldType.boolean) ∈ aW := aw_of (tb_7 (List.mem_of_getElem? (i := 44) rfl)) rfl
theorem w1671 : Cond.instanceMethod ⟨"SeriesVault$Question", "readFunc", "()Z"⟩ ∈ aW := aw_of (tb_7 (List.mem_of_getElem? (i := 43) rfl)) rfl
theorem w1672 : Cond.selects "SeriesVault$Question" ⟨"SeriesVault$Question", "readFunc", "()Z"⟩ ⟨"SeriesVault$Question", "readFunc", "()Z"⟩ ∈ aW := aw_pr (List.mem_map.mpr ⟨_, pv_3 (List.mem_of_getElem? (i := 13) rfl), rfl⟩) rfl
theorem w1673 : Cond.methodLink "SeriesVault$Question" 81 ⟨"SeriesVault$Question", "readOpened", "(I)Z"⟩ ∈ aW := aw_of (tb_7 (List.mem_of_getElem? (i := 123) rfl)) rfl
theorem w1674 : Cond.code ⟨"SeriesVault$Question", "readOpened", "(I)Z"⟩ prog_6_method_8_code 5 (some FieldType.boolean) ∈ aW := aw_of (tb_7 (List.mem_of_getElem? (i := 126) rfl)) rfl
theorem w1675 : Cond.instanceMethod ⟨"SeriesVault$Question", "readOpened", "(I)Z"⟩ ∈ aW := aw_of (tb_7 (List.mem_of_getElem? (i := 125) rfl)) rfl
theorem w1676 : Cond.selects "SeriesVault$Question" ⟨"SeriesVault$Question", "readOpened", "(I)Z"⟩ ⟨"SeriesVault$Question", "readOpened", "(I)Z"⟩ ∈ aW := aw_pr (List.mem_map.mpr ⟨_, pv_4 (List.mem_of_getElem? (i := 2) rfl), rfl⟩) rfl
set_option maxHeartbeats 4000000 in
set_option maxRecDepth 100000 in
theorem v_QreadFactor (l : Launch) (D : va_G) (dA : Nat → ClassId) (sz : Nat) (e0 mi : Nat) (kA vA : Nat → Nat) (fm : Nat) (h : Nat) (ad : Nat → Nat) (sa : Nat) (g : LI) (r : va_W) (x : VS) (o : Nat) (O : PF) (fr : Nat) (lo : Nat) (hsa : sa = ad 23) (hw : VS.pw dA e0 sa r x g) (hO : OpnC (o + 1) O fr lo) (hgO : gdO O) (ho : o < 8) : Met l ⟨"SeriesVault$Question", "readFactor", "(I)Z"⟩ [Cond.code ⟨"SeriesVault$Question", "readFactor", "(I)Z"⟩ prog_6_method_7_code 2 (some FieldType.boolean)] { frames := fr + 10, cells := 8 * (rqP (pFc O x.tape x.qlen x.tk).1 (pFc O x.tape x.qlen x.tk).2.1 - x.qst), slots := 64 * (rqP (pFc O x.tape x.qlen x.tk).1 (pFc O x.tape x.qlen x.tk).2.1 - x.qst) + 4 * (cpR g.eN g.sz (pFc O x.tape x.qlen x.tk).2.2.length - g.eN), locals := lo + 242 } (pCs D dA e0 mi kA vA fm [.ref (ad 22), .int (nI o)] (VW dA h ad x) sz) (va_Qi (fun (r9 : Int32) (u9 : VS × LI) => r9 = bI (pFc O x.tape x.qlen x.tk).1 ∧ VS.pq dA e0 sa r x g (pFc O x.tape x.qlen x.tk) u9.1 u9.2) (fun (u9 : VS × LI) t9 => bW D (va_A (VW dA h ad x) sz) (VW dA h ad u9.1) t9) (va_A (VW dA h ad x) sz)) (8 * (rqP (pFc O x.tape x.qlen x.tk).1 (pFc O x.tape x.qlen x.tk).2.1 - x.qst)) (64 * (rqP (pFc O x.tape x.qlen x.tk).1 (pFc O x.tape x.qlen x.tk).2.1 - x.qst) + 4 * (cpR g.eN g.sz (pFc O x.tape x.qlen x.tk).2.2.length - g.eN)) (va_A (VW dA h ad x) sz) := by
  refine mkS (y := ⟨"SeriesVault$Question", "readFactor", "(I)Z"⟩) (cc := prog_6_method_7_code) (maxL := 2) (av := [.ref (ad 22), .int (nI o)]) (ws := VW dA h ad x) (sz := sz) (Qc := fun A => va_Qi (fun (r9 : Int32) (u9 : VS × LI) => r9 = bI (pFc O x.tape x.qlen x.tk).1 ∧ VS.pq dA e0 sa r x g (pFc O x.tape x.qlen x.tk) u9.1 u9.2) (fun (u9 : VS × LI) t9 => bW D A (VW dA h ad u9.1) t9) A) (by decide) (Nat.le_of_ble_eq_true rfl) ?_
  intro A p e s m below meth c ls hsz hZ hT hM hQ hB
  obtain ⟨hx, hb, hr, hml, hown, hin, hlk, hE, hK, hP, hD, hS, hA, hN, hl⟩ := hB
  have hown : s.vm.findClass "SeriesVault$Question" = some m.cls := hown
  have hl : lv_has ls 2 [(0, .ref (ad 22)), (1, .int (nI o))] := hl
  obtain ⟨H, hH⟩ : ∃ z, z = s.heap := ⟨_, rfl⟩
  have hP : va_P D vwCl (VW dA h ad x) H := by rw [hH]; exact hP
  have hS : va_S A s.heap H [] := by rw [hH]; exact hS
  rw [← hH]
  have kb : x.qst ≤ x.qen ∧ x.qen ≤ x.qlen ∧ x.qlen ≤ x.tpN ∧ x.tpN ≤ 131072 ∧ x.qlen ≤ 16384 := ⟨hw.1.2.2.2.2.2.1, hw.1.2.2.2.2.2.2.1, hw.1.2.1, hw.1.2.2.1, hw.1.2.2.2.1⟩
  have kq : x.qtp = x.tpA := hw.1.1
  have tx0 : tkok x.qlen x.tk := hw.1.2.2.2.2.2
  have gz0 : x.qen ≤ rqP (pFc O x.tape x.qlen x.tk).1 (pFc O x.tape x.qlen x.tk).2.1 := (pFc_g hgO x.tape x.qlen x.tk tx0).2.1
  refine lv_aload_n hx hb d_Q_readFactor_0 rfl (lv_at hl 0 rfl) ?_
  refine gF (v := .int x.qk) hx hb hown hE hK hP 36 rfl rfl layQ 2 (by decide) w663 rfl d_Q_readFactor_1 ?_
  rcases fc4 x.qk with h1 | h1 | h1 | h1
  · refine lv_lookup (x := x.qk) (off := 44) (tgt := 48) hx hb d_Q_readFactor_4 (by decide) (by rw [h1]; decide) rfl ?_
    refine lv_aload_n hx hb d_Q_readFactor_48 rfl (lv_at hl 0 rfl) ?_
    have E0 : pFc O x.tape x.qlen x.tk = (true, nxT x.tape x.qlen x.tk, [spO 257 x.tk.2.1 x.tk.2.2.2.1]) := pFc_1 h1
    have nx0 : x.qst < x.qen := tx0.2.2.1 (show ¬ x.qk = 256 by rw [h1]; decide)
    have lE : (pFc O x.tape x.qlen x.tk).2.2.length = 1 := by rw [E0]; rfl
    have cE : cpR g.eN g.sz (pFc O x.tape x.qlen x.tk).2.2.length = gqN g := by rw [lE]; rfl
    have b3 := gq_S g
    refine gF (v := .ref (ad 23)) hx hb hown hE hK hP 36 rfl rfl layQ 8 (by decide) w678 rfl d_Q_readFactor_49 ?_
    refine nOf hx hb hown hE hK hP hD hS hA (ci := 13) rfl layE tyE tokE w1648 w859 w1496 (fs := [.int 0, .int 0, .long 0, .null, .int 0, .null, .null, .null]) dfE (show 0 + 1 ≤ 8 * (rqP (pFc O x.tape x.qlen x.tk).1 (pFc O x.tape x.qlen x.tk).2.1 - x.qst) by omega) (show 0 + 8 ≤ 64 * (rqP (pFc O x.tape x.qlen x.tk).1 (pFc O x.tape x.qlen x.tk).2.1 - x.qst) + 4 * (cpR g.eN g.sz (pFc O x.tape x.qlen x.tk).2.2.length - g.eN) by omega) d_Q_readFactor_52 (fun sp H hP hD hS => ?_)
    have hP : va_P D vwCl ([(sp, .inr (13, [.int 0, .int 0, .long 0, .null, .int 0, .null, .null, .null]))] ++ (VW dA h ad x)) H := hP
    have hD : va_D A ([(sp, .inr (13, [.int 0, .int 0, .long 0, .null, .int 0, .null, .null, .null]))] ++ (VW dA h ad x)) := hD
    refine lv_dup hx hb d_Q_readFactor_55 rfl ?_
    refine lv_sipush (v := 257) hx hb d_Q_readFactor_56 (by decide) ?_
    refine lv_aload_n hx hb d_Q_readFactor_59 rfl (lv_at hl 0 rfl) ?_
    refine gF (v := .int (nI x.qst)) hx hb hown hE hK hP 37 rfl rfl layQ 3 (by decide) w662 rfl d_Q_readFactor_60 ?_
    refine lv_aload_n hx hb d_Q_readFactor_63 rfl (lv_at hl 0 rfl) ?_
    refine gF (v := .long x.qnum) hx hb hown hE hK hP 37 rfl rfl layQ 5 (by decide) w1560 rfl d_Q_readFactor_64 ?_
    refine jkV (wr := []) (rnIy (As := [.int 257, .int (nI x.qst), .long x.qnum]) (rest := [.ref sp, .ref (ad 23)]) hx hb hml hown hE hK hZ hT hM hS (hN _ _ hS) hP hD (v_Einit_o l D dA H.size e0 mi (VW dA h ad x) sp 257 x.qst x.qnum (by decide)) w1651 w1650 w1652 w1496 rfl rfl rfl ⟨⟨by decide, by decide⟩, rfl⟩ ⟨(by first | exact Nat.le_of_ble_eq_true rfl | (dsimp only; omega)), (by first | exact Nat.le_of_ble_eq_true rfl | (dsimp only; omega))⟩ rfl hl.1 rfl (by first | exact Nat.le_of_ble_eq_true rfl | (dsimp only; omega)) d_Q_readFactor_67 ⟨(show 0 + 1 + 4 ≤ 8 * (rqP (pFc O x.tape x.qlen x.tk).1 (pFc O x.tape x.qlen x.tk).2.1 - x.qst) by omega), (show 0 + 8 + 6 ≤ 64 * (rqP (pFc O x.tape x.qlen x.tk).1 (pFc O x.tape x.qlen x.tk).2.1 - x.qst) + 4 * (cpR g.eN g.sz (pFc O x.tape x.qlen x.tk).2.2.length - g.eN) by omega)⟩) hP hD hS hA (fun u2 H locs hp9 hP hD hS => ?_)
    obtain ⟨na, ln, lt, mk⟩ := u2
    have hP : va_P D vwCl ([(na, .inl (dA 6, 0, .inr (.inr (.inr (.inr (fun _ => none))))))] ++ ([(ln, .inr (6, [.ref e0, .int 0, .int 0]))] ++ ([(lt, .inr (6, [.ref e0, .int 0, .int 0]))] ++ ([(mk, .inl (dA 1, 0, .inl (fun _ => 0)))] ++ ([(sp, .inr (13, [.int 257, .int (nI x.qst), .long x.qnum, .ref na, .int 0, .ref ln, .ref lt, .ref mk]))] ++ (VW dA h ad x)))))) H := hP
    have hD : va_D A ([(na, .inl (dA 6, 0, .inr (.inr (.inr (.inr (fun _ => none))))))] ++ ([(ln, .inr (6, [.ref e0, .int 0, .int 0]))] ++ ([(lt, .inr (6, [.ref e0, .int 0, .int 0]))] ++ ([(mk, .inl (dA 1, 0, .inl (fun _ => 0)))] ++ ([(sp, .inr (13, [.int 257, .int (nI x.qst), .long x.qnum, .ref na, .int 0, .ref ln, .ref lt, .ref mk]))] ++ (VW dA h ad x)))))) := hD
    have hP : va_P D vwCl (VW dA h ad (VS.s_pl x (x.pl ++ ([(na, .inl (dA 6, 0, .inr (.inr (.inr (.inr (fun _ => none))))))] ++ ([(ln, .inr (6, [.ref e0, .int 0, .int 0]))] ++ ([(lt, .inr (6, [.ref e0, .int 0, .int 0]))] ++ ([(mk, .inl (dA 1, 0, .inl (fun _ => 0)))] ++ ([(sp, .inr (13, [.int 257, .int (nI x.qst), .long x.qnum, .ref na, .int 0, .ref ln, .ref lt, .ref mk]))])))))))) H := pmP (show List.Perm (α := Nat × va_E) ([(na, .inl (dA 6, 0, .inr (.inr (.inr (.inr (fun _ => none))))))] ++ ([(ln, .inr (6, [.ref e0, .int 0, .int 0]))] ++ ([(lt, .inr (6, [.ref e0, .int 0, .int 0]))] ++ ([(mk, .inl (dA 1, 0, .inl (fun _ => 0)))] ++ ([(sp, .inr (13, [.int 257, .int (nI x.qst), .long x.qnum, .ref na, .int 0, .ref ln, .ref lt, .ref mk]))] ++ (VW dA h ad x)))))) (VW dA h ad (VS.s_pl x (x.pl ++ ([(na, .inl (dA 6, 0, .inr (.inr (.inr (.inr (fun _ => none))))))] ++ ([(ln, .inr (6, [.ref e0, .int 0, .int 0]))] ++ ([(lt, .inr (6, [.ref e0, .int 0, .int 0]))] ++ ([(mk, .inl (dA 1, 0, .inl (fun _ => 0)))] ++ ([(sp, .inr (13, [.int 257, .int (nI x.qst), .long x.qnum, .ref na, .int 0, .ref ln, .ref lt, .ref mk]))])))))))) from plP5 (dA := dA) (h := h) (ad := ad) x ([(na, .inl (dA 6, 0, .inr (.inr (.inr (.inr (fun _ => none))))))]) ([(ln, .inr (6, [.ref e0, .int 0, .int 0]))]) ([(lt, .inr (6, [.ref e0, .int 0, .int 0]))]) ([(mk, .inl (dA 1, 0, .inl (fun _ => 0)))]) ([(sp, .inr (13, [.int 257, .int (nI x.qst), .long x.qnum, .ref na, .int 0, .ref ln, .ref lt, .ref mk]))])) hP
    have hD : va_D A (VW dA h ad (VS.s_pl x (x.pl ++ ([(na, .inl (dA 6, 0, .inr (.inr (.inr (.inr (fun _ => none))))))] ++ ([(ln, .inr (6, [.ref e0, .int 0, .int 0]))] ++ ([(lt, .inr (6, [.ref e0, .int 0, .int 0]))] ++ ([(mk, .inl (dA 1, 0, .inl (fun _ => 0)))] ++ ([(sp, .inr (13, [.int 257, .int (nI x.qst), .long x.qnum, .ref na, .int 0, .ref ln, .ref lt, .ref mk]))])))))))) := pmD (show List.Perm (α := Nat × va_E) ([(na, .inl (dA 6, 0, .inr (.inr (.inr (.inr (fun _ => none))))))] ++ ([(ln, .inr (6, [.ref e0, .int 0, .int 0]))] ++ ([(lt, .inr (6, [.ref e0, .int 0, .int 0]))] ++ ([(mk, .inl (dA 1, 0, .inl (fun _ => 0)))] ++ ([(sp, .inr (13, [.int 257, .int (nI x.qst), .long x.qnum, .ref na, .int 0, .ref ln, .ref lt, .ref mk]))] ++ (VW dA h ad x)))))) (VW dA h ad (VS.s_pl x (x.pl ++ ([(na, .inl (dA 6, 0, .inr (.inr (.inr (.inr (fun _ => none))))))] ++ ([(ln, .inr (6, [.ref e0, .int 0, .int 0]))] ++ ([(lt, .inr (6, [.ref e0, .int 0, .int 0]))] ++ ([(mk, .inl (dA 1, 0, .inl (fun _ => 0)))] ++ ([(sp, .inr (13, [.int 257, .int (nI x.qst), .long x.qnum, .ref na, .int 0, .ref ln, .ref lt, .ref mk]))])))))))) from plP5 (dA := dA) (h := h) (ad := ad) x ([(na, .inl (dA 6, 0, .inr (.inr (.inr (.inr (fun _ => none))))))]) ([(ln, .inr (6, [.ref e0, .int 0, .int 0]))]) ([(lt, .inr (6, [.ref e0, .int 0, .int 0]))]) ([(mk, .inl (dA 1, 0, .inl (fun _ => 0)))]) ([(sp, .inr (13, [.int 257, .int (nI x.qst), .long x.qnum, .ref na, .int 0, .ref ln, .ref lt, .ref mk]))])) hD
    obtain ⟨pl3, e_pl3⟩ : ∃ z9, z9 = x.pl ++ ([(na, .inl (dA 6, 0, .inr (.inr (.inr (.inr (fun _ => none))))))] ++ ([(ln, .inr (6, [.ref e0, .int 0, .int 0]))] ++ ([(lt, .inr (6, [.ref e0, .int 0, .int 0]))] ++ ([(mk, .inl (dA 1, 0, .inl (fun _ => 0)))] ++ ([(sp, .inr (13, [.int 257, .int (nI x.qst), .long x.qnum, .ref na, .int 0, .ref ln, .ref lt, .ref mk]))]))))) := ⟨_, rfl⟩
    rw [← e_pl3] at hP hD
    have s_pl3 : ∀ c, c ∈ x.pl → c ∈ pl3 := by rw [e_pl3]; exact fun _ hm => List.mem_append_left _ hm
    have t_pl3_0 : ((na, .inl (dA 6, 0, .inr (.inr (.inr (.inr (fun _ => none)))))) : Nat × va_E) ∈ pl3 := by rw [e_pl3]; exact List.mem_append_right _ (List.mem_of_getElem? (i := 0) rfl)
    have t_pl3_1 : ((ln, .inr (6, [.ref e0, .int 0, .int 0])) : Nat × va_E) ∈ pl3 := by rw [e_pl3]; exact List.mem_append_right _ (List.mem_of_getElem? (i := 1) rfl)
    have t_pl3_2 : ((lt, .inr (6, [.ref e0, .int 0, .int 0])) : Nat × va_E) ∈ pl3 := by rw [e_pl3]; exact List.mem_append_right _ (List.mem_of_getElem? (i := 2) rfl)
    have t_pl3_3 : ((mk, .inl (dA 1, 0, .inl (fun _ => 0))) : Nat × va_E) ∈ pl3 := by rw [e_pl3]; exact List.mem_append_right _ (List.mem_of_getElem? (i := 3) rfl)
    have t_pl3_4 : ((sp, .inr (13, [.int 257, .int (nI x.qst), .long x.qnum, .ref na, .int 0, .ref ln, .ref lt, .ref mk])) : Nat × va_E) ∈ pl3 := by rw [e_pl3]; exact List.mem_append_right _ (List.mem_of_getElem? (i := 4) rfl)
    have hP : va_P D vwCl (VW dA h ad (VS.s_pl x pl3)) H := hP
    have hD : va_D A (VW dA h ad (VS.s_pl x pl3)) := hD
    obtain ⟨y6, e_y6⟩ : ∃ w9, w9 = VS.s_pl x pl3 := ⟨_, rfl⟩
    rw [← e_y6] at hP hD
    have hP : va_P D vwCl (VW dA h ad y6) H := hP
    have hD : va_D A (VW dA h ad y6) := hD
    have pk6 : x.pk y6 := by rw [e_y6]; exact ⟨rfl, s_pl3⟩
    have ep6 : y6.pl = pl3 := by rw [e_y6]
    obtain ⟨hk_y6, qq_y6, tk_y6⟩ := qok_pk hw.1 pk6
    have ms6 : (sp, .inr (13, [.int 257, .int (nI x.qst), .long x.qnum, .ref na, .int 0, .ref ln, .ref lt, .ref mk])) ∈ y6.pl := by rw [ep6]; exact t_pl3_4
    have is6 : isSP dA y6.pl sp (spO 257 x.qst x.qnum) := by rw [ep6]; exact isSP_o t_pl3_4 t_pl3_0 t_pl3_1 t_pl3_2 t_pl3_3
    have hl6 : y6.ll = LqW dA sa g ++ r := (qp_ll qq_y6).trans hw.2.1
    rw [← hsa]
    have hP := pmP (show List.Perm (α := Nat × va_E) (VW dA h ad y6) (LqW dA sa g ++ (VW dA h ad (VS.s_ll y6 r))) from llP (dA := dA) (h := h) (ad := ad) (x := y6) (L := LqW dA sa g) (r := r) hl6) hP
    have hD := pmD (show List.Perm (α := Nat × va_E) (VW dA h ad y6) (LqW dA sa g ++ (VW dA h ad (VS.s_ll y6 r))) from llP (dA := dA) (h := h) (ad := ad) (x := y6) (L := LqW dA sa g) (r := r) hl6) hD
    have hP : va_P D vwCl (LqW dA sa g ++ (VW dA h ad (VS.s_ll y6 r))) H := hP
    have hD : va_D A (LqW dA sa g ++ (VW dA h ad (VS.s_ll y6 r))) := hD
    refine jkI (wr := []) (rnVy (As := [.ref sp]) (rest := []) hx hb hml hown hE hK hZ hT hM hS (hN _ _ hS) hP hD (v_LaddQ_E l D dA H.size e0 mi (VW dA h ad (VS.s_ll y6 r)) sa g sp ([.int 257, .int (nI x.qst), .long x.qnum, .ref na, .int 0, .ref ln, .ref lt, .ref mk]) hw.2.2.1.1 (fun i hi y hy => by obtain ⟨vs, hv⟩ := hw.2.2.1.2 i hi y hy; have h9 : (y, .inr (13, vs)) ∈ (VS.s_ll y6 r).pl := qq_y6.2 _ hv; exact ⟨vs, (fun _ hm => (plm hm)) _ h9⟩) (by have h9 : (sp, .inr (13, [.int 257, .int (nI x.qst), .long x.qnum, .ref na, .int 0, .ref ln, .ref lt, .ref mk])) ∈ (VS.s_ll y6 r).pl := ms6; exact ((fun _ hm => (plm hm)) _ h9))) (q0 := 0) rfl rfl w812 w1653 w813 w814 w680 rfl rfl ⟨⟨by decide, by decide⟩, rfl⟩ ⟨(by first | exact Nat.le_of_ble_eq_true rfl | (dsimp only; omega)), (by first | exact Nat.le_of_ble_eq_true rfl | (dsimp only; omega))⟩ rfl hl.1 rfl (by first | exact Nat.le_of_ble_eq_true rfl | (dsimp only; omega)) d_Q_readFactor_70 ⟨(show 0 + 1 + 4 + 1 ≤ 8 * (rqP (pFc O x.tape x.qlen x.tk).1 (pFc O x.tape x.qlen x.tk).2.1 - x.qst) by omega), (show 0 + 8 + 6 + (gqS g) ≤ 64 * (rqP (pFc O x.tape x.qlen x.tk).1 (pFc O x.tape x.qlen x.tk).2.1 - x.qst) + 4 * (cpR g.eN g.sz (pFc O x.tape x.qlen x.tk).2.2.length - g.eN) by omega)⟩) hP hD hS hA (fun r4 u5 H locs hp9 hP hD hS => ?_)
    obtain ⟨gs1, h9u⟩ : ∃ z9, z9 = u5 := ⟨_, rfl⟩
    subst h9u
    have hP : va_P D vwCl (LqW dA sa gs1 ++ (VW dA h ad (VS.s_ll y6 r))) H := hP
    have hD : va_D A (LqW dA sa gs1 ++ (VW dA h ad (VS.s_ll y6 r))) := hD
    obtain ⟨hp9, f_f_6⟩ := hp9
    replace hp9 : 1 = r4 := Eq.symm hp9
    subst hp9
    refine lv_pop hx hb d_Q_readFactor_73 rfl ?_
    refine lv_aload_n hx hb d_Q_readFactor_74 rfl (lv_at hl 0 rfl) ?_
    have hP := pmP (show List.Perm (α := Nat × va_E) (LqW dA sa gs1 ++ (VW dA h ad (VS.s_ll y6 r))) (VW dA h ad (VS.s_ll y6 (LqW dA sa gs1 ++ r))) from (llP (dA := dA) (h := h) (ad := ad) (x := (VS.s_ll y6 (LqW dA sa gs1 ++ r))) (L := LqW dA sa gs1) (r := r) rfl).symm) hP
    have hD := pmD (show List.Perm (α := Nat × va_E) (LqW dA sa gs1 ++ (VW dA h ad (VS.s_ll y6 r))) (VW dA h ad (VS.s_ll y6 (LqW dA sa gs1 ++ r))) from (llP (dA := dA) (h := h) (ad := ad) (x := (VS.s_ll y6 (LqW dA sa gs1 ++ r))) (L := LqW dA sa gs1) (r := r) rfl).symm) hD
    have hP : va_P D vwCl (VW dA h ad (VS.s_ll y6 (LqW dA sa gs1 ++ r))) H := hP
    have hD : va_D A (VW dA h ad (VS.s_ll y6 (LqW dA sa gs1 ++ r))) := hD
    obtain ⟨y7, e_y7⟩ : ∃ w9, w9 = VS.s_ll y6 (LqW dA sa gs1 ++ r) := ⟨_, rfl⟩
    rw [← e_y7] at hP hD
    have hP : va_P D vwCl (VW dA h ad y7) H := hP
    have hD : va_D A (VW dA h ad y7) := hD
    have hk7 : y7.qok := by rw [e_y7]; exact qok_ll hk_y6
    have q7 : x.qr y7 := by rw [e_y7]; exact qr_tr (qp_qr qq_y6) (qr_ll y6 _)
    have tt7 : y7.tk = x.tk := by rw [e_y7]; exact tk_y6
    have hl7 : y7.ll = LqW dA sa gs1 ++ r := by rw [e_y7]
    have ep7 : y7.pl = y6.pl := by rw [e_y7]
    have kb_y7 : y7.qst ≤ y7.qen ∧ y7.qen ≤ y7.qlen ∧ y7.qlen ≤ y7.tpN ∧ y7.tpN ≤ 131072 ∧ y7.qlen ≤ 16384 := ⟨hk7.2.2.2.2.2.1, hk7.2.2.2.2.2.2.1, hk7.2.1, hk7.2.2.1, hk7.2.2.2.1⟩
    have kq_y7 : y7.qtp = y7.tpA := hk7.1
    refine jkV (wr := []) (rnV (As := []) (rest := []) hx hb hml hown hE hK (hN _ _ hS) hP hD (v_Qadvance l D dA H.size h ad y7 kq_y7 (show y7.qlen ≤ y7.tpN from by omega) (show y7.tpN ≤ 131072 from by omega) (show y7.qen ≤ y7.qlen from by omega)) (q0 := 36) rfl rfl w685 w684 w686 w687 w665 rfl rfl ⟨⟨by decide, by decide⟩, rfl⟩ ⟨(by first | exact Nat.le_of_ble_eq_true rfl | (dsimp only; omega)), (by first | exact Nat.le_of_ble_eq_true rfl | (dsimp only; omega))⟩ rfl hl.1 rfl (by first | exact Nat.le_of_ble_eq_true rfl | (dsimp only; omega)) d_Q_readFactor_75 ⟨(show 0 + 1 + 4 + 1 + 0 ≤ 8 * (rqP (pFc O x.tape x.qlen x.tk).1 (pFc O x.tape x.qlen x.tk).2.1 - x.qst) by omega), (show 0 + 8 + 6 + (gqS g) + 0 ≤ 64 * (rqP (pFc O x.tape x.qlen x.tk).1 (pFc O x.tape x.qlen x.tk).2.1 - x.qst) + 4 * (cpR g.eN g.sz (pFc O x.tape x.qlen x.tk).2.2.length - g.eN) by omega)⟩) hP hD hS hA (fun u8 H locs hp9 hP hD hS => ?_)
    obtain ⟨y8, h9u⟩ : ∃ z9, z9 = u8 := ⟨_, rfl⟩
    subst h9u
    have hP : va_P D vwCl (VW dA h ad y8) H := hP
    have hD : va_D A (VW dA h ad y8) := hD
    have f_e_9 := hp9
    refine lv_iconst (v := 1) hx hb d_Q_readFactor_78 (by decide) ?_
    obtain ⟨hk8, qq8, tk8⟩ := qok_adv hk7 f_e_9
    have kf7 : y7.tape = x.tape ∧ y7.qlen = x.qlen := ⟨(qr_f q7).2.2.1, (qr_f q7).2.1⟩
    have tt8 : y8.tk = nxT x.tape x.qlen x.tk := by rw [tk8, kf7.1, kf7.2, tt7]
    have st8 : x.qst < y8.qst := by have e9 := (nx_ok (f := x.tape) tx0.2.1).2; have e8 : y8.qst = (nxT x.tape x.qlen x.tk).2.1 := congrArg (fun q : TKQ => q.2.1) tt8; have e7 : x.qen ≤ (nxT x.tape x.qlen x.tk).2.1 := e9; omega
    exact rfZ hx hb hr (bI_nar true) hlk hS (⟨y8, gs1⟩) ⟨by rw [E0]; rfl, by rw [E0]; exact pq_fn hw (qr_tr q7 (qp_qr qq8)) hk8 tt8 ((qp_ll qq8).trans hl7) f_f_6 ⟨_, qq8.2 _ (by rw [ep7]; exact ms6)⟩ (fun _ => isSP_m qq8.2 (by rw [ep7]; exact is6)) st8⟩ hP hD (show 0 + 1 + 4 + 1 + 0 ≤ 8 * (rqP (pFc O x.tape x.qlen x.tk).1 (pFc O x.tape x.qlen x.tk).2.1 - x.qst) by omega) (show 0 + 8 + 6 + (gqS g) + 0 ≤ 64 * (rqP (pFc O x.tape x.qlen x.tk).1 (pFc O x.tape x.qlen x.tk).2.1 - x.qst) + 4 * (cpR g.eN g.sz (pFc O x.tape x.qlen x.tk).2.2.length - g.eN) by omega) d_Q_readFactor_79
  · refine lv_lookup (x := x.qk) (off := 76) (tgt := 80) hx hb d_Q_readFactor_4 (by decide) (by rw [h1]; decide) rfl ?_
    refine lv_aload_n hx hb d_Q_readFactor_80 rfl (lv_at hl 0 rfl) ?_
    have E0 : pFc O x.tape x.qlen x.tk = pFn x.tape x.qlen x.tk := pFc_2 h1
    have rE : rqP (pFn x.tape x.qlen x.tk).1 (pFn x.tape x.qlen x.tk).2.1 = rqP (pFc O x.tape x.qlen x.tk).1 (pFc O x.tape x.qlen x.tk).2.1 := by rw [E0]
    have cE : cpR g.eN g.sz (pFn x.tape x.qlen x.tk).2.2.length = cpR g.eN g.sz (pFc O x.tape x.qlen x.tk).2.2.length := by rw [E0]
    refine jkI (wr := []) (rnVs (As := []) (rest := []) hx hb hml hown hE hK hZ hT hM hQ hS (hN _ _ hS) hP hD (v_QreadFunc l D dA H.size e0 mi kA vA fm h ad sa g r x hsa hw h1) (q0 := 36) rfl rfl w1670 w1669 w1671 w1672 w665 rfl rfl ⟨⟨by decide, by decide⟩, rfl⟩ ⟨(by first | exact Nat.le_of_ble_eq_true rfl | (dsimp only; omega)), (by first | exact Nat.le_of_ble_eq_true rfl | (dsimp only; omega))⟩ rfl hl.1 rfl (by first | exact Nat.le_of_ble_eq_true rfl | (dsimp only; omega)) d_Q_readFactor_81 ⟨(show 0 + (8 * (rqP (pFn x.tape x.qlen x.tk).1 (pFn x.tape x.qlen x.tk).2.1 - x.qst)) ≤ 8 * (rqP (pFc O x.tape x.qlen x.tk).1 (pFc O x.tape x.qlen x.tk).2.1 - x.qst) by omega), (show 0 + (64 * (rqP (pFn x.tape x.qlen x.tk).1 (pFn x.tape x.qlen x.tk).2.1 - x.qst) + 4 * (cpR g.eN g.sz (pFn x.tape x.qlen x.tk).2.2.length - g.eN)) ≤ 64 * (rqP (pFc O x.tape x.qlen x.tk).1 (pFc O x.tape x.qlen x.tk).2.1 - x.qst) + 4 * (cpR g.eN g.sz (pFc O x.tape x.qlen x.tk).2.2.length - g.eN) by omega)⟩) hP hD hS hA (fun r10 u11 H locs hp9 hP hD hS => ?_)
    obtain ⟨y2, gy2⟩ := u11
    have hP : va_P D vwCl (VW dA h ad y2) H := hP
    have hD : va_D A (VW dA h ad y2) := hD
    obtain ⟨hp9, f_p_12⟩ := hp9
    replace hp9 : bI (pFn x.tape x.qlen x.tk).1 = r10 := Eq.symm hp9
    subst hp9
    exact rfZ hx hb hr (bI_nar ((pFn x.tape x.qlen x.tk).1)) hlk hS (⟨y2, gy2⟩) ⟨by rw [E0], by rw [E0]; exact f_p_12⟩ hP hD (show 0 + (8 * (rqP (pFn x.tape x.qlen x.tk).1 (pFn x.tape x.qlen x.tk).2.1 - x.qst)) ≤ 8 * (rqP (pFc O x.tape x.qlen x.tk).1 (pFc O x.tape x.qlen x.tk).2.1 - x.qst) by omega) (show 0 + (64 * (rqP (pFn x.tape x.qlen x.tk).1 (pFn x.tape x.qlen x.tk).2.1 - x.qst) + 4 * (cpR g.eN g.sz (pFn x.tape x.qlen x.tk).2.2.length - g.eN)) ≤ 64 * (rqP (pFc O x.tape x.qlen x.tk).1 (pFc O x.tape x.qlen x.tk).2.1 - x.qst) + 4 * (cpR g.eN g.sz (pFc O x.tape x.qlen x.tk).2.2.length - g.eN) by omega) d_Q_readFactor_84
  · refine lv_lookup (x := x.qk) (off := 81) (tgt := 85) hx hb d_Q_readFactor_4 (by decide) (ls4_o h1) rfl ?_
    refine lv_iload_n hx hb d_Q_readFactor_85 rfl (lv_at hl 1 rfl) ?_
    refine lv_bipush (v := 8) hx hb d_Q_readFactor_86 (by decide) ?_
    refine lv_icmp_ge hx hb d_Q_readFactor_88 (tgt := 101) rfl (fun h9 => absurd h9 (mt (nI_leI (a := 8) (b := o) (by omega) (by omega)).mp (Nat.not_le.mpr ho))) (fun _ => ?_)
    refine lv_aload_n hx hb d_Q_readFactor_91 rfl (lv_at hl 0 rfl) ?_
    refine lv_iload_n hx hb d_Q_readFactor_92 rfl (lv_at hl 1 rfl) ?_
    refine lv_iconst (v := 1) hx hb d_Q_readFactor_93 (by decide) ?_
    refine lv_iadd hx hb d_Q_readFactor_94 (tpi (y := nI (o + 1)) (nI_add (o) (1)) ?_)
    have E0 : pFc O x.tape x.qlen x.tk = O x.tape x.qlen x.tk := pFc_3 h1
    have rE : rqP (O x.tape x.qlen x.tk).1 (O x.tape x.qlen x.tk).2.1 = rqP (pFc O x.tape x.qlen x.tk).1 (pFc O x.tape x.qlen x.tk).2.1 := by rw [E0]
    have cE : cpR g.eN g.sz (O x.tape x.qlen x.tk).2.2.length = cpR g.eN g.sz (pFc O x.tape x.qlen x.tk).2.2.length := by rw [E0]
    refine jkI (wr := []) (rnVs (As := [.int (nI (o + 1))]) (rest := []) hx hb hml hown hE hK hZ hT hM hQ hS (hN _ _ hS) hP hD (hO l D dA H.size e0 mi kA vA fm h ad sa g r x hsa hw h1) (q0 := 36) rfl rfl w1674 w1673 w1675 w1676 w665 rfl rfl ⟨⟨by decide, by decide⟩, rfl⟩ ⟨(by first | exact Nat.le_of_ble_eq_true rfl | (dsimp only; omega)), (by first | exact Nat.le_of_ble_eq_true rfl | (dsimp only; omega))⟩ rfl hl.1 rfl (by first | exact Nat.le_of_ble_eq_true rfl | (dsimp only; omega)) d_Q_readFactor_95 ⟨(show 0 + (8 * (rqP (O x.tape x.qlen x.tk).1 (O x.tape x.qlen x.tk).2.1 - x.qst)) ≤ 8 * (rqP (pFc O x.tape x.qlen x.tk).1 (pFc O x.tape x.qlen x.tk).2.1 - x.qst) by omega), (show 0 + (64 * (rqP (O x.tape x.qlen x.tk).1 (O x.tape x.qlen x.tk).2.1 - x.qst) + 4 * (cpR g.eN g.sz (O x.tape x.qlen x.tk).2.2.length - g.eN)) ≤ 64 * (rqP (pFc O x.tape x.qlen x.tk).1 (pFc O x.tape x.qlen x.tk).2.1 - x.qst) + 4 * (cpR g.eN g.sz (pFc O x.tape x.qlen x.tk).2.2.length - g.eN) by omega)⟩) hP hD hS hA (fun r13 u14 H locs hp9 hP hD hS => ?_)
    obtain ⟨y2, gy2⟩ := u14
    have hP : va_P D vwCl (VW dA h ad y2) H := hP
    have hD : va_D A (VW dA h ad y2) := hD
    obtain ⟨hp9, f_p_15⟩ := hp9
    replace hp9 : bI (O x.tape x.qlen x.tk).1 = r13 := Eq.symm hp9
    subst hp9
    refine lv_goto hx hb d_Q_readFactor_98 (tgt := 110) rfl ?_
    exact rfZ hx hb hr (bI_nar ((O x.tape x.qlen x.tk).1)) hlk hS (⟨y2, gy2⟩) ⟨by rw [E0], by rw [E0]; exact f_p_15⟩ hP hD (show 0 + (8 * (rqP (O x.tape x.qlen x.tk).1 (O x.tape x.qlen x.tk).2.1 - x.qst)) ≤ 8 * (rqP (pFc O x.tape x.qlen x.tk).1 (pFc O x.tape x.qlen x.tk).2.1 - x.qst) by omega) (show 0 + (64 * (rqP (O x.tape x.qlen x.tk).1 (O x.tape x.qlen x.tk).2.1 - x.qst) + 4 * (cpR g.eN g.sz (O x.tape x.qlen x.tk).2.2.length - g.eN)) ≤ 64 * (rqP (pFc O x.tape x.qlen x.tk).1 (pFc O x.tape x.qlen x.tk).2.1 - x.qst) + 4 * (cpR g.eN g.sz (pFc O x.tape x.qlen x.tk).2.2.length - g.eN) by omega) d_Q_readFactor_110
  · refine lv_lookup (x := x.qk) (off := 107) (tgt := 111) hx hb d_Q_readFactor_4 (by decide) (ls4_no h1.1 h1.2.1 h1.2.2.1 h1.2.2.2) rfl ?_
    refine lv_aload_n hx hb d_Q_readFactor_111 rfl (lv_at hl 0 rfl) ?_
    refine lv_iconst (v := 2) hx hb d_Q_readFactor_112 (by decide) ?_
    refine lv_aload_n hx hb d_Q_readFactor_113 rfl (lv_at hl 0 rfl) ?_
    refine gF (v := .int (nI x.qst)) hx hb hown hE hK hP 36 rfl rfl layQ 3 (by decide) w662 rfl d_Q_readFactor_114 ?_
    refine jkI (wr := []) (rnV (As := [.int 2, .int (nI x.qst)]) (rest := []) hx hb hml hown hE hK (hN _ _ hS) hP hD (v_Qrefuse l D dA H.size h ad x 2 x.qst) (q0 := 36) rfl rfl w666 w664 w667 w668 w665 rfl rfl ⟨⟨by decide, by decide⟩, rfl⟩ ⟨(by first | exact Nat.le_of_ble_eq_true rfl | (dsimp only; omega)), (by first | exact Nat.le_of_ble_eq_true rfl | (dsimp only; omega))⟩ rfl hl.1 rfl (by first | exact Nat.le_of_ble_eq_true rfl | (dsimp only; omega)) d_Q_readFactor_117 ⟨(show 0 + 0 ≤ 8 * (rqP (pFc O x.tape x.qlen x.tk).1 (pFc O x.tape x.qlen x.tk).2.1 - x.qst) by omega), (show 0 + 0 ≤ 64 * (rqP (pFc O x.tape x.qlen x.tk).1 (pFc O x.tape x.qlen x.tk).2.1 - x.qst) + 4 * (cpR g.eN g.sz (pFc O x.tape x.qlen x.tk).2.2.length - g.eN) by omega)⟩) hP hD hS hA (fun r16 u17 H locs hp9 hP hD hS => ?_)
    obtain ⟨y4, h9u⟩ : ∃ z9, z9 = u17 := ⟨_, rfl⟩
    subst h9u
    have hP : va_P D vwCl (VW dA h ad y4) H := hP
    have hD : va_D A (VW dA h ad y4) := hD
    obtain ⟨hp9, f_e_18⟩ := hp9
    replace hp9 : 0 = r16 := Eq.symm hp9
    subst hp9
    obtain ⟨hk_y4, qq_y4, tk_y4⟩ := qok_rfq hw.1 f_e_18
    exact rfZ hx hb hr (bI_nar false) hlk hS (⟨y4, g⟩) (by have E : pFc O x.tape x.qlen x.tk = (false, rfT x.tk 2 x.tk.2.1, []) := (pFc_4 h1); exact ⟨by rw [E]; rfl, by rw [E]; exact pq_0 hw qq_y4 hk_y4 tk_y4 (show x.tk.2.1 ≤ _ from Nat.le_of_eq (rfT_e x.tk 2 x.tk.2.1).2.1.symm)⟩) hP hD (show 0 + 0 ≤ 8 * (rqP (pFc O x.tape x.qlen x.tk).1 (pFc O x.tape x.qlen x.tk).2.1 - x.qst) by omega) (show 0 + 0 ≤ 64 * (rqP (pFc O x.tape x.qlen x.tk).1 (pFc O x.tape x.qlen x.tk).2.1 - x.qst) + 4 * (cpR g.eN g.sz (pFc O x.tape x.qlen x.tk).2.2.length - g.eN) by omega) d_Q_readFactor_120
theorem d_Q_readFactor_101 : decode prog_6_method_7_code 101 = .ok (.aload_n 0, 1) := by decide +kernel
theorem d_Q_readFactor_102 : decode prog_6_method_7_code 102 = .ok (.iconst 3, 1) := by decide +kernel
theorem d_Q_readFactor_103 : decode prog_6_method_7_code 103 = .ok (.aload_n 0, 1) := by decide +kernel
theorem d_Q_readFactor_104 : decode prog_6_method_7_code 104 = .ok (.getfield 48, 3) := by decide +kernel
theorem d_Q_readFactor_107 : decode prog_6_method_7_code 107 = .ok (.invokevirtual 51, 3) := by decide +kernel
set_option maxHeartbeats 4000000 in
set_option maxRecDepth 100000 in
theorem v_QreadFactor8 (l : Launch) (D : va_G) (dA : Nat → ClassId) (sz : Nat) (e0 mi : Nat) (kA vA : Nat → Nat) (fm : Nat) (h : Nat) (ad : Nat → Nat) (sa : Nat) (g : LI) (r : va_W) (x : VS) (o : Nat) (hsa : sa = ad 23) (hw : VS.pw dA e0 sa r x g) (ho : o = 8) : Met l ⟨"SeriesVault$Question", "readFactor", "(I)Z"⟩ [Cond.code ⟨"SeriesVault$Question", "readFactor", "(I)Z"⟩ prog_6_method_7_code 2 (some FieldType.boolean)] { frames := 10, cells := 8 * (rqP (pFc pO3 x.tape x.qlen x.tk).1 (pFc pO3 x.tape x.qlen x.tk).2.1 - x.qst), slots := 64 * (rqP (pFc pO3 x.tape x.qlen x.tk).1 (pFc pO3 x.tape x.qlen x.tk).2.1 - x.qst) + 4 * (cpR g.eN g.sz (pFc pO3 x.tape x.qlen x.tk).2.2.length - g.eN), locals := 242 } (pCs D dA e0 mi kA vA fm [.ref (ad 22), .int (nI o)] (VW dA h ad x) sz) (va_Qi (fun (r9 : Int32) (u9 : VS × LI) => r9 = bI (pFc pO3 x.tape x.qlen x.tk).1 ∧ VS.pq dA e0 sa r x g (pFc pO3 x.tape x.qlen x.tk) u9.1 u9.2) (fun (u9 : VS × LI) t9 => bW D (va_A (VW dA h ad x) sz) (VW dA h ad u9.1) t9) (va_A (VW dA h ad x) sz)) (8 * (rqP (pFc pO3 x.tape x.qlen x.tk).1 (pFc pO3 x.tape x.qlen x.tk).2.1 - x.qst)) (64 * (rqP (pFc pO3 x.tape x.qlen x.tk).1 (pFc pO3 x.tape x.qlen x.tk).2.1 - x.qst) + 4 * (cpR g.eN g.sz (pFc pO3 x.tape x.qlen x.tk).2.2.length - g.eN)) (va_A (VW dA h ad x) sz) := by
  refine mkS (y := ⟨"SeriesVault$Question", "readFactor", "(I)Z"⟩) (cc := prog_6_method_7_code) (maxL := 2) (av := [.ref (ad 22), .int (nI o)]) (ws := VW dA h ad x) (sz := sz) (Qc := fun A => va_Qi (fun (r9 : Int32) (u9 : VS × LI) => r9 = bI (pFc pO3 x.tape x.qlen x.tk).1 ∧ VS.pq dA e0 sa r x g (pFc pO3 x.tape x.qlen x.tk) u9.1 u9.2) (fun (u9 : VS × LI) t9 => bW D A (VW dA h ad u9.1) t9) A) (by decide) (Nat.le_of_ble_eq_true rfl) ?_
  intro A p e s m below meth c ls hsz hZ hT hM hQ hB
  obtain ⟨hx, hb, hr, hml, hown, hin, hlk, hE, hK, hP, hD, hS, hA, hN, hl⟩ := hB
  have hown : s.vm.findClass "SeriesVault$Question" = some m.cls := hown
  have hl : lv_has ls 2 [(0, .ref (ad 22)), (1, .int (nI o))] := hl
  obtain ⟨H, hH⟩ : ∃ z, z = s.heap := ⟨_, rfl⟩
  have hP : va_P D vwCl (VW dA h ad x) H := by rw [hH]; exact hP
  have hS : va_S A s.heap H [] := by rw [hH]; exact hS
  rw [← hH]
  have kb : x.qst ≤ x.qen ∧ x.qen ≤ x.qlen ∧ x.qlen ≤ x.tpN ∧ x.tpN ≤ 131072 ∧ x.qlen ≤ 16384 := ⟨hw.1.2.2.2.2.2.1, hw.1.2.2.2.2.2.2.1, hw.1.2.1, hw.1.2.2.1, hw.1.2.2.2.1⟩
  have kq : x.qtp = x.tpA := hw.1.1
  have tx0 : tkok x.qlen x.tk := hw.1.2.2.2.2.2
  have gz0 : x.qen ≤ rqP (pFc pO3 x.tape x.qlen x.tk).1 (pFc pO3 x.tape x.qlen x.tk).2.1 := (pFc_g pO3_g x.tape x.qlen x.tk tx0).2.1
  refine lv_aload_n hx hb d_Q_readFactor_0 rfl (lv_at hl 0 rfl) ?_
  refine gF (v := .int x.qk) hx hb hown hE hK hP 36 rfl rfl layQ 2 (by decide) w663 rfl d_Q_readFactor_1 ?_
  rcases fc4 x.qk with h1 | h1 | h1 | h1
  · refine lv_lookup (x := x.qk) (off := 44) (tgt := 48) hx hb d_Q_readFactor_4 (by decide) (by rw [h1]; decide) rfl ?_
    refine lv_aload_n hx hb d_Q_readFactor_48 rfl (lv_at hl 0 rfl) ?_
    have E0 : pFc pO3 x.tape x.qlen x.tk = (true, nxT x.tape x.qlen x.tk, [spO 257 x.tk.2.1 x.tk.2.2.2.1]) := pFc_1 h1
    have nx0 : x.qst < x.qen := tx0.2.2.1 (show ¬ x.qk = 256 by rw [h1]; decide)
    have lE : (pFc pO3 x.tape x.qlen x.tk).2.2.length = 1 := by rw [E0]; rfl
    have cE : cpR g.eN g.sz (pFc pO3 x.tape x.qlen x.tk).2.2.length = gqN g := by rw [lE]; rfl
    have b3 := gq_S g
    refine gF (v := .ref (ad 23)) hx hb hown hE hK hP 36 rfl rfl layQ 8 (by decide) w678 rfl d_Q_readFactor_49 ?_
    refine nOf hx hb hown hE hK hP hD hS hA (ci := 13) rfl layE tyE tokE w1648 w859 w1496 (fs := [.int 0, .int 0, .long 0, .null, .int 0, .null, .null, .null]) dfE (show 0 + 1 ≤ 8 * (rqP (pFc pO3 x.tape x.qlen x.tk).1 (pFc pO3 x.tape x.qlen x.tk).2.1 - x.qst) by omega) (show 0 + 8 ≤ 64 * (rqP (pFc pO3 x.tape x.qlen x.tk).1 (pFc pO3 x.tape x.qlen x.tk).2.1 - x.qst) + 4 * (cpR g.eN g.sz (pFc pO3 x.tape x.qlen x.tk).2.2.length - g.eN) by omega) d_Q_readFactor_52 (fun sp H hP hD hS => ?_)
    have hP : va_P D vwCl ([(sp, .inr (13, [.int 0, .int 0, .long 0, .null, .int 0, .null, .null, .null]))] ++ (VW dA h ad x)) H := hP
    have hD : va_D A ([(sp, .inr (13, [.int 0, .int 0, .long 0, .null, .int 0, .null, .null, .null]))] ++ (VW dA h ad x)) := hD
    refine lv_dup hx hb d_Q_readFactor_55 rfl ?_
    refine lv_sipush (v := 257) hx hb d_Q_readFactor_56 (by decide) ?_
    refine lv_aload_n hx hb d_Q_readFactor_59 rfl (lv_at hl 0 rfl) ?_
    refine gF (v := .int (nI x.qst)) hx hb hown hE hK hP 37 rfl rfl layQ 3 (by decide) w662 rfl d_Q_readFactor_60 ?_
    refine lv_aload_n hx hb d_Q_readFactor_63 rfl (lv_at hl 0 rfl) ?_
    refine gF (v := .long x.qnum) hx hb hown hE hK hP 37 rfl rfl layQ 5 (by decide) w1560 rfl d_Q_readFactor_64 ?_
    refine jkV (wr := []) (rnIy (As := [.int 257, .int (nI x.qst), .long x.qnum]) (rest := [.ref sp, .ref (ad 23)]) hx hb hml hown hE hK hZ hT hM hS (hN _ _ hS) hP hD (v_Einit_o l D dA H.size e0 mi (VW dA h ad x) sp 257 x.qst x.qnum (by decide)) w1651 w1650 w1652 w1496 rfl rfl rfl ⟨⟨by decide, by decide⟩, rfl⟩ ⟨(Nat.le_of_ble_eq_true rfl), (Nat.le_of_ble_eq_true rfl)⟩ rfl hl.1 rfl (Nat.le_of_ble_eq_true rfl) d_Q_readFactor_67 ⟨(show 0 + 1 + 4 ≤ 8 * (rqP (pFc pO3 x.tape x.qlen x.tk).1 (pFc pO3 x.tape x.qlen x.tk).2.1 - x.qst) by omega), (show 0 + 8 + 6 ≤ 64 * (rqP (pFc pO3 x.tape x.qlen x.tk).1 (pFc pO3 x.tape x.qlen x.tk).2.1 - x.qst) + 4 * (cpR g.eN g.sz (pFc pO3 x.tape x.qlen x.tk).2.2.length - g.eN) by omega)⟩) hP hD hS hA (fun u2 H locs hp9 hP hD hS => ?_)
    obtain ⟨na, ln, lt, mk⟩ := u2
    have hP : va_P D vwCl ([(na, .inl (dA 6, 0, .inr (.inr (.inr (.inr (fun _ => none))))))] ++ ([(ln, .inr (6, [.ref e0, .int 0, .int 0]))] ++ ([(lt, .inr (6, [.ref e0, .int 0, .int 0]))] ++ ([(mk, .inl (dA 1, 0, .inl (fun _ => 0)))] ++ ([(sp, .inr (13, [.int 257, .int (nI x.qst), .long x.qnum, .ref na, .int 0, .ref ln, .ref lt, .ref mk]))] ++ (VW dA h ad x)))))) H := hP
    have hD : va_D A ([(na, .inl (dA 6, 0, .inr (.inr (.inr (.inr (fun _ => none))))))] ++ ([(ln, .inr (6, [.ref e0, .int 0, .int 0]))] ++ ([(lt, .inr (6, [.ref e0, .int 0, .int 0]))] ++ ([(mk, .inl (dA 1, 0, .inl (fun _ => 0)))] ++ ([(sp, .inr (13, [.int 257, .int (nI x.qst), .long x.qnum, .ref na, .int 0, .ref ln, .ref lt, .ref mk]))] ++ (VW dA h ad x)))))) := hD
    have hP : va_P D vwCl (VW dA h ad (VS.s_pl x (x.pl ++ ([(na, .inl (dA 6, 0, .inr (.inr (.inr (.inr (fun _ => none))))))] ++ ([(ln, .inr (6, [.ref e0, .int 0, .int 0]))] ++ ([(lt, .inr (6, [.ref e0, .int 0, .int 0]))] ++ ([(mk, .inl (dA 1, 0, .inl (fun _ => 0)))] ++ ([(sp, .inr (13, [.int 257, .int (nI x.qst), .long x.qnum, .ref na, .int 0, .ref ln, .ref lt, .ref mk]))])))))))) H := pmP (show List.Perm (α := Nat × va_E) ([(na, .inl (dA 6, 0, .inr (.inr (.inr (.inr (fun _ => none))))))] ++ ([(ln, .inr (6, [.ref e0, .int 0, .int 0]))] ++ ([(lt, .inr (6, [.ref e0, .int 0, .int 0]))] ++ ([(mk, .inl (dA 1, 0, .inl (fun _ => 0)))] ++ ([(sp, .inr (13, [.int 257, .int (nI x.qst), .long x.qnum, .ref na, .int 0, .ref ln, .ref lt, .ref mk]))] ++ (VW dA h ad x)))))) (VW dA h ad (VS.s_pl x (x.pl ++ ([(na, .inl (dA 6, 0, .inr (.inr (.inr (.inr (fun _ => none))))))] ++ ([(ln, .inr (6, [.ref e0, .int 0, .int 0]))] ++ ([(lt, .inr (6, [.ref e0, .int 0, .int 0]))] ++ ([(mk, .inl (dA 1, 0, .inl (fun _ => 0)))] ++ ([(sp, .inr (13, [.int 257, .int (nI x.qst), .long x.qnum, .ref na, .int 0, .ref ln, .ref lt, .ref mk]))])))))))) from plP5 (dA := dA) (h := h) (ad := ad) x ([(na, .inl (dA 6, 0, .inr (.inr (.inr (.inr (fun _ => none))))))]) ([(ln, .inr (6, [.ref e0, .int 0, .int 0]))]) ([(lt, .inr (6, [.ref e0, .int 0, .int 0]))]) ([(mk, .inl (dA 1, 0, .inl (fun _ => 0)))]) ([(sp, .inr (13, [.int 257, .int (nI x.qst), .long x.qnum, .ref na, .int 0, .ref ln, .ref lt, .ref mk]))])) hP
    have hD : va_D A (VW dA h ad (VS.s_pl x (x.pl ++ ([(na, .inl (dA 6, 0, .inr (.inr (.inr (.inr (fun _ => none))))))] ++ ([(ln, .inr (6, [.ref e0, .int 0, .int 0]))] ++ ([(lt, .inr (6, [.ref e0, .int 0, .int 0]))] ++ ([(mk, .inl (dA 1, 0, .inl (fun _ => 0)))] ++ ([(sp, .inr (13, [.int 257, .int (nI x.qst), .long x.qnum, .ref na, .int 0, .ref ln, .ref lt, .ref mk]))])))))))) := pmD (show List.Perm (α := Nat × va_E) ([(na, .inl (dA 6, 0, .inr (.inr (.inr (.inr (fun _ => none))))))] ++ ([(ln, .inr (6, [.ref e0, .int 0, .int 0]))] ++ ([(lt, .inr (6, [.ref e0, .int 0, .int 0]))] ++ ([(mk, .inl (dA 1, 0, .inl (fun _ => 0)))] ++ ([(sp, .inr (13, [.int 257, .int (nI x.qst), .long x.qnum, .ref na, .int 0, .ref ln, .ref lt, .ref mk]))] ++ (VW dA h ad x)))))) (VW dA h ad (VS.s_pl x (x.pl ++ ([(na, .inl (dA 6, 0, .inr (.inr (.inr (.inr (fun _ => none))))))] ++ ([(ln, .inr (6, [.ref e0, .int 0, .int 0]))] ++ ([(lt, .inr (6, [.ref e0, .int 0, .int 0]))] ++ ([(mk, .inl (dA 1, 0, .inl (fun _ => 0)))] ++ ([(sp, .inr (13, [.int 257, .int (nI x.qst), .long x.qnum, .ref na, .int 0, .ref ln, .ref lt, .ref mk]))])))))))) from plP5 (dA := dA) (h := h) (ad := ad) x ([(na, .inl (dA 6, 0, .inr (.inr (.inr (.inr (fun _ => none))))))]) ([(ln, .inr (6, [.ref e0, .int 0, .int 0]))]) ([(lt, .inr (6, [.ref e0, .int 0, .int 0]))]) ([(mk, .inl (dA 1, 0, .inl (fun _ => 0)))]) ([(sp, .inr (13, [.int 257, .int (nI x.qst), .long x.qnum, .ref na, .int 0, .ref ln, .ref lt, .ref mk]))])) hD
    obtain ⟨pl3, e_pl3⟩ : ∃ z9, z9 = x.pl ++ ([(na, .inl (dA 6, 0, .inr (.inr (.inr (.inr (fun _ => none))))))] ++ ([(ln, .inr (6, [.ref e0, .int 0, .int 0]))] ++ ([(lt, .inr (6, [.ref e0, .int 0, .int 0]))] ++ ([(mk, .inl (dA 1, 0, .inl (fun _ => 0)))] ++ ([(sp, .inr (13, [.int 257, .int (nI x.qst), .long x.qnum, .ref na, .int 0, .ref ln, .ref lt, .ref mk]))]))))) := ⟨_, rfl⟩
    rw [← e_pl3] at hP hD
    have s_pl3 : ∀ c, c ∈ x.pl → c ∈ pl3 := by rw [e_pl3]; exact fun _ hm => List.mem_append_left _ hm
    have t_pl3_0 : ((na, .inl (dA 6, 0, .inr (.inr (.inr (.inr (fun _ => none)))))) : Nat × va_E) ∈ pl3 := by rw [e_pl3]; exact List.mem_append_right _ (List.mem_of_getElem? (i := 0) rfl)
    have t_pl3_1 : ((ln, .inr (6, [.ref e0, .int 0, .int 0])) : Nat × va_E) ∈ pl3 := by rw [e_pl3]; exact List.mem_append_right _ (List.mem_of_getElem? (i := 1) rfl)
    have t_pl3_2 : ((lt, .inr (6, [.ref e0, .int 0, .int 0])) : Nat × va_E) ∈ pl3 := by rw [e_pl3]; exact List.mem_append_right _ (List.mem_of_getElem? (i := 2) rfl)
    have t_pl3_3 : ((mk, .inl (dA 1, 0, .inl (fun _ => 0))) : Nat × va_E) ∈ pl3 := by rw [e_pl3]; exact List.mem_append_right _ (List.mem_of_getElem? (i := 3) rfl)
    have t_pl3_4 : ((sp, .inr (13, [.int 257, .int (nI x.qst), .long x.qnum, .ref na, .int 0, .ref ln, .ref lt, .ref mk])) : Nat × va_E) ∈ pl3 := by rw [e_pl3]; exact List.mem_append_right _ (List.mem_of_getElem? (i := 4) rfl)
    have hP : va_P D vwCl (VW dA h ad (VS.s_pl x pl3)) H := hP
    have hD : va_D A (VW dA h ad (VS.s_pl x pl3)) := hD
    obtain ⟨y6, e_y6⟩ : ∃ w9, w9 = VS.s_pl x pl3 := ⟨_, rfl⟩
    rw [← e_y6] at hP hD
    have hP : va_P D vwCl (VW dA h ad y6) H := hP
    have hD : va_D A (VW dA h ad y6) := hD
    have pk6 : x.pk y6 := by rw [e_y6]; exact ⟨rfl, s_pl3⟩
    have ep6 : y6.pl = pl3 := by rw [e_y6]
    obtain ⟨hk_y6, qq_y6, tk_y6⟩ := qok_pk hw.1 pk6
    have ms6 : (sp, .inr (13, [.int 257, .int (nI x.qst), .long x.qnum, .ref na, .int 0, .ref ln, .ref lt, .ref mk])) ∈ y6.pl := by rw [ep6]; exact t_pl3_4
    have is6 : isSP dA y6.pl sp (spO 257 x.qst x.qnum) := by rw [ep6]; exact isSP_o t_pl3_4 t_pl3_0 t_pl3_1 t_pl3_2 t_pl3_3
    have hl6 : y6.ll = LqW dA sa g ++ r := (qp_ll qq_y6).trans hw.2.1
    rw [← hsa]
    have hP := pmP (show List.Perm (α := Nat × va_E) (VW dA h ad y6) (LqW dA sa g ++ (VW dA h ad (VS.s_ll y6 r))) from llP (dA := dA) (h := h) (ad := ad) (x := y6) (L := LqW dA sa g) (r := r) hl6) hP
    have hD := pmD (show List.Perm (α := Nat × va_E) (VW dA h ad y6) (LqW dA sa g ++ (VW dA h ad (VS.s_ll y6 r))) from llP (dA := dA) (h := h) (ad := ad) (x := y6) (L := LqW dA sa g) (r := r) hl6) hD
    have hP : va_P D vwCl (LqW dA sa g ++ (VW dA h ad (VS.s_ll y6 r))) H := hP
    have hD : va_D A (LqW dA sa g ++ (VW dA h ad (VS.s_ll y6 r))) := hD
    refine jkI (wr := []) (rnVy (As := [.ref sp]) (rest := []) hx hb hml hown hE hK hZ hT hM hS (hN _ _ hS) hP hD (v_LaddQ_E l D dA H.size e0 mi (VW dA h ad (VS.s_ll y6 r)) sa g sp ([.int 257, .int (nI x.qst), .long x.qnum, .ref na, .int 0, .ref ln, .ref lt, .ref mk]) hw.2.2.1.1 (fun i hi y hy => by obtain ⟨vs, hv⟩ := hw.2.2.1.2 i hi y hy; have h9 : (y, .inr (13, vs)) ∈ (VS.s_ll y6 r).pl := qq_y6.2 _ hv; exact ⟨vs, (fun _ hm => (plm hm)) _ h9⟩) (by have h9 : (sp, .inr (13, [.int 257, .int (nI x.qst), .long x.qnum, .ref na, .int 0, .ref ln, .ref lt, .ref mk])) ∈ (VS.s_ll y6 r).pl := ms6; exact ((fun _ hm => (plm hm)) _ h9))) (q0 := 0) rfl rfl w812 w1653 w813 w814 w680 rfl rfl ⟨⟨by decide, by decide⟩, rfl⟩ ⟨(Nat.le_of_ble_eq_true rfl), (Nat.le_of_ble_eq_true rfl)⟩ rfl hl.1 rfl (Nat.le_of_ble_eq_true rfl) d_Q_readFactor_70 ⟨(show 0 + 1 + 4 + 1 ≤ 8 * (rqP (pFc pO3 x.tape x.qlen x.tk).1 (pFc pO3 x.tape x.qlen x.tk).2.1 - x.qst) by omega), (show 0 + 8 + 6 + (gqS g) ≤ 64 * (rqP (pFc pO3 x.tape x.qlen x.tk).1 (pFc pO3 x.tape x.qlen x.tk).2.1 - x.qst) + 4 * (cpR g.eN g.sz (pFc pO3 x.tape x.qlen x.tk).2.2.length - g.eN) by omega)⟩) hP hD hS hA (fun r4 u5 H locs hp9 hP hD hS => ?_)
    obtain ⟨gs1, h9u⟩ : ∃ z9, z9 = u5 := ⟨_, rfl⟩
    subst h9u
    have hP : va_P D vwCl (LqW dA sa gs1 ++ (VW dA h ad (VS.s_ll y6 r))) H := hP
    have hD : va_D A (LqW dA sa gs1 ++ (VW dA h ad (VS.s_ll y6 r))) := hD
    obtain ⟨hp9, f_f_6⟩ := hp9
    replace hp9 : 1 = r4 := Eq.symm hp9
    subst hp9
    refine lv_pop hx hb d_Q_readFactor_73 rfl ?_
    refine lv_aload_n hx hb d_Q_readFactor_74 rfl (lv_at hl 0 rfl) ?_
    have hP := pmP (show List.Perm (α := Nat × va_E) (LqW dA sa gs1 ++ (VW dA h ad (VS.s_ll y6 r))) (VW dA h ad (VS.s_ll y6 (LqW dA sa gs1 ++ r))) from (llP (dA := dA) (h := h) (ad := ad) (x := (VS.s_ll y6 (LqW dA sa gs1 ++ r))) (L := LqW dA sa gs1) (r := r) rfl).symm) hP
    have hD := pmD (show List.Perm (α := Nat × va_E) (LqW dA sa gs1 ++ (VW dA h ad (VS.s_ll y6 r))) (VW dA h ad (VS.s_ll y6 (LqW dA sa gs1 ++ r))) from (llP (dA := dA) (h := h) (ad := ad) (x := (VS.s_ll y6 (LqW dA sa gs1 ++ r))) (L := LqW dA sa gs1) (r := r) rfl).symm) hD
    have hP : va_P D vwCl (VW dA h ad (VS.s_ll y6 (LqW dA sa gs1 ++ r))) H := hP
    have hD : va_D A (VW dA h ad (VS.s_ll y6 (LqW dA sa gs1 ++ r))) := hD
    obtain ⟨y7, e_y7⟩ : ∃ w9, w9 = VS.s_ll y6 (LqW dA sa gs1 ++ r) := ⟨_, rfl⟩
    rw [← e_y7] at hP hD
    have hP : va_P D vwCl (VW dA h ad y7) H := hP
    have hD : va_D A (VW dA h ad y7) := hD
    have hk7 : y7.qok := by rw [e_y7]; exact qok_ll hk_y6
    have q7 : x.qr y7 := by rw [e_y7]; exact qr_tr (qp_qr qq_y6) (qr_ll y6 _)
    have tt7 : y7.tk = x.tk := by rw [e_y7]; exact tk_y6
    have hl7 : y7.ll = LqW dA sa gs1 ++ r := by rw [e_y7]
    have ep7 : y7.pl = y6.pl := by rw [e_y7]
    have kb_y7 : y7.qst ≤ y7.qen ∧ y7.qen ≤ y7.qlen ∧ y7.qlen ≤ y7.tpN ∧ y7.tpN ≤ 131072 ∧ y7.qlen ≤ 16384 := ⟨hk7.2.2.2.2.2.1, hk7.2.2.2.2.2.2.1, hk7.2.1, hk7.2.2.1, hk7.2.2.2.1⟩
    have kq_y7 : y7.qtp = y7.tpA := hk7.1
    refine jkV (wr := []) (rnV (As := []) (rest := []) hx hb hml hown hE hK (hN _ _ hS) hP hD (v_Qadvance l D dA H.size h ad y7 kq_y7 (show y7.qlen ≤ y7.tpN from by omega) (show y7.tpN ≤ 131072 from by omega) (show y7.qen ≤ y7.qlen from by omega)) (q0 := 36) rfl rfl w685 w684 w686 w687 w665 rfl rfl ⟨⟨by decide, by decide⟩, rfl⟩ ⟨(Nat.le_of_ble_eq_true rfl), (Nat.le_of_ble_eq_true rfl)⟩ rfl hl.1 rfl (Nat.le_of_ble_eq_true rfl) d_Q_readFactor_75 ⟨(show 0 + 1 + 4 + 1 + 0 ≤ 8 * (rqP (pFc pO3 x.tape x.qlen x.tk).1 (pFc pO3 x.tape x.qlen x.tk).2.1 - x.qst) by omega), (show 0 + 8 + 6 + (gqS g) + 0 ≤ 64 * (rqP (pFc pO3 x.tape x.qlen x.tk).1 (pFc pO3 x.tape x.qlen x.tk).2.1 - x.qst) + 4 * (cpR g.eN g.sz (pFc pO3 x.tape x.qlen x.tk).2.2.length - g.eN) by omega)⟩) hP hD hS hA (fun u8 H locs hp9 hP hD hS => ?_)
    obtain ⟨y8, h9u⟩ : ∃ z9, z9 = u8 := ⟨_, rfl⟩
    subst h9u
    have hP : va_P D vwCl (VW dA h ad y8) H := hP
    have hD : va_D A (VW dA h ad y8) := hD
    have f_e_9 := hp9
    refine lv_iconst (v := 1) hx hb d_Q_readFactor_78 (by decide) ?_
    obtain ⟨hk8, qq8, tk8⟩ := qok_adv hk7 f_e_9
    have kf7 : y7.tape = x.tape ∧ y7.qlen = x.qlen := ⟨(qr_f q7).2.2.1, (qr_f q7).2.1⟩
    have tt8 : y8.tk = nxT x.tape x.qlen x.tk := by rw [tk8, kf7.1, kf7.2, tt7]
    have st8 : x.qst < y8.qst := by have e9 := (nx_ok (f := x.tape) tx0.2.1).2; have e8 : y8.qst = (nxT x.tape x.qlen x.tk).2.1 := congrArg (fun q : TKQ => q.2.1) tt8; have e7 : x.qen ≤ (nxT x.tape x.qlen x.tk).2.1 := e9; omega
    exact rfZ hx hb hr (bI_nar true) hlk hS (⟨y8, gs1⟩) ⟨by rw [E0]; rfl, by rw [E0]; exact pq_fn hw (qr_tr q7 (qp_qr qq8)) hk8 tt8 ((qp_ll qq8).trans hl7) f_f_6 ⟨_, qq8.2 _ (by rw [ep7]; exact ms6)⟩ (fun _ => isSP_m qq8.2 (by rw [ep7]; exact is6)) st8⟩ hP hD (show 0 + 1 + 4 + 1 + 0 ≤ 8 * (rqP (pFc pO3 x.tape x.qlen x.tk).1 (pFc pO3 x.tape x.qlen x.tk).2.1 - x.qst) by omega) (show 0 + 8 + 6 + (gqS g) + 0 ≤ 64 * (rqP (pFc pO3 x.tape x.qlen x.tk).1 (pFc pO3 x.tape x.qlen x.tk).2.1 - x.qst) + 4 * (cpR g.eN g.sz (pFc pO3 x.tape x.qlen x.tk).2.2.length - g.eN) by omega) d_Q_readFactor_79
  · refine lv_lookup (x := x.qk) (off := 76) (tgt := 80) hx hb d_Q_readFactor_4 (by decide) (by rw [h1]; decide) rfl ?_
    refine lv_aload_n hx hb d_Q_readFactor_80 rfl (lv_at hl 0 rfl) ?_
    have E0 : pFc pO3 x.tape x.qlen x.tk = pFn x.tape x.qlen x.tk := pFc_2 h1
    have rE : rqP (pFn x.tape x.qlen x.tk).1 (pFn x.tape x.qlen x.tk).2.1 = rqP (pFc pO3 x.tape x.qlen x.tk).1 (pFc pO3 x.tape x.qlen x.tk).2.1 := by rw [E0]
    have cE : cpR g.eN g.sz (pFn x.tape x.qlen x.tk).2.2.length = cpR g.eN g.sz (pFc pO3 x.tape x.qlen x.tk).2.2.length := by rw [E0]
    refine jkI (wr := []) (rnVs (As := []) (rest := []) hx hb hml hown hE hK hZ hT hM hQ hS (hN _ _ hS) hP hD (v_QreadFunc l D dA H.size e0 mi kA vA fm h ad sa g r x hsa hw h1) (q0 := 36) rfl rfl w1670 w1669 w1671 w1672 w665 rfl rfl ⟨⟨by decide, by decide⟩, rfl⟩ ⟨(Nat.le_of_ble_eq_true rfl), (Nat.le_of_ble_eq_true rfl)⟩ rfl hl.1 rfl (Nat.le_of_ble_eq_true rfl) d_Q_readFactor_81 ⟨(show 0 + (8 * (rqP (pFn x.tape x.qlen x.tk).1 (pFn x.tape x.qlen x.tk).2.1 - x.qst)) ≤ 8 * (rqP (pFc pO3 x.tape x.qlen x.tk).1 (pFc pO3 x.tape x.qlen x.tk).2.1 - x.qst) by omega), (show 0 + (64 * (rqP (pFn x.tape x.qlen x.tk).1 (pFn x.tape x.qlen x.tk).2.1 - x.qst) + 4 * (cpR g.eN g.sz (pFn x.tape x.qlen x.tk).2.2.length - g.eN)) ≤ 64 * (rqP (pFc pO3 x.tape x.qlen x.tk).1 (pFc pO3 x.tape x.qlen x.tk).2.1 - x.qst) + 4 * (cpR g.eN g.sz (pFc pO3 x.tape x.qlen x.tk).2.2.length - g.eN) by omega)⟩) hP hD hS hA (fun r10 u11 H locs hp9 hP hD hS => ?_)
    obtain ⟨y2, gy2⟩ := u11
    have hP : va_P D vwCl (VW dA h ad y2) H := hP
    have hD : va_D A (VW dA h ad y2) := hD
    obtain ⟨hp9, f_p_12⟩ := hp9
    replace hp9 : bI (pFn x.tape x.qlen x.tk).1 = r10 := Eq.symm hp9
    subst hp9
    exact rfZ hx hb hr (bI_nar ((pFn x.tape x.qlen x.tk).1)) hlk hS (⟨y2, gy2⟩) ⟨by rw [E0], by rw [E0]; exact f_p_12⟩ hP hD (show 0 + (8 * (rqP (pFn x.tape x.qlen x.tk).1 (pFn x.tape x.qlen x.tk).2.1 - x.qst)) ≤ 8 * (rqP (pFc pO3 x.tape x.qlen x.tk).1 (pFc pO3 x.tape x.qlen x.tk).2.1 - x.qst) by omega) (show 0 + (64 * (rqP (pFn x.tape x.qlen x.tk).1 (pFn x.tape x.qlen x.tk).2.1 - x.qst) + 4 * (cpR g.eN g.sz (pFn x.tape x.qlen x.tk).2.2.length - g.eN)) ≤ 64 * (rqP (pFc pO3 x.tape x.qlen x.tk).1 (pFc pO3 x.tape x.qlen x.tk).2.1 - x.qst) + 4 * (cpR g.eN g.sz (pFc pO3 x.tape x.qlen x.tk).2.2.length - g.eN) by omega) d_Q_readFactor_84
  · refine lv_lookup (x := x.qk) (off := 81) (tgt := 85) hx hb d_Q_readFactor_4 (by decide) (ls4_o h1) rfl ?_
    refine lv_iload_n hx hb d_Q_readFactor_85 rfl (lv_at hl 1 rfl) ?_
    refine lv_bipush (v := 8) hx hb d_Q_readFactor_86 (by decide) ?_
    refine lv_icmp_ge hx hb d_Q_readFactor_88 (tgt := 101) rfl (fun g13 => ?_) (fun g13 => ?_)
    rotate_left
    · have g13 := mt (nI_leI (a := 8) (b := o) (by omega) (by omega)).mpr g13; exfalso; omega
    have g13 := (nI_leI (a := 8) (b := o) (by omega) (by omega)).mp g13
    refine lv_aload_n hx hb d_Q_readFactor_101 rfl (lv_at hl 0 rfl) ?_
    refine lv_iconst (v := 3) hx hb d_Q_readFactor_102 (by decide) ?_
    refine lv_aload_n hx hb d_Q_readFactor_103 rfl (lv_at hl 0 rfl) ?_
    refine gF (v := .int (nI x.qst)) hx hb hown hE hK hP 36 rfl rfl layQ 3 (by decide) w662 rfl d_Q_readFactor_104 ?_
    refine jkI (wr := []) (rnV (As := [.int 3, .int (nI x.qst)]) (rest := []) hx hb hml hown hE hK (hN _ _ hS) hP hD (v_Qrefuse l D dA H.size h ad x 3 x.qst) (q0 := 36) rfl rfl w666 w664 w667 w668 w665 rfl rfl ⟨⟨by decide, by decide⟩, rfl⟩ ⟨(Nat.le_of_ble_eq_true rfl), (Nat.le_of_ble_eq_true rfl)⟩ rfl hl.1 rfl (Nat.le_of_ble_eq_true rfl) d_Q_readFactor_107 ⟨(show 0 + 0 ≤ 8 * (rqP (pFc pO3 x.tape x.qlen x.tk).1 (pFc pO3 x.tape x.qlen x.tk).2.1 - x.qst) by omega), (show 0 + 0 ≤ 64 * (rqP (pFc pO3 x.tape x.qlen x.tk).1 (pFc pO3 x.tape x.qlen x.tk).2.1 - x.qst) + 4 * (cpR g.eN g.sz (pFc pO3 x.tape x.qlen x.tk).2.2.length - g.eN) by omega)⟩) hP hD hS hA (fun r14 u15 H locs hp9 hP hD hS => ?_)
    obtain ⟨y3, h9u⟩ : ∃ z9, z9 = u15 := ⟨_, rfl⟩
    subst h9u
    have hP : va_P D vwCl (VW dA h ad y3) H := hP
    have hD : va_D A (VW dA h ad y3) := hD
    obtain ⟨hp9, f_e_16⟩ := hp9
    replace hp9 : 0 = r14 := Eq.symm hp9
    subst hp9
    obtain ⟨hk_y3, qq_y3, tk_y3⟩ := qok_rfq hw.1 f_e_16
    exact rfZ hx hb hr (bI_nar false) hlk hS (⟨y3, g⟩) (by have E : pFc pO3 x.tape x.qlen x.tk = (false, rfT x.tk 3 x.tk.2.1, []) := (pFc_3 h1); exact ⟨by rw [E]; rfl, by rw [E]; exact pq_0 hw qq_y3 hk_y3 tk_y3 (show x.tk.2.1 ≤ _ from Nat.le_of_eq (rfT_e x.tk 3 x.tk.2.1).2.1.symm)⟩) hP hD (show 0 + 0 ≤ 8 * (rqP (pFc pO3 x.tape x.qlen x.tk).1 (pFc pO3 x.tape x.qlen x.tk).2.1 - x.qst) by omega) (show 0 + 0 ≤ 64 * (rqP (pFc pO3 x.tape x.qlen x.tk).1 (pFc pO3 x.tape x.qlen x.tk).2.1 - x.qst) + 4 * (cpR g.eN g.sz (pFc pO3 x.tape x.qlen x.tk).2.2.length - g.eN) by omega) d_Q_readFactor_110
  · refine lv_lookup (x := x.qk) (off := 107) (tgt := 111) hx hb d_Q_readFactor_4 (by decide) (ls4_no h1.1 h1.2.1 h1.2.2.1 h1.2.2.2) rfl ?_
    refine lv_aload_n hx hb d_Q_readFactor_111 rfl (lv_at hl 0 rfl) ?_
    refine lv_iconst (v := 2) hx hb d_Q_readFactor_112 (by decide) ?_
    refine lv_aload_n hx hb d_Q_readFactor_113 rfl (lv_at hl 0 rfl) ?_
    refine gF (v := .int (nI x.qst)) hx hb hown hE hK hP 36 rfl rfl layQ 3 (by decide) w662 rfl d_Q_readFactor_114 ?_
    refine jkI (wr := []) (rnV (As := [.int 2, .int (nI x.qst)]) (rest := []) hx hb hml hown hE hK (hN _ _ hS) hP hD (v_Qrefuse l D dA H.size h ad x 2 x.qst) (q0 := 36) rfl rfl w666 w664 w667 w668 w665 rfl rfl ⟨⟨by decide, by decide⟩, rfl⟩ ⟨(Nat.le_of_ble_eq_true rfl), (Nat.le_of_ble_eq_true rfl)⟩ rfl hl.1 rfl (Nat.le_of_ble_eq_true rfl) d_Q_readFactor_117 ⟨(show 0 + 0 ≤ 8 * (rqP (pFc pO3 x.tape x.qlen x.tk).1 (pFc pO3 x.tape x.qlen x.tk).2.1 - x.qst) by omega), (show 0 + 0 ≤ 64 * (rqP (pFc pO3 x.tape x.qlen x.tk).1 (pFc pO3 x.tape x.qlen x.tk).2.1 - x.qst) + 4 * (cpR g.eN g.sz (pFc pO3 x.tape x.qlen x.tk).2.2.length - g.eN) by omega)⟩) hP hD hS hA (fun r17 u18 H locs hp9 hP hD hS => ?_)
    obtain ⟨y4, h9u⟩ : ∃ z9, z9 = u18 := ⟨_, rfl⟩
    subst h9u
    have hP : va_P D vwCl (VW dA h ad y4) H := hP
    have hD : va_D A (VW dA h ad y4) := hD
    obtain ⟨hp9, f_e_19⟩ := hp9
    replace hp9 : 0 = r17 := Eq.symm hp9
    subst hp9
    obtain ⟨hk_y4, qq_y4, tk_y4⟩ := qok_rfq hw.1 f_e_19
    exact rfZ hx hb hr (bI_nar false) hlk hS (⟨y4, g⟩) (by have E : pFc pO3 x.tape x.qlen x.tk = (false, rfT x.tk 2 x.tk.2.1, []) := (pFc_4 h1); exact ⟨by rw [E]; rfl, by rw [E]; exact pq_0 hw qq_y4 hk_y4 tk_y4 (show x.tk.2.1 ≤ _ from Nat.le_of_eq (rfT_e x.tk 2 x.tk.2.1).2.1.symm)⟩) hP hD (show 0 + 0 ≤ 8 * (rqP (pFc pO3 x.tape x.qlen x.tk).1 (pFc pO3 x.tape x.qlen x.tk).2.1 - x.qst) by omega) (show 0 + 0 ≤ 64 * (rqP (pFc pO3 x.tape x.qlen x.tk).1 (pFc pO3 x.tape x.qlen x.tk).2.1 - x.qst) + 4 * (cpR g.eN g.sz (pFc pO3 x.tape x.qlen x.tk).2.2.length - g.eN) by omega) d_Q_readFactor_120
