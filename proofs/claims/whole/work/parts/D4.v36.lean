theorem d_T_joinRows_0 : decode prog_11_method_17_code 0 = .ok (.iconst 0, 1) := by decide +kernel
theorem d_T_joinRows_1 : decode prog_11_method_17_code 1 = .ok (.istore_n 3, 1) := by decide +kernel
theorem d_T_joinRows_2 : decode prog_11_method_17_code 2 = .ok (.iconst 0, 1) := by decide +kernel
theorem d_T_joinRows_3 : decode prog_11_method_17_code 3 = .ok (.istore 4, 2) := by decide +kernel
theorem d_T_joinRows_5 : decode prog_11_method_17_code 5 = .ok (.iconst 0, 1) := by decide +kernel
theorem d_T_joinRows_6 : decode prog_11_method_17_code 6 = .ok (.istore 5, 2) := by decide +kernel
theorem d_T_joinRows_8 : decode prog_11_method_17_code 8 = .ok (.iload 5, 2) := by decide +kernel
theorem d_T_joinRows_10 : decode prog_11_method_17_code 10 = .ok (.aload_n 0, 1) := by decide +kernel
theorem d_T_joinRows_11 : decode prog_11_method_17_code 11 = .ok (.getfield 37, 3) := by decide +kernel
theorem d_T_joinRows_14 : decode prog_11_method_17_code 14 = .ok (.if_icmp .ge 96, 3) := by decide +kernel
theorem d_T_joinRows_110 : decode prog_11_method_17_code 110 = .ok (.aload_n 0, 1) := by decide +kernel
theorem d_T_joinRows_111 : decode prog_11_method_17_code 111 = .ok (.iload_n 3, 1) := by decide +kernel
theorem d_T_joinRows_112 : decode prog_11_method_17_code 112 = .ok (.putfield 37, 3) := by decide +kernel
theorem d_T_joinRows_115 : decode prog_11_method_17_code 115 = .ok (.aload_n 0, 1) := by decide +kernel
theorem d_T_joinRows_116 : decode prog_11_method_17_code 116 = .ok (.invokevirtual 97, 3) := by decide +kernel
theorem d_T_joinRows_119 : decode prog_11_method_17_code 119 = .ok (.return_, 1) := by decide +kernel
theorem d_T_joinRows_17 : decode prog_11_method_17_code 17 = .ok (.iload 4, 2) := by decide +kernel
theorem d_T_joinRows_19 : decode prog_11_method_17_code 19 = .ok (.aload_n 2, 1) := by decide +kernel
theorem d_T_joinRows_20 : decode prog_11_method_17_code 20 = .ok (.getfield 37, 3) := by decide +kernel
theorem d_T_joinRows_23 : decode prog_11_method_17_code 23 = .ok (.if_icmp .ge 30, 3) := by decide +kernel
theorem d_T_joinRows_53 : decode prog_11_method_17_code 53 = .ok (.iload 4, 2) := by decide +kernel
theorem d_T_joinRows_55 : decode prog_11_method_17_code 55 = .ok (.aload_n 2, 1) := by decide +kernel
theorem d_T_joinRows_56 : decode prog_11_method_17_code 56 = .ok (.getfield 37, 3) := by decide +kernel
theorem d_T_joinRows_59 : decode prog_11_method_17_code 59 = .ok (.if_icmp .ge 45, 3) := by decide +kernel
theorem d_T_joinRows_104 : decode prog_11_method_17_code 104 = .ok (.iinc 5 1, 3) := by decide +kernel
theorem d_T_joinRows_107 : decode prog_11_method_17_code 107 = .ok (.goto (-99), 3) := by decide +kernel
theorem d_T_joinRows_26 : decode prog_11_method_17_code 26 = .ok (.aload_n 0, 1) := by decide +kernel
theorem d_T_joinRows_27 : decode prog_11_method_17_code 27 = .ok (.aload_n 2, 1) := by decide +kernel
theorem d_T_joinRows_28 : decode prog_11_method_17_code 28 = .ok (.getfield 19, 3) := by decide +kernel
theorem d_T_joinRows_31 : decode prog_11_method_17_code 31 = .ok (.iload 4, 2) := by decide +kernel
theorem d_T_joinRows_33 : decode prog_11_method_17_code 33 = .ok (.aaload, 1) := by decide +kernel
theorem d_T_joinRows_34 : decode prog_11_method_17_code 34 = .ok (.aload_n 0, 1) := by decide +kernel
theorem d_T_joinRows_35 : decode prog_11_method_17_code 35 = .ok (.getfield 19, 3) := by decide +kernel
theorem d_T_joinRows_38 : decode prog_11_method_17_code 38 = .ok (.iload 5, 2) := by decide +kernel
theorem d_T_joinRows_40 : decode prog_11_method_17_code 40 = .ok (.aaload, 1) := by decide +kernel
theorem d_T_joinRows_41 : decode prog_11_method_17_code 41 = .ok (.invokevirtual 51, 3) := by decide +kernel
theorem d_T_joinRows_44 : decode prog_11_method_17_code 44 = .ok (.ifCond .ge 9, 3) := by decide +kernel
theorem d_T_joinRows_62 : decode prog_11_method_17_code 62 = .ok (.aload_n 0, 1) := by decide +kernel
theorem d_T_joinRows_63 : decode prog_11_method_17_code 63 = .ok (.aload_n 2, 1) := by decide +kernel
theorem d_T_joinRows_64 : decode prog_11_method_17_code 64 = .ok (.getfield 19, 3) := by decide +kernel
theorem d_T_joinRows_67 : decode prog_11_method_17_code 67 = .ok (.iload 4, 2) := by decide +kernel
theorem d_T_joinRows_69 : decode prog_11_method_17_code 69 = .ok (.aaload, 1) := by decide +kernel
theorem d_T_joinRows_70 : decode prog_11_method_17_code 70 = .ok (.aload_n 0, 1) := by decide +kernel
theorem d_T_joinRows_71 : decode prog_11_method_17_code 71 = .ok (.getfield 19, 3) := by decide +kernel
theorem d_T_joinRows_74 : decode prog_11_method_17_code 74 = .ok (.iload 5, 2) := by decide +kernel
theorem d_T_joinRows_76 : decode prog_11_method_17_code 76 = .ok (.aaload, 1) := by decide +kernel
theorem d_T_joinRows_77 : decode prog_11_method_17_code 77 = .ok (.invokevirtual 51, 3) := by decide +kernel
theorem d_T_joinRows_80 : decode prog_11_method_17_code 80 = .ok (.ifCond .ne 24, 3) := by decide +kernel
theorem d_T_joinRows_83 : decode prog_11_method_17_code 83 = .ok (.aload_n 0, 1) := by decide +kernel
theorem d_T_joinRows_84 : decode prog_11_method_17_code 84 = .ok (.iload 5, 2) := by decide +kernel
theorem d_T_joinRows_86 : decode prog_11_method_17_code 86 = .ok (.iload_n 3, 1) := by decide +kernel
theorem d_T_joinRows_87 : decode prog_11_method_17_code 87 = .ok (.invokevirtual 79, 3) := by decide +kernel
theorem d_T_joinRows_90 : decode prog_11_method_17_code 90 = .ok (.aload_n 0, 1) := by decide +kernel
theorem d_T_joinRows_91 : decode prog_11_method_17_code 91 = .ok (.iload_n 1, 1) := by decide +kernel
theorem d_T_joinRows_92 : decode prog_11_method_17_code 92 = .ok (.aload_n 0, 1) := by decide +kernel
theorem d_T_joinRows_93 : decode prog_11_method_17_code 93 = .ok (.iload_n 3, 1) := by decide +kernel
theorem d_T_joinRows_94 : decode prog_11_method_17_code 94 = .ok (.aload_n 2, 1) := by decide +kernel
theorem d_T_joinRows_95 : decode prog_11_method_17_code 95 = .ok (.iload 4, 2) := by decide +kernel
theorem d_T_joinRows_97 : decode prog_11_method_17_code 97 = .ok (.iload_n 3, 1) := by decide +kernel
theorem d_T_joinRows_98 : decode prog_11_method_17_code 98 = .ok (.invokevirtual 93, 3) := by decide +kernel
theorem d_T_joinRows_101 : decode prog_11_method_17_code 101 = .ok (.iinc 3 1, 3) := by decide +kernel
theorem d_T_joinRows_47 : decode prog_11_method_17_code 47 = .ok (.iinc 4 1, 3) := by decide +kernel
theorem d_T_joinRows_50 : decode prog_11_method_17_code 50 = .ok (.goto (-33), 3) := by decide +kernel
set_option maxHeartbeats 4000000 in
set_option maxRecDepth 100000 in
theorem v_TjoinRows (l : Launch) (D : va_G) (dA : Nat → ClassId) (sz : Nat) (ws : va_W) (ta : Nat → Nat) (t : TB) (tb : Nat → Nat) (u : TB) (sg : Int32) (NL : Nat → List Int32) (RS : Nat → List LB) (RU : Nat → List LB) (hop : isOp sg) (hcN : t.cN ≤ 65536) (hcM : u.cN ≤ 65536) (h1 : t.rc * t.wi ≤ t.cN) (h2 : t.rc ≤ 256) (hw : u.wi = t.wi) (h3 : u.rc * u.wi ≤ u.cN) (h4 : u.rc ≤ 256) (hnm : nmOk dA ws t.nm t.nc NL) (hnc : t.nc ≤ 6) (hra : rsAll dA ws t.rs) (hrs : rsOk dA ws t.rs t.rc RS) (hru : rsOk dA ws u.rs u.rc RU) : Met l ⟨"SeriesVault$Table", "joinRows", "(ILSeriesVault$Table;)V"⟩ [Cond.code ⟨"SeriesVault$Table", "joinRows", "(ILSeriesVault$Table;)V"⟩ prog_11_method_17_code 6 none] { frames := 4, cells := 0, slots := 0, locals := 84 } (pC D dA [.ref (ta 0), .int sg, .ref (tb 0)] (TbW dA ta t ++ (TbW dA tb u ++ (ws))) sz) (va_Qv (fun (u9 : TB) => u9 = TB.jm sg NL t u RS RU) (fun (u9 : TB) t9 => bW D (va_A (TbW dA ta t ++ (TbW dA tb u ++ (ws))) sz) (TbW dA ta u9 ++ (TbW dA tb u ++ (ws))) t9) (va_A (TbW dA ta t ++ (TbW dA tb u ++ (ws))) sz)) 0 0 (va_A (TbW dA ta t ++ (TbW dA tb u ++ (ws))) sz) := by
  refine mkC (y := ⟨"SeriesVault$Table", "joinRows", "(ILSeriesVault$Table;)V"⟩) (cc := prog_11_method_17_code) (maxL := 6) (av := [.ref (ta 0), .int sg, .ref (tb 0)]) (ws := TbW dA ta t ++ (TbW dA tb u ++ (ws))) (sz := sz) (Qc := fun A => va_Qv (fun (u9 : TB) => u9 = TB.jm sg NL t u RS RU) (fun (u9 : TB) t9 => bW D A (TbW dA ta u9 ++ (TbW dA tb u ++ (ws))) t9) A) (by decide) (Nat.le_of_ble_eq_true rfl) ?_
  intro A p e s m below meth c ls hsz hB
  obtain ⟨hx, hb, hr, hml, hown, hin, hlk, hE, hK, hP, hD, hS, hA, hN, hl⟩ := hB
  have hown : s.vm.findClass "SeriesVault$Table" = some m.cls := hown
  have hl : lv_has ls 6 [(0, .ref (ta 0)), (1, .int sg), (2, .ref (tb 0))] := hl
  obtain ⟨H, hH⟩ : ∃ z, z = s.heap := ⟨_, rfl⟩
  have hP : va_P D vwCl (TbW dA ta t ++ (TbW dA tb u ++ (ws))) H := by rw [hH]; exact hP
  have hS : va_S A s.heap H [] := by rw [hH]; exact hS
  rw [← hH]
  refine lv_iconst (v := 0) hx hb d_T_joinRows_0 (by decide) ?_
  refine lv_istore_n hx hb d_T_joinRows_1 rfl hl (by decide) rfl (fun ls hl => ?_)
  have hl : lv_has ls 6 [(3, .int 0), (0, .ref (ta 0)), (1, .int sg), (2, .ref (tb 0))] := hl
  refine lv_iconst (v := 0) hx hb d_T_joinRows_2 (by decide) ?_
  refine lv_istore hx hb d_T_joinRows_3 hl (by decide) rfl (fun ls hl => ?_)
  have hl : lv_has ls 6 [(4, .int 0), (3, .int 0), (0, .ref (ta 0)), (1, .int sg), (2, .ref (tb 0))] := hl
  refine lv_iconst (v := 0) hx hb d_T_joinRows_5 (by decide) ?_
  refine lv_istore hx hb d_T_joinRows_6 hl (by decide) rfl (fun ls hl => ?_)
  have hl : lv_has ls 6 [(5, .int 0), (4, .int 0), (3, .int 0), (0, .ref (ta 0)), (1, .int sg), (2, .ref (tb 0))] := hl
  have L8 : ∀ (k9 : Nat) (n : Nat) (o0 : Nat) (i : Nat) (z : TB) (i1 : i ≤ t.rc) (ez : jmG sg NL t u RS RU i = (n, o0, z)) (ik : jmK t i n z) (ia : rsAll dA ws z.rs) (io : o0 ≤ u.rc) (hk9 : t.rc - i = k9), ∀ (H : Heap) (locs : List Loc) (ls : Array Slot) (hP : va_P D vwCl (TbW dA ta z ++ (TbW dA tb u ++ (ws))) H) (hD : va_D A (TbW dA ta z ++ (TbW dA tb u ++ (ws)))) (hS : va_S A s.heap H locs) (hl : lv_has ls 6 [(0, .ref (ta 0)), (1, .int sg), (2, .ref (tb 0)), (3, .int (nI n)), (4, .int (nI o0)), (5, .int (nI i))]), W p l e ({ frames := 4, cells := 0, slots := 0, locals := 84 } : Room) s m ([.ref (ta 0), .int sg, .ref (tb 0)] : List Value).toArray below meth c H locs 0 0 (MQ below (va_Qv (fun (u9 : TB) => u9 = TB.jm sg NL t u RS RU) (fun (u9 : TB) t9 => bW D A (TbW dA ta u9 ++ (TbW dA tb u ++ (ws))) t9) A) ([.ref (ta 0), .int sg, .ref (tb 0)] : List Value).toArray s 0 0 A) (F0 m 8 ls []) := by
    intro k9
    induction k9 using Nat.strongRecOn with
    | ind k9 ih8 =>
      intro n o0 i z i1 ez ik ia io hk9 H locs ls hP hD hS hl
      have ikc := ik
      obtain ⟨k1, k2, k3, k4, k5, k6, k7, k8⟩ := ikc
      have k2 : z.rc = t.rc := k2
      have k3 : z.cN = t.cN := k3
      refine lv_iload hx hb d_T_joinRows_8 (lv_at hl 5 rfl) ?_
      refine lv_aload_n hx hb d_T_joinRows_10 rfl (lv_at hl 0 rfl) ?_
      refine gF (v := .int (nI z.rc)) hx hb hown hE hK hP 0 rfl rfl layT 3 (by decide) w1368 rfl d_T_joinRows_11 ?_
      refine lv_icmp_ge hx hb d_T_joinRows_14 (tgt := 110) rfl (fun g1 => ?_) (fun g1 => ?_)
      · have g1 := (nI_leI (a := z.rc) (b := i) (by omega) (by omega)).mp g1
        refine lv_aload_n hx hb d_T_joinRows_110 rfl (lv_at hl 0 rfl) ?_
        refine lv_iload_n hx hb d_T_joinRows_111 rfl (lv_at hl 3 rfl) ?_
        refine pF (v := .int (nI n)) hx hb hown hE hK hP hD hS 0 rfl rfl layT tyT tokT nmT 3 (by decide) w1368 rfl rfl rfl (Nat.le_of_ble_eq_true rfl) d_T_joinRows_112 (fun H locs hP hD hS => ?_)
        have hP : va_P D vwCl (TbW dA ta (TB.s_rc z n) ++ (TbW dA tb u ++ (ws))) H := hP
        have hD : va_D A (TbW dA ta (TB.s_rc z n) ++ (TbW dA tb u ++ (ws))) := hD
        refine lv_aload_n hx hb d_T_joinRows_115 rfl (lv_at hl 0 rfl) ?_
        refine jkV (wr := []) (rnV (As := []) (rest := []) hx hb hml hown hE hK (hN _ _ hS) hP hD (v_TdropEmptyRows l D dA H.size (TbW dA tb u ++ (ws)) ta (TB.s_rc z n) (show z.cN ≤ 65536 by omega) (rsAll_m (fun _ hm => (List.mem_append_right _ hm)) ia) (by show n * z.wi ≤ z.cN; rw [k1, k3]; exact Nat.le_trans (Nat.mul_le_mul_right _ (show n ≤ t.rc by omega)) h1) (show n ≤ 256 by omega)) (q0 := 0) rfl rfl w1437 w1436 w1438 w1439 w807 rfl rfl ⟨⟨by decide, by decide⟩, rfl⟩ ⟨(Nat.le_of_ble_eq_true rfl), (Nat.le_of_ble_eq_true rfl)⟩ rfl hl.1 rfl (Nat.le_of_ble_eq_true rfl) d_T_joinRows_116 ⟨(Nat.le_of_ble_eq_true rfl), (Nat.le_of_ble_eq_true rfl)⟩) hP hD hS hA (fun u3 H locs hp9 hP hD hS => ?_)
        obtain ⟨y4, h9u⟩ : ∃ z9, z9 = u3 := ⟨_, rfl⟩
        subst h9u
        have hP : va_P D vwCl (TbW dA ta y4 ++ (TbW dA tb u ++ (ws))) H := hP
        have hD : va_D A (TbW dA ta y4 ++ (TbW dA tb u ++ (ws))) := hD
        have f_e_5 := hp9
        exact rfV hx hb hr hlk hS y4 (by rw [f_e_5]; unfold TB.jm; rw [← show i = t.rc by omega, ez]) hP hD (Nat.le_of_ble_eq_true rfl) (Nat.le_of_ble_eq_true rfl) d_T_joinRows_119
      · have g1 := mt (nI_leI (a := z.rc) (b := i) (by omega) (by omega)).mpr g1
        have L17 : ∀ (k9 : Nat) (o : Nat) (i2 : o ≤ u.rc) (i3 : jmO (ltT NL t.nc RU (RS i)) u.rc (u.rc - o) o = jmQ NL t.nc u RU (RS i) o0) (hk9 : u.rc - o = k9), ∀ (H : Heap) (locs : List Loc) (ls : Array Slot) (hP : va_P D vwCl (TbW dA ta z ++ (TbW dA tb u ++ (ws))) H) (hD : va_D A (TbW dA ta z ++ (TbW dA tb u ++ (ws)))) (hS : va_S A s.heap H locs) (hl : lv_has ls 6 [(0, .ref (ta 0)), (1, .int sg), (2, .ref (tb 0)), (3, .int (nI n)), (5, .int (nI i)), (4, .int (nI o))]), W p l e ({ frames := 4, cells := 0, slots := 0, locals := 84 } : Room) s m ([.ref (ta 0), .int sg, .ref (tb 0)] : List Value).toArray below meth c H locs 0 0 (MQ below (va_Qv (fun (u9 : TB) => u9 = TB.jm sg NL t u RS RU) (fun (u9 : TB) t9 => bW D A (TbW dA ta u9 ++ (TbW dA tb u ++ (ws))) t9) A) ([.ref (ta 0), .int sg, .ref (tb 0)] : List Value).toArray s 0 0 A) (F0 m 17 ls []) := by
          intro k9
          induction k9 using Nat.strongRecOn with
          | ind k9 ih17 =>
            intro o i2 i3 hk9 H locs ls hP hD hS hl
            refine lv_iload hx hb d_T_joinRows_17 (lv_at hl 5 rfl) ?_
            refine lv_aload_n hx hb d_T_joinRows_19 rfl (lv_at hl 2 rfl) ?_
            refine gF (v := .int (nI u.rc)) hx hb hown hE hK hP 5 rfl rfl layT 3 (by decide) w1368 rfl d_T_joinRows_20 ?_
            refine lv_icmp_ge hx hb d_T_joinRows_23 (tgt := 53) rfl (fun g6 => ?_) (fun g6 => ?_)
            · have g6 := (nI_leI (a := u.rc) (b := o) (by omega) (by omega)).mp g6
              have eo : jmQ NL t.nc u RU (RS i) o0 = o := by rw [← i3]; exact jmO_z g6
              refine lv_iload hx hb d_T_joinRows_53 (lv_at hl 5 rfl) ?_
              refine lv_aload_n hx hb d_T_joinRows_55 rfl (lv_at hl 2 rfl) ?_
              refine gF (v := .int (nI u.rc)) hx hb hown hE hK hP 5 rfl rfl layT 3 (by decide) w1368 rfl d_T_joinRows_56 ?_
              refine lv_icmp_ge hx hb d_T_joinRows_59 (tgt := 104) rfl (fun _ => ?_) (fun h9 => absurd ((nI_leI (a := u.rc) (b := o) (by omega) (by omega)).mpr g6) h9)
              refine lv_iinc (k := 4) (v := nI (i + 1)) hx hb d_T_joinRows_104 hl rfl (iincN (i) 1 1 (by decide)) (by decide) rfl (fun ls hl => ?_)
              have hl : lv_has ls 6 [(5, .int (nI (i + 1))), (0, .ref (ta 0)), (1, .int sg), (2, .ref (tb 0)), (3, .int (nI n)), (4, .int (nI o))] := hl
              refine lv_goto hx hb d_T_joinRows_107 (tgt := 8) rfl ?_
              exact ih8 _ (by omega) n o (i + 1) z (by omega) (by show jmS _ _ _ _ _ _ _ _ _ _ = _; rw [ez]; exact jmS_n1 eo g6) (jmK_n ik) ia (by omega) rfl H _ ls hP hD hS (lv_sub hl [1, 2, 3, 4, 5, 0] rfl)
            · have g6 := mt (nI_leI (a := u.rc) (b := o) (by omega) (by omega)).mpr g6
              refine lv_aload_n hx hb d_T_joinRows_26 rfl (lv_at hl 0 rfl) ?_
              refine lv_aload_n hx hb d_T_joinRows_27 rfl (lv_at hl 2 rfl) ?_
              obtain ⟨a1, er1, hs1, ho1⟩ := hrs i (by omega)
              obtain ⟨a2, er2, hs2, ho2⟩ := hru o (by omega)
              have er1 : z.rs i = some a1 := (k8 i (Nat.le_refl _)).trans er1
              refine gF (v := .ref (tb 2)) hx hb hown hE hK hP 5 rfl rfl layT 4 (by decide) w787 rfl d_T_joinRows_28 ?_
              refine lv_iload hx hb d_T_joinRows_31 (lv_at hl 5 rfl) ?_
              refine nqld (f := u.rs) (n := 256) hx hb hK hP (7) 5 rfl rfl (o) (by omega) (by decide) er2 d_T_joinRows_33 ?_
              refine lv_aload_n hx hb d_T_joinRows_34 rfl (lv_at hl 0 rfl) ?_
              refine gF (v := .ref (ta 2)) hx hb hown hE hK hP 0 rfl rfl layT 4 (by decide) w787 rfl d_T_joinRows_35 ?_
              refine lv_iload hx hb d_T_joinRows_38 (lv_at hl 4 rfl) ?_
              refine nqld (f := z.rs) (n := 256) hx hb hK hP (2) 5 rfl rfl (i) (by omega) (by decide) er1 d_T_joinRows_40 ?_
              refine jkI (wr := []) (rnV (As := [.ref a2, .ref a1]) (rest := []) hx hb hml hown hE hK (hN _ _ hS) hP hD (v_TcompareTexts l D dA H.size (TbW dA tb u ++ (ws)) ta z NL a2 (RU o) a1 (RS i) (by rw [k5, k6]; exact nmOk_m (fun _ hm => (List.mem_append_right _ hm)) hnm) (by rw [k6]; exact hnc) (isSer_m (fun _ hm => (List.mem_append_right _ hm)) hs2) ho2 (isSer_m (fun _ hm => (List.mem_append_right _ hm)) hs1) ho1) (q0 := 0) rfl rfl w1421 w1420 w1422 w1423 w807 rfl rfl ⟨⟨by decide, by decide⟩, rfl⟩ ⟨(Nat.le_of_ble_eq_true rfl), (Nat.le_of_ble_eq_true rfl)⟩ rfl hl.1 rfl (Nat.le_of_ble_eq_true rfl) d_T_joinRows_41 ⟨(Nat.le_of_ble_eq_true rfl), (Nat.le_of_ble_eq_true rfl)⟩) hP hD hS hA (fun r7 u8 H locs hp9 hP hD hS => ?_)
              have hP : va_P D vwCl (TbW dA ta z ++ (TbW dA tb u ++ (ws))) H := hP
              have hD : va_D A (TbW dA ta z ++ (TbW dA tb u ++ (ws))) := hD
              replace hp9 : cmT NL z.nc (RU o) (RS i) = r7 := Eq.symm hp9
              subst hp9
              refine tpi (y := cmT NL t.nc (RU o) (RS i)) (by rw [k6]) ?_
              refine lv_if_ge hx hb d_T_joinRows_44 (tgt := 53) rfl (fun g9 => ?_) (fun g9 => ?_)
              · have g9 := g9
                have eo : jmQ NL t.nc u RU (RS i) o0 = o := by rw [← i3]; exact jmO_n (show ltT NL t.nc RU (RS i) o = false by unfold ltT; rw [decide_eq_true (show 0 ≤ cmT NL t.nc (RU o) (RS i) from g9)]; rfl)
                refine lv_iload hx hb d_T_joinRows_53 (lv_at hl 5 rfl) ?_
                refine lv_aload_n hx hb d_T_joinRows_55 rfl (lv_at hl 2 rfl) ?_
                refine gF (v := .int (nI u.rc)) hx hb hown hE hK hP 5 rfl rfl layT 3 (by decide) w1368 rfl d_T_joinRows_56 ?_
                refine lv_icmp_ge hx hb d_T_joinRows_59 (tgt := 104) rfl (fun h9 => absurd h9 (mt (nI_leI (a := u.rc) (b := o) (by omega) (by omega)).mp g6)) (fun _ => ?_)
                refine lv_aload_n hx hb d_T_joinRows_62 rfl (lv_at hl 0 rfl) ?_
                refine lv_aload_n hx hb d_T_joinRows_63 rfl (lv_at hl 2 rfl) ?_
                obtain ⟨a1, er1, hs1, ho1⟩ := hrs i (by omega)
                obtain ⟨a2, er2, hs2, ho2⟩ := hru o (by omega)
                have er1 : z.rs i = some a1 := (k8 i (Nat.le_refl _)).trans er1
                refine gF (v := .ref (tb 2)) hx hb hown hE hK hP 5 rfl rfl layT 4 (by decide) w787 rfl d_T_joinRows_64 ?_
                refine lv_iload hx hb d_T_joinRows_67 (lv_at hl 5 rfl) ?_
                refine nqld (f := u.rs) (n := 256) hx hb hK hP (7) 5 rfl rfl (o) (by omega) (by decide) er2 d_T_joinRows_69 ?_
                refine lv_aload_n hx hb d_T_joinRows_70 rfl (lv_at hl 0 rfl) ?_
                refine gF (v := .ref (ta 2)) hx hb hown hE hK hP 0 rfl rfl layT 4 (by decide) w787 rfl d_T_joinRows_71 ?_
                refine lv_iload hx hb d_T_joinRows_74 (lv_at hl 4 rfl) ?_
                refine nqld (f := z.rs) (n := 256) hx hb hK hP (2) 5 rfl rfl (i) (by omega) (by decide) er1 d_T_joinRows_76 ?_
                refine jkI (wr := []) (rnV (As := [.ref a2, .ref a1]) (rest := []) hx hb hml hown hE hK (hN _ _ hS) hP hD (v_TcompareTexts l D dA H.size (TbW dA tb u ++ (ws)) ta z NL a2 (RU o) a1 (RS i) (by rw [k5, k6]; exact nmOk_m (fun _ hm => (List.mem_append_right _ hm)) hnm) (by rw [k6]; exact hnc) (isSer_m (fun _ hm => (List.mem_append_right _ hm)) hs2) ho2 (isSer_m (fun _ hm => (List.mem_append_right _ hm)) hs1) ho1) (q0 := 0) rfl rfl w1421 w1420 w1422 w1423 w807 rfl rfl ⟨⟨by decide, by decide⟩, rfl⟩ ⟨(Nat.le_of_ble_eq_true rfl), (Nat.le_of_ble_eq_true rfl)⟩ rfl hl.1 rfl (Nat.le_of_ble_eq_true rfl) d_T_joinRows_77 ⟨(Nat.le_of_ble_eq_true rfl), (Nat.le_of_ble_eq_true rfl)⟩) hP hD hS hA (fun r10 u11 H locs hp9 hP hD hS => ?_)
                have hP : va_P D vwCl (TbW dA ta z ++ (TbW dA tb u ++ (ws))) H := hP
                have hD : va_D A (TbW dA ta z ++ (TbW dA tb u ++ (ws))) := hD
                replace hp9 : cmT NL z.nc (RU o) (RS i) = r10 := Eq.symm hp9
                subst hp9
                refine tpi (y := cmT NL t.nc (RU o) (RS i)) (by rw [k6]) ?_
                refine lv_if_ne hx hb d_T_joinRows_80 (tgt := 104) rfl (fun g12 => ?_) (fun g12 => ?_)
                · have g12 := g12
                  refine lv_iinc (k := 4) (v := nI (i + 1)) hx hb d_T_joinRows_104 hl rfl (iincN (i) 1 1 (by decide)) (by decide) rfl (fun ls hl => ?_)
                  have hl : lv_has ls 6 [(5, .int (nI (i + 1))), (0, .ref (ta 0)), (1, .int sg), (2, .ref (tb 0)), (3, .int (nI n)), (4, .int (nI o))] := hl
                  refine lv_goto hx hb d_T_joinRows_107 (tgt := 8) rfl ?_
                  exact ih8 _ (by omega) n o (i + 1) z (by omega) (by show jmS _ _ _ _ _ _ _ _ _ _ = _; rw [ez]; exact jmS_n2 eo g12) (jmK_n ik) ia (by omega) rfl H _ ls hP hD hS (lv_sub hl [1, 2, 3, 4, 5, 0] rfl)
                · have g12 := g12
                  refine lv_aload_n hx hb d_T_joinRows_83 rfl (lv_at hl 0 rfl) ?_
                  refine lv_iload hx hb d_T_joinRows_84 (lv_at hl 4 rfl) ?_
                  refine lv_iload_n hx hb d_T_joinRows_86 rfl (lv_at hl 3 rfl) ?_
                  refine jkV (wr := []) (rnV (As := [.int (nI i), .int (nI n)]) (rest := []) hx hb hml hown hE hK (hN _ _ hS) hP hD (v_TmoveRow l D dA H.size (TbW dA tb u ++ (ws)) ta z i n (show z.cN ≤ 65536 by omega) (rsAll_m (fun _ hm => (List.mem_append_right _ hm)) ia) (show i < 256 from by omega) (show n < 256 from by omega) (by rw [k1, k3]; exact mul_le_of (show i < t.rc by omega) h1) (by rw [k1, k3]; exact mul_le_of (show n < t.rc by omega) h1)) (q0 := 0) rfl rfl w1409 w1408 w1410 w1411 w807 rfl rfl ⟨⟨by decide, by decide⟩, rfl⟩ ⟨(Nat.le_of_ble_eq_true rfl), (Nat.le_of_ble_eq_true rfl)⟩ rfl hl.1 rfl (Nat.le_of_ble_eq_true rfl) d_T_joinRows_87 ⟨(Nat.le_of_ble_eq_true rfl), (Nat.le_of_ble_eq_true rfl)⟩) hP hD hS hA (fun u14 H locs hp9 hP hD hS => ?_)
                  have hP : va_P D vwCl (TbW dA ta (TB.s_ce (TB.s_th (TB.s_rs z (va_up z.rs n (z.rs i))) (va_up z.th n (z.th i))) (va_cpy z.ce z.ce (i * z.wi) (n * z.wi) z.wi)) ++ (TbW dA tb u ++ (ws))) H := hP
                  have hD : va_D A (TbW dA ta (TB.s_ce (TB.s_th (TB.s_rs z (va_up z.rs n (z.rs i))) (va_up z.th n (z.th i))) (va_cpy z.ce z.ce (i * z.wi) (n * z.wi) z.wi)) ++ (TbW dA tb u ++ (ws))) := hD
                  refine lv_aload_n hx hb d_T_joinRows_90 rfl (lv_at hl 0 rfl) ?_
                  refine lv_iload_n hx hb d_T_joinRows_91 rfl (lv_at hl 1 rfl) ?_
                  refine lv_aload_n hx hb d_T_joinRows_92 rfl (lv_at hl 0 rfl) ?_
                  refine lv_iload_n hx hb d_T_joinRows_93 rfl (lv_at hl 3 rfl) ?_
                  refine lv_aload_n hx hb d_T_joinRows_94 rfl (lv_at hl 2 rfl) ?_
                  refine lv_iload hx hb d_T_joinRows_95 (lv_at hl 5 rfl) ?_
                  refine lv_iload_n hx hb d_T_joinRows_97 rfl (lv_at hl 3 rfl) ?_
                  refine jkV (wr := []) (rnV (As := [.int sg, .ref (ta 0), .int (nI n), .ref (tb 0), .int (nI o), .int (nI n)]) (rest := []) hx hb hml hown hE hK (hN _ _ hS) hP hD (v_TjoinRow_l l D dA H.size ws ta (TB.s_ce (TB.s_th (TB.s_rs z (va_up z.rs n (z.rs i))) (va_up z.th n (z.th i))) (va_cpy z.ce z.ce (i * z.wi) (n * z.wi) z.wi)) tb u sg n o n hop (show z.cN ≤ 65536 by omega) hcM (show n < 256 from by omega) (show o < 256 from by omega) (show n < 256 from by omega) (by rw [k1, k3]; exact mul_le_of (show n < t.rc by omega) h1) (by rw [k1, k3]; exact mul_le_of (show n < t.rc by omega) h1) (by rw [k1, ← hw]; exact mul_le_of (show o < u.rc by omega) h3) (Nat.le_refl _)) (q0 := 0) rfl rfl w1441 w1440 w1442 w1443 w807 rfl rfl ⟨⟨by decide, by decide⟩, rfl⟩ ⟨(Nat.le_of_ble_eq_true rfl), (Nat.le_of_ble_eq_true rfl)⟩ rfl hl.1 rfl (Nat.le_of_ble_eq_true rfl) d_T_joinRows_98 ⟨(Nat.le_of_ble_eq_true rfl), (Nat.le_of_ble_eq_true rfl)⟩) hP hD hS hA (fun u16 H locs hp9 hP hD hS => ?_)
                  have hP : va_P D vwCl (TbW dA ta (TB.s_ce (TB.s_th (TB.s_rs z (va_up z.rs n (z.rs i))) (va_up (va_up z.th n (z.th i)) n (jrW sg (((va_up z.th n (z.th i)) n) &&& (u.th o)) (fun w => (va_cpy z.ce z.ce (i * z.wi) (n * z.wi) z.wi) (n * z.wi + w)) (fun w => u.ce (o * u.wi + w)) (va_cpy z.ce z.ce (i * z.wi) (n * z.wi) z.wi) (n * z.wi) z.wi).1)) ((jrW sg (((va_up z.th n (z.th i)) n) &&& (u.th o)) (fun w => (va_cpy z.ce z.ce (i * z.wi) (n * z.wi) z.wi) (n * z.wi + w)) (fun w => u.ce (o * u.wi + w)) (va_cpy z.ce z.ce (i * z.wi) (n * z.wi) z.wi) (n * z.wi) z.wi).2)) ++ (TbW dA tb u ++ (ws))) H := hP
                  have hD : va_D A (TbW dA ta (TB.s_ce (TB.s_th (TB.s_rs z (va_up z.rs n (z.rs i))) (va_up (va_up z.th n (z.th i)) n (jrW sg (((va_up z.th n (z.th i)) n) &&& (u.th o)) (fun w => (va_cpy z.ce z.ce (i * z.wi) (n * z.wi) z.wi) (n * z.wi + w)) (fun w => u.ce (o * u.wi + w)) (va_cpy z.ce z.ce (i * z.wi) (n * z.wi) z.wi) (n * z.wi) z.wi).1)) ((jrW sg (((va_up z.th n (z.th i)) n) &&& (u.th o)) (fun w => (va_cpy z.ce z.ce (i * z.wi) (n * z.wi) z.wi) (n * z.wi + w)) (fun w => u.ce (o * u.wi + w)) (va_cpy z.ce z.ce (i * z.wi) (n * z.wi) z.wi) (n * z.wi) z.wi).2)) ++ (TbW dA tb u ++ (ws))) := hD
                  refine lv_iinc (k := 3) (v := nI (n + 1)) hx hb d_T_joinRows_101 hl rfl (iincN (n) 1 1 (by decide)) (by decide) rfl (fun ls hl => ?_)
                  have hl : lv_has ls 6 [(3, .int (nI (n + 1))), (0, .ref (ta 0)), (1, .int sg), (2, .ref (tb 0)), (5, .int (nI i)), (4, .int (nI o))] := hl
                  refine lv_iinc (k := 4) (v := nI (i + 1)) hx hb d_T_joinRows_104 hl rfl (iincN (i) 1 1 (by decide)) (by decide) rfl (fun ls hl => ?_)
                  have hl : lv_has ls 6 [(5, .int (nI (i + 1))), (3, .int (nI (n + 1))), (0, .ref (ta 0)), (1, .int sg), (2, .ref (tb 0)), (4, .int (nI o))] := hl
                  refine lv_goto hx hb d_T_joinRows_107 (tgt := 8) rfl ?_
                  exact ih8 _ (by omega) (n + 1) o (i + 1) (TB.s_ce (TB.s_th (TB.s_rs z (va_up z.rs n (z.rs i))) (va_up (va_up z.th n (z.th i)) n (jrW sg (((va_up z.th n (z.th i)) n) &&& (u.th o)) (fun w => (va_cpy z.ce z.ce (i * z.wi) (n * z.wi) z.wi) (n * z.wi + w)) (fun w => u.ce (o * u.wi + w)) (va_cpy z.ce z.ce (i * z.wi) (n * z.wi) z.wi) (n * z.wi) z.wi).1)) ((jrW sg (((va_up z.th n (z.th i)) n) &&& (u.th o)) (fun w => (va_cpy z.ce z.ce (i * z.wi) (n * z.wi) z.wi) (n * z.wi + w)) (fun w => u.ce (o * u.wi + w)) (va_cpy z.ce z.ce (i * z.wi) (n * z.wi) z.wi) (n * z.wi) z.wi).2)) (by omega) (by show jmS _ _ _ _ _ _ _ _ _ _ = _; rw [ez]; exact jmS_y eo (Nat.not_le.mp g6) g12) (jmK_y ik) (rsAll_mv ia) (by omega) rfl H _ ls hP hD hS (lv_sub hl [2, 3, 4, 1, 5, 0] rfl)
              · have g9 := g9
                refine lv_iinc (k := 5) (v := nI (o + 1)) hx hb d_T_joinRows_47 hl rfl (iincN (o) 1 1 (by decide)) (by decide) rfl (fun ls hl => ?_)
                have hl : lv_has ls 6 [(4, .int (nI (o + 1))), (0, .ref (ta 0)), (1, .int sg), (2, .ref (tb 0)), (3, .int (nI n)), (5, .int (nI i))] := hl
                refine lv_goto hx hb d_T_joinRows_50 (tgt := 17) rfl ?_
                exact ih17 _ (by omega) (o + 1) (by omega) (by rw [← i3, jmO_y (by omega) (show ltT NL t.nc RU (RS i) o = true by unfold ltT; rw [decide_eq_false (show ¬ 0 ≤ cmT NL t.nc (RU o) (RS i) from k6 ▸ g9)]; rfl)]) rfl H _ ls hP hD hS (lv_sub hl [1, 2, 3, 4, 5, 0] rfl)
        exact L17 _ o0 io rfl rfl H _ ls hP hD hS (lv_sub hl [0, 1, 2, 3, 5, 4] rfl)
  exact L8 _ 0 0 0 t (Nat.zero_le _) rfl ⟨rfl, rfl, rfl, Nat.le_refl _, rfl, rfl, rfl, fun _ _ => rfl⟩ hra (Nat.zero_le _) rfl H _ ls hP hD hS (lv_sub hl [3, 4, 5, 2, 1, 0] rfl)
