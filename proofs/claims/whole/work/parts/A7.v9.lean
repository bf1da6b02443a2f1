def VS.jaS (x : VS) (kd w n : Nat) (a b : Int64) : VS := VS.s_jch (VS.s_jfill (VS.s_junits (VS.s_jsize (VS.s_jS (VS.s_jF (VS.s_jB (VS.s_jU (VS.s_jO (VS.s_jK x (va_up x.jK x.jsize kd)) (va_up x.jO x.jsize w)) (va_up x.jU x.jsize n)) (va_up x.jB x.jsize x.jblock)) (va_up x.jF x.jsize a)) (va_up x.jS x.jsize b)) (x.jsize + 1)) (x.junits + n)) (x.jfill + n)) true
def VS.jgS (x : VS) (ja : Nat → Nat) : VS := VS.s_jS (VS.s_jF (VS.s_jB (VS.s_jU (VS.s_jO (VS.s_jK (VS.s_jN (VS.s_jA x ja) (2 * x.jsize)) (va_cpy x.jK (fun _ => 0) 0 0 (min x.jN (2 * x.jsize)))) (va_cpy x.jO (fun _ => 0) 0 0 (min x.jN (2 * x.jsize)))) (va_cpy x.jU (fun _ => 0) 0 0 (min x.jN (2 * x.jsize)))) (va_cpy x.jB (fun _ => 0) 0 0 (min x.jN (2 * x.jsize)))) (va_cpy x.jF (fun _ => 0) 0 0 (min x.jN (2 * x.jsize)))) (va_cpy x.jS (fun _ => 0) 0 0 (min x.jN (2 * x.jsize)))
def VS.jcap (x : VS) : Nat := if x.jsize = x.jN then 2 * x.jsize else x.jN
def VS.jadF (x : VS) (ja : Nat → Nat) (kd w n : Nat) (a b : Int64) : VS := (if x.jsize = x.jN then x.jgS ja else x).jaS kd w n a b
theorem d_J_add_12 : decode prog_3_method_7_code 12 = .ok (.aload_n 0, 1) := by decide +kernel
theorem d_J_add_13 : decode prog_3_method_7_code 13 = .ok (.invokevirtual 54, 3) := by decide +kernel
theorem w1117 : Cond.methodLink "SeriesVault$Journal" 54 ⟨"SeriesVault$Journal", "grow", "()V"⟩ ∈ aW := aw_of (tb_5 (List.mem_of_getElem? (i := 67) rfl)) rfl
theorem w1118 : Cond.code ⟨"SeriesVault$Journal", "grow", "()V"⟩ prog_3_method_8_code 1 none ∈ aW := aw_of (tb_5 (List.mem_of_getElem? (i := 70) rfl)) rfl
theorem w1119 : Cond.instanceMethod ⟨"SeriesVault$Journal", "grow", "()V"⟩ ∈ aW := aw_of (tb_5 (List.mem_of_getElem? (i := 69) rfl)) rfl
theorem w1120 : Cond.selects "SeriesVault$Journal" ⟨"SeriesVault$Journal", "grow", "()V"⟩ ⟨"SeriesVault$Journal", "grow", "()V"⟩ ∈ aW := aw_pr (List.mem_map.mpr ⟨_, pv_2 (List.mem_of_getElem? (i := 0) rfl), rfl⟩) rfl
set_option maxHeartbeats 4000000 in
set_option maxRecDepth 100000 in
theorem v_jadd (l : Launch) (D : va_G) (dA : Nat → ClassId) (sz : Nat) (h : Nat) (ad : Nat → Nat) (x : VS) (kd : Nat) (w : Nat) (n : Nat) (a : Int64) (b : Int64) (hs1 : x.jsize ≤ x.jN) (hs2 : 0 < x.jN) (hs3 : x.jN ≤ 65536) : Met l ⟨"SeriesVault$Journal", "add", "(IIIJJ)V"⟩ [Cond.code ⟨"SeriesVault$Journal", "add", "(IIIJJ)V"⟩ prog_3_method_7_code 8 none] { frames := 3, cells := 6 * (x.jcap - x.jN), slots := 12 * (x.jcap - x.jN), locals := 82 } (pC D dA [.ref (ad 0), .int (nI kd), .int (nI w), .int (nI n), .long a, .long b] (VW dA h ad x) sz) (va_Qv (fun (u9 : VS) => ∃ ja : Nat → Nat, u9 = x.jadF ja kd w n a b) (fun (u9 : VS) t9 => bW D (va_A (VW dA h ad x) sz) (VW dA h ad u9) t9) (va_A (VW dA h ad x) sz)) (6 * (x.jcap - x.jN)) (12 * (x.jcap - x.jN)) (va_A (VW dA h ad x) sz) := by
  refine mkC (y := ⟨"SeriesVault$Journal", "add", "(IIIJJ)V"⟩) (cc := prog_3_method_7_code) (maxL := 8) (av := [.ref (ad 0), .int (nI kd), .int (nI w), .int (nI n), .long a, .long b]) (ws := VW dA h ad x) (sz := sz) (Qc := fun A => va_Qv (fun (u9 : VS) => ∃ ja : Nat → Nat, u9 = x.jadF ja kd w n a b) (fun (u9 : VS) t9 => bW D A (VW dA h ad u9) t9) A) (by decide) (Nat.le_of_ble_eq_true rfl) ?_
  intro A p e s m below meth c ls hsz hB
  obtain ⟨hx, hb, hr, hml, hown, hin, hlk, hE, hK, hP, hD, hS, hA, hN, hl⟩ := hB
  have hown : s.vm.findClass "SeriesVault$Journal" = some m.cls := hown
  have hl : lv_has ls 8 [(0, .ref (ad 0)), (1, .int (nI kd)), (2, .int (nI w)), (3, .int (nI n)), (4, .long a), (6, .long b)] := hl
  obtain ⟨H, hH⟩ : ∃ z, z = s.heap := ⟨_, rfl⟩
  have hP : va_P D vwCl (VW dA h ad x) H := by rw [hH]; exact hP
  have hS : va_S A s.heap H [] := by rw [hH]; exact hS
  rw [← hH]
  refine lv_aload_n hx hb d_J_add_0 rfl (lv_at hl 0 rfl) ?_
  refine gF (v := .int (nI x.jsize)) hx hb hown hE hK hP 2 rfl rfl layJ 6 (by decide) w545 rfl d_J_add_1 ?_
  refine lv_aload_n hx hb d_J_add_4 rfl (lv_at hl 0 rfl) ?_
  refine gF (v := .ref (x.jA 0)) hx hb hown hE hK hP 2 rfl rfl layJ 0 (by decide) w190 rfl d_J_add_5 ?_
  refine va_alen (v := nI x.jN) hx hb hK hP (3) 1 rfl rfl rfl d_J_add_8 ?_
  refine lv_icmp_ne hx hb d_J_add_9 (tgt := 16) rfl (fun g1 => ?_) (fun g1 => ?_)
  · have g1 := mt (nI_eq (a := x.jsize) (b := x.jN) (by omega) (by omega)).mpr g1
    have jc : x.jcap = x.jN := if_neg g1
    refine lv_aload_n hx hb d_J_add_16 rfl (lv_at hl 0 rfl) ?_
    refine gF (v := .ref (x.jA 0)) hx hb hown hE hK hP 2 rfl rfl layJ 0 (by decide) w190 rfl d_J_add_17 ?_
    refine lv_aload_n hx hb d_J_add_20 rfl (lv_at hl 0 rfl) ?_
    refine gF (v := .int (nI x.jsize)) hx hb hown hE hK hP 2 rfl rfl layJ 6 (by decide) w545 rfl d_J_add_21 ?_
    refine lv_iload_n hx hb d_J_add_24 rfl (lv_at hl 1 rfl) ?_
    refine nistN (v := kd) (n := x.jN) hx hb hK hP hD hS 3 1 rfl rfl (x.jsize) (by omega) (by omega) d_J_add_25 (fun H locs hP hD hS => ?_)
    have hP : va_P D vwCl (VW dA h ad (VS.s_jK x (va_up x.jK x.jsize kd))) H := hP
    have hD : va_D A (VW dA h ad (VS.s_jK x (va_up x.jK x.jsize kd))) := hD
    refine lv_aload_n hx hb d_J_add_26 rfl (lv_at hl 0 rfl) ?_
    refine gF (v := .ref (x.jA 1)) hx hb hown hE hK hP 2 rfl rfl layJ 1 (by decide) w191 rfl d_J_add_27 ?_
    refine lv_aload_n hx hb d_J_add_30 rfl (lv_at hl 0 rfl) ?_
    refine gF (v := .int (nI x.jsize)) hx hb hown hE hK hP 2 rfl rfl layJ 6 (by decide) w545 rfl d_J_add_31 ?_
    refine lv_iload_n hx hb d_J_add_34 rfl (lv_at hl 2 rfl) ?_
    refine nistN (v := w) (n := x.jN) hx hb hK hP hD hS 4 1 rfl rfl (x.jsize) (by omega) (by omega) d_J_add_35 (fun H locs hP hD hS => ?_)
    have hP : va_P D vwCl (VW dA h ad (VS.s_jO (VS.s_jK x (va_up x.jK x.jsize kd)) (va_up x.jO x.jsize w))) H := hP
    have hD : va_D A (VW dA h ad (VS.s_jO (VS.s_jK x (va_up x.jK x.jsize kd)) (va_up x.jO x.jsize w))) := hD
    refine lv_aload_n hx hb d_J_add_36 rfl (lv_at hl 0 rfl) ?_
    refine gF (v := .ref (x.jA 2)) hx hb hown hE hK hP 2 rfl rfl layJ 2 (by decide) w192 rfl d_J_add_37 ?_
    refine lv_aload_n hx hb d_J_add_40 rfl (lv_at hl 0 rfl) ?_
    refine gF (v := .int (nI x.jsize)) hx hb hown hE hK hP 2 rfl rfl layJ 6 (by decide) w545 rfl d_J_add_41 ?_
    refine lv_iload_n hx hb d_J_add_44 rfl (lv_at hl 3 rfl) ?_
    refine nistN (v := n) (n := x.jN) hx hb hK hP hD hS 5 1 rfl rfl (x.jsize) (by omega) (by omega) d_J_add_45 (fun H locs hP hD hS => ?_)
    have hP : va_P D vwCl (VW dA h ad (VS.s_jU (VS.s_jO (VS.s_jK x (va_up x.jK x.jsize kd)) (va_up x.jO x.jsize w)) (va_up x.jU x.jsize n))) H := hP
    have hD : va_D A (VW dA h ad (VS.s_jU (VS.s_jO (VS.s_jK x (va_up x.jK x.jsize kd)) (va_up x.jO x.jsize w)) (va_up x.jU x.jsize n))) := hD
    refine lv_aload_n hx hb d_J_add_46 rfl (lv_at hl 0 rfl) ?_
    refine gF (v := .ref (x.jA 3)) hx hb hown hE hK hP 2 rfl rfl layJ 3 (by decide) w193 rfl d_J_add_47 ?_
    refine lv_aload_n hx hb d_J_add_50 rfl (lv_at hl 0 rfl) ?_
    refine gF (v := .int (nI x.jsize)) hx hb hown hE hK hP 2 rfl rfl layJ 6 (by decide) w545 rfl d_J_add_51 ?_
    refine lv_aload_n hx hb d_J_add_54 rfl (lv_at hl 0 rfl) ?_
    refine gF (v := .int (nI x.jblock)) hx hb hown hE hK hP 2 rfl rfl layJ 10 (by decide) w553 rfl d_J_add_55 ?_
    refine nistN (v := x.jblock) (n := x.jN) hx hb hK hP hD hS 6 1 rfl rfl (x.jsize) (by omega) (by omega) d_J_add_58 (fun H locs hP hD hS => ?_)
    have hP : va_P D vwCl (VW dA h ad (VS.s_jB (VS.s_jU (VS.s_jO (VS.s_jK x (va_up x.jK x.jsize kd)) (va_up x.jO x.jsize w)) (va_up x.jU x.jsize n)) (va_up x.jB x.jsize x.jblock))) H := hP
    have hD : va_D A (VW dA h ad (VS.s_jB (VS.s_jU (VS.s_jO (VS.s_jK x (va_up x.jK x.jsize kd)) (va_up x.jO x.jsize w)) (va_up x.jU x.jsize n)) (va_up x.jB x.jsize x.jblock))) := hD
    refine lv_aload_n hx hb d_J_add_59 rfl (lv_at hl 0 rfl) ?_
    refine gF (v := .ref (x.jA 4)) hx hb hown hE hK hP 2 rfl rfl layJ 4 (by decide) w194 rfl d_J_add_60 ?_
    refine lv_aload_n hx hb d_J_add_63 rfl (lv_at hl 0 rfl) ?_
    refine gF (v := .int (nI x.jsize)) hx hb hown hE hK hP 2 rfl rfl layJ 6 (by decide) w545 rfl d_J_add_64 ?_
    refine lv_lload hx hb d_J_add_67 (lv_at hl 4 rfl) ?_
    refine nlst (n := x.jN) hx hb hK hP hD hS 7 2 rfl rfl (x.jsize) (by omega) (by omega) d_J_add_69 (fun H locs hP hD hS => ?_)
    have hP : va_P D vwCl (VW dA h ad (VS.s_jF (VS.s_jB (VS.s_jU (VS.s_jO (VS.s_jK x (va_up x.jK x.jsize kd)) (va_up x.jO x.jsize w)) (va_up x.jU x.jsize n)) (va_up x.jB x.jsize x.jblock)) (va_up x.jF x.jsize a))) H := hP
    have hD : va_D A (VW dA h ad (VS.s_jF (VS.s_jB (VS.s_jU (VS.s_jO (VS.s_jK x (va_up x.jK x.jsize kd)) (va_up x.jO x.jsize w)) (va_up x.jU x.jsize n)) (va_up x.jB x.jsize x.jblock)) (va_up x.jF x.jsize a))) := hD
    refine lv_aload_n hx hb d_J_add_70 rfl (lv_at hl 0 rfl) ?_
    refine gF (v := .ref (x.jA 5)) hx hb hown hE hK hP 2 rfl rfl layJ 5 (by decide) w195 rfl d_J_add_71 ?_
    refine lv_aload_n hx hb d_J_add_74 rfl (lv_at hl 0 rfl) ?_
    refine gF (v := .int (nI x.jsize)) hx hb hown hE hK hP 2 rfl rfl layJ 6 (by decide) w545 rfl d_J_add_75 ?_
    refine lv_lload hx hb d_J_add_78 (lv_at hl 5 rfl) ?_
    refine nlst (n := x.jN) hx hb hK hP hD hS 8 2 rfl rfl (x.jsize) (by omega) (by omega) d_J_add_80 (fun H locs hP hD hS => ?_)
    have hP : va_P D vwCl (VW dA h ad (VS.s_jS (VS.s_jF (VS.s_jB (VS.s_jU (VS.s_jO (VS.s_jK x (va_up x.jK x.jsize kd)) (va_up x.jO x.jsize w)) (va_up x.jU x.jsize n)) (va_up x.jB x.jsize x.jblock)) (va_up x.jF x.jsize a)) (va_up x.jS x.jsize b))) H := hP
    have hD : va_D A (VW dA h ad (VS.s_jS (VS.s_jF (VS.s_jB (VS.s_jU (VS.s_jO (VS.s_jK x (va_up x.jK x.jsize kd)) (va_up x.jO x.jsize w)) (va_up x.jU x.jsize n)) (va_up x.jB x.jsize x.jblock)) (va_up x.jF x.jsize a)) (va_up x.jS x.jsize b))) := hD
    refine lv_aload_n hx hb d_J_add_81 rfl (lv_at hl 0 rfl) ?_
    refine lv_dup hx hb d_J_add_82 rfl ?_
    refine gF (v := .int (nI x.jsize)) hx hb hown hE hK hP 2 rfl rfl layJ 6 (by decide) w545 rfl d_J_add_83 ?_
    refine lv_iconst (v := 1) hx hb d_J_add_86 (by decide) ?_
    refine lv_iadd hx hb d_J_add_87 (tpi (y := nI (x.jsize + 1)) (nI_add (x.jsize) (1)) ?_)
    refine pF (v := .int (nI (x.jsize + 1))) hx hb hown hE hK hP hD hS 2 rfl rfl layJ tyJ tokJ nmJ 6 (by decide) w545 rfl rfl rfl (Nat.le_of_ble_eq_true rfl) d_J_add_88 (fun H locs hP hD hS => ?_)
    have hP : va_P D vwCl (VW dA h ad (VS.s_jsize (VS.s_jS (VS.s_jF (VS.s_jB (VS.s_jU (VS.s_jO (VS.s_jK x (va_up x.jK x.jsize kd)) (va_up x.jO x.jsize w)) (va_up x.jU x.jsize n)) (va_up x.jB x.jsize x.jblock)) (va_up x.jF x.jsize a)) (va_up x.jS x.jsize b)) (x.jsize + 1))) H := hP
    have hD : va_D A (VW dA h ad (VS.s_jsize (VS.s_jS (VS.s_jF (VS.s_jB (VS.s_jU (VS.s_jO (VS.s_jK x (va_up x.jK x.jsize kd)) (va_up x.jO x.jsize w)) (va_up x.jU x.jsize n)) (va_up x.jB x.jsize x.jblock)) (va_up x.jF x.jsize a)) (va_up x.jS x.jsize b)) (x.jsize + 1))) := hD
    refine lv_aload_n hx hb d_J_add_91 rfl (lv_at hl 0 rfl) ?_
    refine lv_dup hx hb d_J_add_92 rfl ?_
    refine gF (v := .int (nI x.junits)) hx hb hown hE hK hP 2 rfl rfl layJ 8 (by decide) w552 rfl d_J_add_93 ?_
    refine lv_iload_n hx hb d_J_add_96 rfl (lv_at hl 3 rfl) ?_
    refine lv_iadd hx hb d_J_add_97 (tpi (y := nI (x.junits + n)) (nI_add (x.junits) (n)) ?_)
    refine pF (v := .int (nI (x.junits + n))) hx hb hown hE hK hP hD hS 2 rfl rfl layJ tyJ tokJ nmJ 8 (by decide) w552 rfl rfl rfl (Nat.le_of_ble_eq_true rfl) d_J_add_98 (fun H locs hP hD hS => ?_)
    have hP : va_P D vwCl (VW dA h ad (VS.s_junits (VS.s_jsize (VS.s_jS (VS.s_jF (VS.s_jB (VS.s_jU (VS.s_jO (VS.s_jK x (va_up x.jK x.jsize kd)) (va_up x.jO x.jsize w)) (va_up x.jU x.jsize n)) (va_up x.jB x.jsize x.jblock)) (va_up x.jF x.jsize a)) (va_up x.jS x.jsize b)) (x.jsize + 1)) (x.junits + n))) H := hP
    have hD : va_D A (VW dA h ad (VS.s_junits (VS.s_jsize (VS.s_jS (VS.s_jF (VS.s_jB (VS.s_jU (VS.s_jO (VS.s_jK x (va_up x.jK x.jsize kd)) (va_up x.jO x.jsize w)) (va_up x.jU x.jsize n)) (va_up x.jB x.jsize x.jblock)) (va_up x.jF x.jsize a)) (va_up x.jS x.jsize b)) (x.jsize + 1)) (x.junits + n))) := hD
    refine lv_aload_n hx hb d_J_add_101 rfl (lv_at hl 0 rfl) ?_
    refine lv_dup hx hb d_J_add_102 rfl ?_
    refine gF (v := .int (nI x.jfill)) hx hb hown hE hK hP 2 rfl rfl layJ 11 (by decide) w554 rfl d_J_add_103 ?_
    refine lv_iload_n hx hb d_J_add_106 rfl (lv_at hl 3 rfl) ?_
    refine lv_iadd hx hb d_J_add_107 (tpi (y := nI (x.jfill + n)) (nI_add (x.jfill) (n)) ?_)
    refine pF (v := .int (nI (x.jfill + n))) hx hb hown hE hK hP hD hS 2 rfl rfl layJ tyJ tokJ nmJ 11 (by decide) w554 rfl rfl rfl (Nat.le_of_ble_eq_true rfl) d_J_add_108 (fun H locs hP hD hS => ?_)
    have hP : va_P D vwCl (VW dA h ad (VS.s_jfill (VS.s_junits (VS.s_jsize (VS.s_jS (VS.s_jF (VS.s_jB (VS.s_jU (VS.s_jO (VS.s_jK x (va_up x.jK x.jsize kd)) (va_up x.jO x.jsize w)) (va_up x.jU x.jsize n)) (va_up x.jB x.jsize x.jblock)) (va_up x.jF x.jsize a)) (va_up x.jS x.jsize b)) (x.jsize + 1)) (x.junits + n)) (x.jfill + n))) H := hP
    have hD : va_D A (VW dA h ad (VS.s_jfill (VS.s_junits (VS.s_jsize (VS.s_jS (VS.s_jF (VS.s_jB (VS.s_jU (VS.s_jO (VS.s_jK x (va_up x.jK x.jsize kd)) (va_up x.jO x.jsize w)) (va_up x.jU x.jsize n)) (va_up x.jB x.jsize x.jblock)) (va_up x.jF x.jsize a)) (va_up x.jS x.jsize b)) (x.jsize + 1)) (x.junits + n)) (x.jfill + n))) := hD
    refine lv_aload_n hx hb d_J_add_111 rfl (lv_at hl 0 rfl) ?_
    refine lv_iconst (v := 1) hx hb d_J_add_112 (by decide) ?_
    refine pF (v := .int (bI true)) hx hb hown hE hK hP hD hS 2 rfl rfl layJ tyJ tokJ nmJ 12 (by decide) w551 rfl (bI_nar true) (bI_fit true) (Nat.le_of_ble_eq_true rfl) d_J_add_113 (fun H locs hP hD hS => ?_)
    have hP : va_P D vwCl (VW dA h ad (VS.s_jch (VS.s_jfill (VS.s_junits (VS.s_jsize (VS.s_jS (VS.s_jF (VS.s_jB (VS.s_jU (VS.s_jO (VS.s_jK x (va_up x.jK x.jsize kd)) (va_up x.jO x.jsize w)) (va_up x.jU x.jsize n)) (va_up x.jB x.jsize x.jblock)) (va_up x.jF x.jsize a)) (va_up x.jS x.jsize b)) (x.jsize + 1)) (x.junits + n)) (x.jfill + n)) true)) H := hP
    have hD : va_D A (VW dA h ad (VS.s_jch (VS.s_jfill (VS.s_junits (VS.s_jsize (VS.s_jS (VS.s_jF (VS.s_jB (VS.s_jU (VS.s_jO (VS.s_jK x (va_up x.jK x.jsize kd)) (va_up x.jO x.jsize w)) (va_up x.jU x.jsize n)) (va_up x.jB x.jsize x.jblock)) (va_up x.jF x.jsize a)) (va_up x.jS x.jsize b)) (x.jsize + 1)) (x.junits + n)) (x.jfill + n)) true)) := hD
    exact rfV hx hb hr hlk hS (VS.s_jch (VS.s_jfill (VS.s_junits (VS.s_jsize (VS.s_jS (VS.s_jF (VS.s_jB (VS.s_jU (VS.s_jO (VS.s_jK x (va_up x.jK x.jsize kd)) (va_up x.jO x.jsize w)) (va_up x.jU x.jsize n)) (va_up x.jB x.jsize x.jblock)) (va_up x.jF x.jsize a)) (va_up x.jS x.jsize b)) (x.jsize + 1)) (x.junits + n)) (x.jfill + n)) true) ⟨x.jA, by unfold VS.jadF; rw [if_neg g1]; rfl⟩ hP hD (show 0 ≤ 6 * (x.jcap - x.jN) by omega) (show 0 ≤ 12 * (x.jcap - x.jN) by omega) d_J_add_116
  · have g1 := (nI_eq (a := x.jsize) (b := x.jN) (by omega) (by omega)).mp g1
    have jc : x.jcap = 2 * x.jsize := if_pos g1
    refine lv_aload_n hx hb d_J_add_12 rfl (lv_at hl 0 rfl) ?_
    refine jfV (rnV (As := []) (rest := []) hx hb hml hown hE hK (hN _ _ hS) hP hD (v_jgrow l D dA H.size h ad x (show x.jsize = x.jN from by omega) (show 0 < x.jsize from by omega) (show x.jsize ≤ 65536 from by omega)) (q0 := 2) rfl rfl w1118 w1117 w1119 w1120 w556 rfl rfl ⟨⟨by decide, by decide⟩, rfl⟩ ⟨(Nat.le_of_ble_eq_true rfl), (Nat.le_of_ble_eq_true rfl)⟩ rfl hl.1 rfl (Nat.le_of_ble_eq_true rfl) d_J_add_13 ⟨(show 0 + 6 ≤ 6 * (x.jcap - x.jN) by omega), (show 0 + (12 * x.jsize) ≤ 12 * (x.jcap - x.jN) by omega)⟩) hP hD hS hA (fun u3 H locs hp9 hP hD hS => ?_)
    obtain ⟨ja4, h9u⟩ : ∃ z9, z9 = u3 := ⟨_, rfl⟩
    subst h9u
    have hP : va_P D vwCl (VW dA h ad (VS.s_jS (VS.s_jF (VS.s_jB (VS.s_jU (VS.s_jO (VS.s_jK (VS.s_jN (VS.s_jA x ja4) (2 * x.jsize)) (va_cpy x.jK (fun _ => 0) 0 0 (min x.jN (2 * x.jsize)))) (va_cpy x.jO (fun _ => 0) 0 0 (min x.jN (2 * x.jsize)))) (va_cpy x.jU (fun _ => 0) 0 0 (min x.jN (2 * x.jsize)))) (va_cpy x.jB (fun _ => 0) 0 0 (min x.jN (2 * x.jsize)))) (va_cpy x.jF (fun _ => 0) 0 0 (min x.jN (2 * x.jsize)))) (va_cpy x.jS (fun _ => 0) 0 0 (min x.jN (2 * x.jsize))))) H := hP
    have hD : va_D A (VW dA h ad (VS.s_jS (VS.s_jF (VS.s_jB (VS.s_jU (VS.s_jO (VS.s_jK (VS.s_jN (VS.s_jA x ja4) (2 * x.jsize)) (va_cpy x.jK (fun _ => 0) 0 0 (min x.jN (2 * x.jsize)))) (va_cpy x.jO (fun _ => 0) 0 0 (min x.jN (2 * x.jsize)))) (va_cpy x.jU (fun _ => 0) 0 0 (min x.jN (2 * x.jsize)))) (va_cpy x.jB (fun _ => 0) 0 0 (min x.jN (2 * x.jsize)))) (va_cpy x.jF (fun _ => 0) 0 0 (min x.jN (2 * x.jsize)))) (va_cpy x.jS (fun _ => 0) 0 0 (min x.jN (2 * x.jsize))))) := hD
    refine lv_aload_n hx hb d_J_add_16 rfl (lv_at hl 0 rfl) ?_
    refine gF (v := .ref (ja4 0)) hx hb hown hE hK hP 2 rfl rfl layJ 0 (by decide) w190 rfl d_J_add_17 ?_
    refine lv_aload_n hx hb d_J_add_20 rfl (lv_at hl 0 rfl) ?_
    refine gF (v := .int (nI x.jsize)) hx hb hown hE hK hP 2 rfl rfl layJ 6 (by decide) w545 rfl d_J_add_21 ?_
    refine lv_iload_n hx hb d_J_add_24 rfl (lv_at hl 1 rfl) ?_
    refine nistN (v := kd) (n := 2 * x.jsize) hx hb hK hP hD hS 3 1 rfl rfl (x.jsize) (by omega) (by omega) d_J_add_25 (fun H locs hP hD hS => ?_)
    have hP : va_P D vwCl (VW dA h ad (VS.s_jS (VS.s_jF (VS.s_jB (VS.s_jU (VS.s_jO (VS.s_jK (VS.s_jN (VS.s_jA x ja4) (2 * x.jsize)) (va_up (va_cpy x.jK (fun _ => 0) 0 0 (min x.jN (2 * x.jsize))) x.jsize kd)) (va_cpy x.jO (fun _ => 0) 0 0 (min x.jN (2 * x.jsize)))) (va_cpy x.jU (fun _ => 0) 0 0 (min x.jN (2 * x.jsize)))) (va_cpy x.jB (fun _ => 0) 0 0 (min x.jN (2 * x.jsize)))) (va_cpy x.jF (fun _ => 0) 0 0 (min x.jN (2 * x.jsize)))) (va_cpy x.jS (fun _ => 0) 0 0 (min x.jN (2 * x.jsize))))) H := hP
    have hD : va_D A (VW dA h ad (VS.s_jS (VS.s_jF (VS.s_jB (VS.s_jU (VS.s_jO (VS.s_jK (VS.s_jN (VS.s_jA x ja4) (2 * x.jsize)) (va_up (va_cpy x.jK (fun _ => 0) 0 0 (min x.jN (2 * x.jsize))) x.jsize kd)) (va_cpy x.jO (fun _ => 0) 0 0 (min x.jN (2 * x.jsize)))) (va_cpy x.jU (fun _ => 0) 0 0 (min x.jN (2 * x.jsize)))) (va_cpy x.jB (fun _ => 0) 0 0 (min x.jN (2 * x.jsize)))) (va_cpy x.jF (fun _ => 0) 0 0 (min x.jN (2 * x.jsize)))) (va_cpy x.jS (fun _ => 0) 0 0 (min x.jN (2 * x.jsize))))) := hD
    refine lv_aload_n hx hb d_J_add_26 rfl (lv_at hl 0 rfl) ?_
    refine gF (v := .ref (ja4 1)) hx hb hown hE hK hP 2 rfl rfl layJ 1 (by decide) w191 rfl d_J_add_27 ?_
    refine lv_aload_n hx hb d_J_add_30 rfl (lv_at hl 0 rfl) ?_
    refine gF (v := .int (nI x.jsize)) hx hb hown hE hK hP 2 rfl rfl layJ 6 (by decide) w545 rfl d_J_add_31 ?_
    refine lv_iload_n hx hb d_J_add_34 rfl (lv_at hl 2 rfl) ?_
    refine nistN (v := w) (n := 2 * x.jsize) hx hb hK hP hD hS 4 1 rfl rfl (x.jsize) (by omega) (by omega) d_J_add_35 (fun H locs hP hD hS => ?_)
    have hP : va_P D vwCl (VW dA h ad (VS.s_jS (VS.s_jF (VS.s_jB (VS.s_jU (VS.s_jO (VS.s_jK (VS.s_jN (VS.s_jA x ja4) (2 * x.jsize)) (va_up (va_cpy x.jK (fun _ => 0) 0 0 (min x.jN (2 * x.jsize))) x.jsize kd)) (va_up (va_cpy x.jO (fun _ => 0) 0 0 (min x.jN (2 * x.jsize))) x.jsize w)) (va_cpy x.jU (fun _ => 0) 0 0 (min x.jN (2 * x.jsize)))) (va_cpy x.jB (fun _ => 0) 0 0 (min x.jN (2 * x.jsize)))) (va_cpy x.jF (fun _ => 0) 0 0 (min x.jN (2 * x.jsize)))) (va_cpy x.jS (fun _ => 0) 0 0 (min x.jN (2 * x.jsize))))) H := hP
    have hD : va_D A (VW dA h ad (VS.s_jS (VS.s_jF (VS.s_jB (VS.s_jU (VS.s_jO (VS.s_jK (VS.s_jN (VS.s_jA x ja4) (2 * x.jsize)) (va_up (va_cpy x.jK (fun _ => 0) 0 0 (min x.jN (2 * x.jsize))) x.jsize kd)) (va_up (va_cpy x.jO (fun _ => 0) 0 0 (min x.jN (2 * x.jsize))) x.jsize w)) (va_cpy x.jU (fun _ => 0) 0 0 (min x.jN (2 * x.jsize)))) (va_cpy x.jB (fun _ => 0) 0 0 (min x.jN (2 * x.jsize)))) (va_cpy x.jF (fun _ => 0) 0 0 (min x.jN (2 * x.jsize)))) (va_cpy x.jS (fun _ => 0) 0 0 (min x.jN (2 * x.jsize))))) := hD
    refine lv_aload_n hx hb d_J_add_36 rfl (lv_at hl 0 rfl) ?_
    refine gF (v := .ref (ja4 2)) hx hb hown hE hK hP 2 rfl rfl layJ 2 (by decide) w192 rfl d_J_add_37 ?_
    refine lv_aload_n hx hb d_J_add_40 rfl (lv_at hl 0 rfl) ?_
    refine gF (v := .int (nI x.jsize)) hx hb hown hE hK hP 2 rfl rfl layJ 6 (by decide) w545 rfl d_J_add_41 ?_
    refine lv_iload_n hx hb d_J_add_44 rfl (lv_at hl 3 rfl) ?_
    refine nistN (v := n) (n := 2 * x.jsize) hx hb hK hP hD hS 5 1 rfl rfl (x.jsize) (by omega) (by omega) d_J_add_45 (fun H locs hP hD hS => ?_)
    have hP : va_P D vwCl (VW dA h ad (VS.s_jS (VS.s_jF (VS.s_jB (VS.s_jU (VS.s_jO (VS.s_jK (VS.s_jN (VS.s_jA x ja4) (2 * x.jsize)) (va_up (va_cpy x.jK (fun _ => 0) 0 0 (min x.jN (2 * x.jsize))) x.jsize kd)) (va_up (va_cpy x.jO (fun _ => 0) 0 0 (min x.jN (2 * x.jsize))) x.jsize w)) (va_up (va_cpy x.jU (fun _ => 0) 0 0 (min x.jN (2 * x.jsize))) x.jsize n)) (va_cpy x.jB (fun _ => 0) 0 0 (min x.jN (2 * x.jsize)))) (va_cpy x.jF (fun _ => 0) 0 0 (min x.jN (2 * x.jsize)))) (va_cpy x.jS (fun _ => 0) 0 0 (min x.jN (2 * x.jsize))))) H := hP
    have hD : va_D A (VW dA h ad (VS.s_jS (VS.s_jF (VS.s_jB (VS.s_jU (VS.s_jO (VS.s_jK (VS.s_jN (VS.s_jA x ja4) (2 * x.jsize)) (va_up (va_cpy x.jK (fun _ => 0) 0 0 (min x.jN (2 * x.jsize))) x.jsize kd)) (va_up (va_cpy x.jO (fun _ => 0) 0 0 (min x.jN (2 * x.jsize))) x.jsize w)) (va_up (va_cpy x.jU (fun _ => 0) 0 0 (min x.jN (2 * x.jsize))) x.jsize n)) (va_cpy x.jB (fun _ => 0) 0 0 (min x.jN (2 * x.jsize)))) (va_cpy x.jF (fun _ => 0) 0 0 (min x.jN (2 * x.jsize)))) (va_cpy x.jS (fun _ => 0) 0 0 (min x.jN (2 * x.jsize))))) := hD
    refine lv_aload_n hx hb d_J_add_46 rfl (lv_at hl 0 rfl) ?_
    refine gF (v := .ref (ja4 3)) hx hb hown hE hK hP 2 rfl rfl layJ 3 (by decide) w193 rfl d_J_add_47 ?_
    refine lv_aload_n hx hb d_J_add_50 rfl (lv_at hl 0 rfl) ?_
    refine gF (v := .int (nI x.jsize)) hx hb hown hE hK hP 2 rfl rfl layJ 6 (by decide) w545 rfl d_J_add_51 ?_
    refine lv_aload_n hx hb d_J_add_54 rfl (lv_at hl 0 rfl) ?_
    refine gF (v := .int (nI x.jblock)) hx hb hown hE hK hP 2 rfl rfl layJ 10 (by decide) w553 rfl d_J_add_55 ?_
    refine nistN (v := x.jblock) (n := 2 * x.jsize) hx hb hK hP hD hS 6 1 rfl rfl (x.jsize) (by omega) (by omega) d_J_add_58 (fun H locs hP hD hS => ?_)
    have hP : va_P D vwCl (VW dA h ad (VS.s_jS (VS.s_jF (VS.s_jB (VS.s_jU (VS.s_jO (VS.s_jK (VS.s_jN (VS.s_jA x ja4) (2 * x.jsize)) (va_up (va_cpy x.jK (fun _ => 0) 0 0 (min x.jN (2 * x.jsize))) x.jsize kd)) (va_up (va_cpy x.jO (fun _ => 0) 0 0 (min x.jN (2 * x.jsize))) x.jsize w)) (va_up (va_cpy x.jU (fun _ => 0) 0 0 (min x.jN (2 * x.jsize))) x.jsize n)) (va_up (va_cpy x.jB (fun _ => 0) 0 0 (min x.jN (2 * x.jsize))) x.jsize x.jblock)) (va_cpy x.jF (fun _ => 0) 0 0 (min x.jN (2 * x.jsize)))) (va_cpy x.jS (fun _ => 0) 0 0 (min x.jN (2 * x.jsize))))) H := hP
    have hD : va_D A (VW dA h ad (VS.s_jS (VS.s_jF (VS.s_jB (VS.s_jU (VS.s_jO (VS.s_jK (VS.s_jN (VS.s_jA x ja4) (2 * x.jsize)) (va_up (va_cpy x.jK (fun _ => 0) 0 0 (min x.jN (2 * x.jsize))) x.jsize kd)) (va_up (va_cpy x.jO (fun _ => 0) 0 0 (min x.jN (2 * x.jsize))) x.jsize w)) (va_up (va_cpy x.jU (fun _ => 0) 0 0 (min x.jN (2 * x.jsize))) x.jsize n)) (va_up (va_cpy x.jB (fun _ => 0) 0 0 (min x.jN (2 * x.jsize))) x.jsize x.jblock)) (va_cpy x.jF (fun _ => 0) 0 0 (min x.jN (2 * x.jsize)))) (va_cpy x.jS (fun _ => 0) 0 0 (min x.jN (2 * x.jsize))))) := hD
    refine lv_aload_n hx hb d_J_add_59 rfl (lv_at hl 0 rfl) ?_
    refine gF (v := .ref (ja4 4)) hx hb hown hE hK hP 2 rfl rfl layJ 4 (by decide) w194 rfl d_J_add_60 ?_
    refine lv_aload_n hx hb d_J_add_63 rfl (lv_at hl 0 rfl) ?_
    refine gF (v := .int (nI x.jsize)) hx hb hown hE hK hP 2 rfl rfl layJ 6 (by decide) w545 rfl d_J_add_64 ?_
    refine lv_lload hx hb d_J_add_67 (lv_at hl 4 rfl) ?_
    refine nlst (n := 2 * x.jsize) hx hb hK hP hD hS 7 2 rfl rfl (x.jsize) (by omega) (by omega) d_J_add_69 (fun H locs hP hD hS => ?_)
    have hP : va_P D vwCl (VW dA h ad (VS.s_jS (VS.s_jF (VS.s_jB (VS.s_jU (VS.s_jO (VS.s_jK (VS.s_jN (VS.s_jA x ja4) (2 * x.jsize)) (va_up (va_cpy x.jK (fun _ => 0) 0 0 (min x.jN (2 * x.jsize))) x.jsize kd)) (va_up (va_cpy x.jO (fun _ => 0) 0 0 (min x.jN (2 * x.jsize))) x.jsize w)) (va_up (va_cpy x.jU (fun _ => 0) 0 0 (min x.jN (2 * x.jsize))) x.jsize n)) (va_up (va_cpy x.jB (fun _ => 0) 0 0 (min x.jN (2 * x.jsize))) x.jsize x.jblock)) (va_up (va_cpy x.jF (fun _ => 0) 0 0 (min x.jN (2 * x.jsize))) x.jsize a)) (va_cpy x.jS (fun _ => 0) 0 0 (min x.jN (2 * x.jsize))))) H := hP
    have hD : va_D A (VW dA h ad (VS.s_jS (VS.s_jF (VS.s_jB (VS.s_jU (VS.s_jO (VS.s_jK (VS.s_jN (VS.s_jA x ja4) (2 * x.jsize)) (va_up (va_cpy x.jK (fun _ => 0) 0 0 (min x.jN (2 * x.jsize))) x.jsize kd)) (va_up (va_cpy x.jO (fun _ => 0) 0 0 (min x.jN (2 * x.jsize))) x.jsize w)) (va_up (va_cpy x.jU (fun _ => 0) 0 0 (min x.jN (2 * x.jsize))) x.jsize n)) (va_up (va_cpy x.jB (fun _ => 0) 0 0 (min x.jN (2 * x.jsize))) x.jsize x.jblock)) (va_up (va_cpy x.jF (fun _ => 0) 0 0 (min x.jN (2 * x.jsize))) x.jsize a)) (va_cpy x.jS (fun _ => 0) 0 0 (min x.jN (2 * x.jsize))))) := hD
    refine lv_aload_n hx hb d_J_add_70 rfl (lv_at hl 0 rfl) ?_
    refine gF (v := .ref (ja4 5)) hx hb hown hE hK hP 2 rfl rfl layJ 5 (by decide) w195 rfl d_J_add_71 ?_
    refine lv_aload_n hx hb d_J_add_74 rfl (lv_at hl 0 rfl) ?_
    refine gF (v := .int (nI x.jsize)) hx hb hown hE hK hP 2 rfl rfl layJ 6 (by decide) w545 rfl d_J_add_75 ?_
    refine lv_lload hx hb d_J_add_78 (lv_at hl 5 rfl) ?_
    refine nlst (n := 2 * x.jsize) hx hb hK hP hD hS 8 2 rfl rfl (x.jsize) (by omega) (by omega) d_J_add_80 (fun H locs hP hD hS => ?_)
    have hP : va_P D vwCl (VW dA h ad (VS.s_jS (VS.s_jF (VS.s_jB (VS.s_jU (VS.s_jO (VS.s_jK (VS.s_jN (VS.s_jA x ja4) (2 * x.jsize)) (va_up (va_cpy x.jK (fun _ => 0) 0 0 (min x.jN (2 * x.jsize))) x.jsize kd)) (va_up (va_cpy x.jO (fun _ => 0) 0 0 (min x.jN (2 * x.jsize))) x.jsize w)) (va_up (va_cpy x.jU (fun _ => 0) 0 0 (min x.jN (2 * x.jsize))) x.jsize n)) (va_up (va_cpy x.jB (fun _ => 0) 0 0 (min x.jN (2 * x.jsize))) x.jsize x.jblock)) (va_up (va_cpy x.jF (fun _ => 0) 0 0 (min x.jN (2 * x.jsize))) x.jsize a)) (va_up (va_cpy x.jS (fun _ => 0) 0 0 (min x.jN (2 * x.jsize))) x.jsize b))) H := hP
    have hD : va_D A (VW dA h ad (VS.s_jS (VS.s_jF (VS.s_jB (VS.s_jU (VS.s_jO (VS.s_jK (VS.s_jN (VS.s_jA x ja4) (2 * x.jsize)) (va_up (va_cpy x.jK (fun _ => 0) 0 0 (min x.jN (2 * x.jsize))) x.jsize kd)) (va_up (va_cpy x.jO (fun _ => 0) 0 0 (min x.jN (2 * x.jsize))) x.jsize w)) (va_up (va_cpy x.jU (fun _ => 0) 0 0 (min x.jN (2 * x.jsize))) x.jsize n)) (va_up (va_cpy x.jB (fun _ => 0) 0 0 (min x.jN (2 * x.jsize))) x.jsize x.jblock)) (va_up (va_cpy x.jF (fun _ => 0) 0 0 (min x.jN (2 * x.jsize))) x.jsize a)) (va_up (va_cpy x.jS (fun _ => 0) 0 0 (min x.jN (2 * x.jsize))) x.jsize b))) := hD
    refine lv_aload_n hx hb d_J_add_81 rfl (lv_at hl 0 rfl) ?_
    refine lv_dup hx hb d_J_add_82 rfl ?_
    refine gF (v := .int (nI x.jsize)) hx hb hown hE hK hP 2 rfl rfl layJ 6 (by decide) w545 rfl d_J_add_83 ?_
    refine lv_iconst (v := 1) hx hb d_J_add_86 (by decide) ?_
    refine lv_iadd hx hb d_J_add_87 (tpi (y := nI (x.jsize + 1)) (nI_add (x.jsize) (1)) ?_)
    refine pF (v := .int (nI (x.jsize + 1))) hx hb hown hE hK hP hD hS 2 rfl rfl layJ tyJ tokJ nmJ 6 (by decide) w545 rfl rfl rfl (Nat.le_of_ble_eq_true rfl) d_J_add_88 (fun H locs hP hD hS => ?_)
    have hP : va_P D vwCl (VW dA h ad (VS.s_jsize (VS.s_jS (VS.s_jF (VS.s_jB (VS.s_jU (VS.s_jO (VS.s_jK (VS.s_jN (VS.s_jA x ja4) (2 * x.jsize)) (va_up (va_cpy x.jK (fun _ => 0) 0 0 (min x.jN (2 * x.jsize))) x.jsize kd)) (va_up (va_cpy x.jO (fun _ => 0) 0 0 (min x.jN (2 * x.jsize))) x.jsize w)) (va_up (va_cpy x.jU (fun _ => 0) 0 0 (min x.jN (2 * x.jsize))) x.jsize n)) (va_up (va_cpy x.jB (fun _ => 0) 0 0 (min x.jN (2 * x.jsize))) x.jsize x.jblock)) (va_up (va_cpy x.jF (fun _ => 0) 0 0 (min x.jN (2 * x.jsize))) x.jsize a)) (va_up (va_cpy x.jS (fun _ => 0) 0 0 (min x.jN (2 * x.jsize))) x.jsize b)) (x.jsize + 1))) H := hP
    have hD : va_D A (VW dA h ad (VS.s_jsize (VS.s_jS (VS.s_jF (VS.s_jB (VS.s_jU (VS.s_jO (VS.s_jK (VS.s_jN (VS.s_jA x ja4) (2 * x.jsize)) (va_up (va_cpy x.jK (fun _ => 0) 0 0 (min x.jN (2 * x.jsize))) x.jsize kd)) (va_up (va_cpy x.jO (fun _ => 0) 0 0 (min x.jN (2 * x.jsize))) x.jsize w)) (va_up (va_cpy x.jU (fun _ => 0) 0 0 (min x.jN (2 * x.jsize))) x.jsize n)) (va_up (va_cpy x.jB (fun _ => 0) 0 0 (min x.jN (2 * x.jsize))) x.jsize x.jblock)) (va_up (va_cpy x.jF (fun _ => 0) 0 0 (min x.jN (2 * x.jsize))) x.jsize a)) (va_up (va_cpy x.jS (fun _ => 0) 0 0 (min x.jN (2 * x.jsize))) x.jsize b)) (x.jsize + 1))) := hD
    refine lv_aload_n hx hb d_J_add_91 rfl (lv_at hl 0 rfl) ?_
    refine lv_dup hx hb d_J_add_92 rfl ?_
    refine gF (v := .int (nI x.junits)) hx hb hown hE hK hP 2 rfl rfl layJ 8 (by decide) w552 rfl d_J_add_93 ?_
    refine lv_iload_n hx hb d_J_add_96 rfl (lv_at hl 3 rfl) ?_
    refine lv_iadd hx hb d_J_add_97 (tpi (y := nI (x.junits + n)) (nI_add (x.junits) (n)) ?_)
    refine pF (v := .int (nI (x.junits + n))) hx hb hown hE hK hP hD hS 2 rfl rfl layJ tyJ tokJ nmJ 8 (by decide) w552 rfl rfl rfl (Nat.le_of_ble_eq_true rfl) d_J_add_98 (fun H locs hP hD hS => ?_)
    have hP : va_P D vwCl (VW dA h ad (VS.s_junits (VS.s_jsize (VS.s_jS (VS.s_jF (VS.s_jB (VS.s_jU (VS.s_jO (VS.s_jK (VS.s_jN (VS.s_jA x ja4) (2 * x.jsize)) (va_up (va_cpy x.jK (fun _ => 0) 0 0 (min x.jN (2 * x.jsize))) x.jsize kd)) (va_up (va_cpy x.jO (fun _ => 0) 0 0 (min x.jN (2 * x.jsize))) x.jsize w)) (va_up (va_cpy x.jU (fun _ => 0) 0 0 (min x.jN (2 * x.jsize))) x.jsize n)) (va_up (va_cpy x.jB (fun _ => 0) 0 0 (min x.jN (2 * x.jsize))) x.jsize x.jblock)) (va_up (va_cpy x.jF (fun _ => 0) 0 0 (min x.jN (2 * x.jsize))) x.jsize a)) (va_up (va_cpy x.jS (fun _ => 0) 0 0 (min x.jN (2 * x.jsize))) x.jsize b)) (x.jsize + 1)) (x.junits + n))) H := hP
    have hD : va_D A (VW dA h ad (VS.s_junits (VS.s_jsize (VS.s_jS (VS.s_jF (VS.s_jB (VS.s_jU (VS.s_jO (VS.s_jK (VS.s_jN (VS.s_jA x ja4) (2 * x.jsize)) (va_up (va_cpy x.jK (fun _ => 0) 0 0 (min x.jN (2 * x.jsize))) x.jsize kd)) (va_up (va_cpy x.jO (fun _ => 0) 0 0 (min x.jN (2 * x.jsize))) x.jsize w)) (va_up (va_cpy x.jU (fun _ => 0) 0 0 (min x.jN (2 * x.jsize))) x.jsize n)) (va_up (va_cpy x.jB (fun _ => 0) 0 0 (min x.jN (2 * x.jsize))) x.jsize x.jblock)) (va_up (va_cpy x.jF (fun _ => 0) 0 0 (min x.jN (2 * x.jsize))) x.jsize a)) (va_up (va_cpy x.jS (fun _ => 0) 0 0 (min x.jN (2 * x.jsize))) x.jsize b)) (x.jsize + 1)) (x.junits + n))) := hD
    refine lv_aload_n hx hb d_J_add_101 rfl (lv_at hl 0 rfl) ?_
    refine lv_dup hx hb d_J_add_102 rfl ?_
    refine gF (v := .int (nI x.jfill)) hx hb hown hE hK hP 2 rfl rfl layJ 11 (by decide) w554 rfl d_J_add_103 ?_
    refine lv_iload_n hx hb d_J_add_106 rfl (lv_at hl 3 rfl) ?_
    refine lv_iadd hx hb d_J_add_107 (tpi (y := nI (x.jfill + n)) (nI_add (x.jfill) (n)) ?_)
    refine pF (v := .int (nI (x.jfill + n))) hx hb hown hE hK hP hD hS 2 rfl rfl layJ tyJ tokJ nmJ 11 (by decide) w554 rfl rfl rfl (Nat.le_of_ble_eq_true rfl) d_J_add_108 (fun H locs hP hD hS => ?_)
    have hP : va_P D vwCl (VW dA h ad (VS.s_jfill (VS.s_junits (VS.s_jsize (VS.s_jS (VS.s_jF (VS.s_jB (VS.s_jU (VS.s_jO (VS.s_jK (VS.s_jN (VS.s_jA x ja4) (2 * x.jsize)) (va_up (va_cpy x.jK (fun _ => 0) 0 0 (min x.jN (2 * x.jsize))) x.jsize kd)) (va_up (va_cpy x.jO (fun _ => 0) 0 0 (min x.jN (2 * x.jsize))) x.jsize w)) (va_up (va_cpy x.jU (fun _ => 0) 0 0 (min x.jN (2 * x.jsize))) x.jsize n)) (va_up (va_cpy x.jB (fun _ => 0) 0 0 (min x.jN (2 * x.jsize))) x.jsize x.jblock)) (va_up (va_cpy x.jF (fun _ => 0) 0 0 (min x.jN (2 * x.jsize))) x.jsize a)) (va_up (va_cpy x.jS (fun _ => 0) 0 0 (min x.jN (2 * x.jsize))) x.jsize b)) (x.jsize + 1)) (x.junits + n)) (x.jfill + n))) H := hP
    have hD : va_D A (VW dA h ad (VS.s_jfill (VS.s_junits (VS.s_jsize (VS.s_jS (VS.s_jF (VS.s_jB (VS.s_jU (VS.s_jO (VS.s_jK (VS.s_jN (VS.s_jA x ja4) (2 * x.jsize)) (va_up (va_cpy x.jK (fun _ => 0) 0 0 (min x.jN (2 * x.jsize))) x.jsize kd)) (va_up (va_cpy x.jO (fun _ => 0) 0 0 (min x.jN (2 * x.jsize))) x.jsize w)) (va_up (va_cpy x.jU (fun _ => 0) 0 0 (min x.jN (2 * x.jsize))) x.jsize n)) (va_up (va_cpy x.jB (fun _ => 0) 0 0 (min x.jN (2 * x.jsize))) x.jsize x.jblock)) (va_up (va_cpy x.jF (fun _ => 0) 0 0 (min x.jN (2 * x.jsize))) x.jsize a)) (va_up (va_cpy x.jS (fun _ => 0) 0 0 (min x.jN (2 * x.jsize))) x.jsize b)) (x.jsize + 1)) (x.junits + n)) (x.jfill + n))) := hD
    refine lv_aload_n hx hb d_J_add_111 rfl (lv_at hl 0 rfl) ?_
    refine lv_iconst (v := 1) hx hb d_J_add_112 (by decide) ?_
    refine pF (v := .int (bI true)) hx hb hown hE hK hP hD hS 2 rfl rfl layJ tyJ tokJ nmJ 12 (by decide) w551 rfl (bI_nar true) (bI_fit true) (Nat.le_of_ble_eq_true rfl) d_J_add_113 (fun H locs hP hD hS => ?_)
    have hP : va_P D vwCl (VW dA h ad (VS.s_jch (VS.s_jfill (VS.s_junits (VS.s_jsize (VS.s_jS (VS.s_jF (VS.s_jB (VS.s_jU (VS.s_jO (VS.s_jK (VS.s_jN (VS.s_jA x ja4) (2 * x.jsize)) (va_up (va_cpy x.jK (fun _ => 0) 0 0 (min x.jN (2 * x.jsize))) x.jsize kd)) (va_up (va_cpy x.jO (fun _ => 0) 0 0 (min x.jN (2 * x.jsize))) x.jsize w)) (va_up (va_cpy x.jU (fun _ => 0) 0 0 (min x.jN (2 * x.jsize))) x.jsize n)) (va_up (va_cpy x.jB (fun _ => 0) 0 0 (min x.jN (2 * x.jsize))) x.jsize x.jblock)) (va_up (va_cpy x.jF (fun _ => 0) 0 0 (min x.jN (2 * x.jsize))) x.jsize a)) (va_up (va_cpy x.jS (fun _ => 0) 0 0 (min x.jN (2 * x.jsize))) x.jsize b)) (x.jsize + 1)) (x.junits + n)) (x.jfill + n)) true)) H := hP
    have hD : va_D A (VW dA h ad (VS.s_jch (VS.s_jfill (VS.s_junits (VS.s_jsize (VS.s_jS (VS.s_jF (VS.s_jB (VS.s_jU (VS.s_jO (VS.s_jK (VS.s_jN (VS.s_jA x ja4) (2 * x.jsize)) (va_up (va_cpy x.jK (fun _ => 0) 0 0 (min x.jN (2 * x.jsize))) x.jsize kd)) (va_up (va_cpy x.jO (fun _ => 0) 0 0 (min x.jN (2 * x.jsize))) x.jsize w)) (va_up (va_cpy x.jU (fun _ => 0) 0 0 (min x.jN (2 * x.jsize))) x.jsize n)) (va_up (va_cpy x.jB (fun _ => 0) 0 0 (min x.jN (2 * x.jsize))) x.jsize x.jblock)) (va_up (va_cpy x.jF (fun _ => 0) 0 0 (min x.jN (2 * x.jsize))) x.jsize a)) (va_up (va_cpy x.jS (fun _ => 0) 0 0 (min x.jN (2 * x.jsize))) x.jsize b)) (x.jsize + 1)) (x.junits + n)) (x.jfill + n)) true)) := hD
    exact rfV hx hb hr hlk hS (VS.s_jch (VS.s_jfill (VS.s_junits (VS.s_jsize (VS.s_jS (VS.s_jF (VS.s_jB (VS.s_jU (VS.s_jO (VS.s_jK (VS.s_jN (VS.s_jA x ja4) (2 * x.jsize)) (va_up (va_cpy x.jK (fun _ => 0) 0 0 (min x.jN (2 * x.jsize))) x.jsize kd)) (va_up (va_cpy x.jO (fun _ => 0) 0 0 (min x.jN (2 * x.jsize))) x.jsize w)) (va_up (va_cpy x.jU (fun _ => 0) 0 0 (min x.jN (2 * x.jsize))) x.jsize n)) (va_up (va_cpy x.jB (fun _ => 0) 0 0 (min x.jN (2 * x.jsize))) x.jsize x.jblock)) (va_up (va_cpy x.jF (fun _ => 0) 0 0 (min x.jN (2 * x.jsize))) x.jsize a)) (va_up (va_cpy x.jS (fun _ => 0) 0 0 (min x.jN (2 * x.jsize))) x.jsize b)) (x.jsize + 1)) (x.junits + n)) (x.jfill + n)) true) ⟨ja4, by unfold VS.jadF; rw [if_pos g1]; rfl⟩ hP hD (show 0 + 6 ≤ 6 * (x.jcap - x.jN) by omega) (show 0 + (12 * x.jsize) ≤ 12 * (x.jcap - x.jN) by omega) d_J_add_116
def VS.wj1 (x : VS) : VS := VS.s_jch (VS.s_jkept (VS.s_writes (VS.s_cutLeft x (cutF x.cutLeft)) (x.writes + 1)) x.jsize) false
/-- the journal's block written, if it has changed -/
def VS.wjS (x : VS) : VS := if x.jch = true then x.wj1 else x
set_option maxHeartbeats 4000000 in
set_option maxRecDepth 100000 in
theorem v_wjb (l : Launch) (D : va_G) (dA : Nat → ClassId) (sz : Nat) (h : Nat) (ad : Nat → Nat) (x : VS) (hw : x.jch = false ∨ ¬ x.cutLeft = 0) : Met l ⟨"SeriesVault", "writeJournalBlock", "()Z"⟩ [Cond.code ⟨"SeriesVault", "writeJournalBlock", "()Z"⟩ prog_1_method_21_code 1 (some FieldType.boolean)] { frames := 2, cells := 0, slots := 0, locals := 20 } (pC D dA [.ref h] (VW dA h ad x) sz) (va_Qi (fun (r9 : Int32) (u9 : VS) => r9 = bI x.jch ∧ u9 = x.wjS) (fun (u9 : VS) t9 => bW D (va_A (VW dA h ad x) sz) (VW dA h ad u9) t9) (va_A (VW dA h ad x) sz)) 0 0 (va_A (VW dA h ad x) sz) := by
  refine mkC (y := ⟨"SeriesVault", "writeJournalBlock", "()Z"⟩) (cc := prog_1_method_21_code) (maxL := 1) (av := [.ref h]) (ws := VW dA h ad x) (sz := sz) (Qc := fun A => va_Qi (fun (r9 : Int32) (u9 : VS) => r9 = bI x.jch ∧ u9 = x.wjS) (fun (u9 : VS) t9 => bW D A (VW dA h ad u9) t9) A) (by decide) (Nat.le_of_ble_eq_true rfl) ?_
  intro A p e s m below meth c ls hsz hB
  obtain ⟨hx, hb, hr, hml, hown, hin, hlk, hE, hK, hP, hD, hS, hA, hN, hl⟩ := hB
  have hown : s.vm.findClass "SeriesVault" = some m.cls := hown
  have hl : lv_has ls 1 [(0, .ref h)] := hl
  obtain ⟨H, hH⟩ : ∃ z, z = s.heap := ⟨_, rfl⟩
  have hP : va_P D vwCl (VW dA h ad x) H := by rw [hH]; exact hP
  have hS : va_S A s.heap H [] := by rw [hH]; exact hS
  rw [← hH]
  refine lv_aload_n hx hb d_V_writeJournalBlock_0 rfl (lv_at hl 0 rfl) ?_
  refine gF (v := .ref (ad 0)) hx hb hown hE hK hP 0 rfl rfl layV 8 (by decide) w312 rfl d_V_writeJournalBlock_1 ?_
  refine gFN (v := .int (bI x.jch)) hx hb hown hE hK hP 2 rfl rfl layJ 12 (by decide) w313 rfl d_V_writeJournalBlock_4 ?_
  refine lv_if_ne hx hb d_V_writeJournalBlock_7 (tgt := 12) rfl (fun g1 => ?_) (fun g1 => ?_)
  · have g1 := bI_n0 g1
    have hj1 : x.jch = true := g1
    refine lv_aload_n hx hb d_V_writeJournalBlock_12 rfl (lv_at hl 0 rfl) ?_
    refine jfV (rnV (As := []) (rest := []) hx hb hml hown hE hK (hN _ _ hS) hP hD (v_writeBlock l D dA H.size h ad x (hw.resolve_left (by rw [hj1]; decide))) (q0 := 0) rfl rfl w737 w736 w738 w739 w277 rfl rfl ⟨⟨by decide, by decide⟩, rfl⟩ ⟨(Nat.le_of_ble_eq_true rfl), (Nat.le_of_ble_eq_true rfl)⟩ rfl hl.1 rfl (Nat.le_of_ble_eq_true rfl) d_V_writeJournalBlock_13 ⟨(Nat.le_of_ble_eq_true rfl), (Nat.le_of_ble_eq_true rfl)⟩) hP hD hS hA (fun u3 H locs hp9 hP hD hS => ?_)
    have hP : va_P D vwCl (VW dA h ad (VS.s_writes (VS.s_cutLeft x (cutF x.cutLeft)) (x.writes + 1))) H := hP
    have hD : va_D A (VW dA h ad (VS.s_writes (VS.s_cutLeft x (cutF x.cutLeft)) (x.writes + 1))) := hD
    refine lv_aload_n hx hb d_V_writeJournalBlock_16 rfl (lv_at hl 0 rfl) ?_
    refine gF (v := .ref (ad 0)) hx hb hown hE hK hP 0 rfl rfl layV 8 (by decide) w312 rfl d_V_writeJournalBlock_17 ?_
    refine jfV (rnV (As := []) (rest := []) hx hb hml hown hE hK (hN _ _ hS) hP hD (v_keepAll l D dA H.size h ad (VS.s_writes (VS.s_cutLeft x (cutF x.cutLeft)) (x.writes + 1))) (q0 := 2) rfl rfl w1101 w1100 w1102 w1103 w556 rfl rfl ⟨⟨by decide, by decide⟩, rfl⟩ ⟨(Nat.le_of_ble_eq_true rfl), (Nat.le_of_ble_eq_true rfl)⟩ rfl hl.1 rfl (Nat.le_of_ble_eq_true rfl) d_V_writeJournalBlock_20 ⟨(Nat.le_of_ble_eq_true rfl), (Nat.le_of_ble_eq_true rfl)⟩) hP hD hS hA (fun u5 H locs hp9 hP hD hS => ?_)
    have hP : va_P D vwCl (VW dA h ad (VS.s_jch (VS.s_jkept (VS.s_writes (VS.s_cutLeft x (cutF x.cutLeft)) (x.writes + 1)) x.jsize) false)) H := hP
    have hD : va_D A (VW dA h ad (VS.s_jch (VS.s_jkept (VS.s_writes (VS.s_cutLeft x (cutF x.cutLeft)) (x.writes + 1)) x.jsize) false)) := hD
    refine lv_iconst (v := 1) hx hb d_V_writeJournalBlock_23 (by decide) ?_
    exact rfZ hx hb hr (bI_nar true) hlk hS (VS.s_jch (VS.s_jkept (VS.s_writes (VS.s_cutLeft x (cutF x.cutLeft)) (x.writes + 1)) x.jsize) false) ⟨by rw [hj1]; rfl, by unfold VS.wjS; rw [if_pos hj1]; rfl⟩ hP hD (Nat.le_of_ble_eq_true rfl) (Nat.le_of_ble_eq_true rfl) d_V_writeJournalBlock_24
  · have g1 := bI_0 g1
    refine lv_iconst (v := 0) hx hb d_V_writeJournalBlock_10 (by decide) ?_
    exact rfZ hx hb hr (bI_nar false) hlk hS x ⟨by rw [g1]; rfl, by unfold VS.wjS; rw [if_neg (by rw [g1]; decide)]⟩ hP hD (Nat.le_of_ble_eq_true rfl) (Nat.le_of_ble_eq_true rfl) d_V_writeJournalBlock_11
def VS.nbk (x : VS) : VS := VS.s_jfill (VS.s_jblock x (x.jblock + 1)) 0
/-- room made for a record of n units; the record written -/
def VS.wrB (x : VS) (n : Nat) : VS := if x.jfill + n ≤ 126 then x else x.wjS.nbk
def VS.wrF (x : VS) (ja : Nat → Nat) (kd w n : Nat) (a b : Int64) : VS := (x.wrB n).jadF ja kd w n a b
theorem wr_j (x : VS) (n : Nat) : (x.wrB n).jsize = x.jsize ∧ (x.wrB n).jN = x.jN ∧ (x.wrB n).jcap = x.jcap := by
  unfold VS.wrB VS.wjS
  repeat' split
  all_goals exact ⟨rfl, rfl, rfl⟩
theorem d_V_writeRecord_23 : decode prog_1_method_20_code 23 = .ok (.aload_n 0, 1) := by decide +kernel
theorem d_V_writeRecord_24 : decode prog_1_method_20_code 24 = .ok (.getfield 16, 3) := by decide +kernel
theorem d_V_writeRecord_27 : decode prog_1_method_20_code 27 = .ok (.iload_n 1, 1) := by decide +kernel
theorem d_V_writeRecord_28 : decode prog_1_method_20_code 28 = .ok (.iload_n 2, 1) := by decide +kernel
theorem d_V_writeRecord_29 : decode prog_1_method_20_code 29 = .ok (.iload_n 3, 1) := by decide +kernel
theorem d_V_writeRecord_30 : decode prog_1_method_20_code 30 = .ok (.lload 4, 2) := by decide +kernel
theorem d_V_writeRecord_32 : decode prog_1_method_20_code 32 = .ok (.lload 6, 2) := by decide +kernel
theorem d_V_writeRecord_34 : decode prog_1_method_20_code 34 = .ok (.invokevirtual 194, 3) := by decide +kernel
theorem d_V_writeRecord_37 : decode prog_1_method_20_code 37 = .ok (.return_, 1) := by decide +kernel
theorem d_V_writeRecord_0 : decode prog_1_method_20_code 0 = .ok (.aload_n 0, 1) := by decide +kernel
theorem d_V_writeRecord_1 : decode prog_1_method_20_code 1 = .ok (.getfield 16, 3) := by decide +kernel
theorem d_V_writeRecord_4 : decode prog_1_method_20_code 4 = .ok (.iload_n 3, 1) := by decide +kernel
theorem d_V_writeRecord_5 : decode prog_1_method_20_code 5 = .ok (.invokevirtual 183, 3) := by decide +kernel
theorem d_V_writeRecord_8 : decode prog_1_method_20_code 8 = .ok (.ifCond .ne 15, 3) := by decide +kernel
theorem d_V_writeRecord_11 : decode prog_1_method_20_code 11 = .ok (.aload_n 0, 1) := by decide +kernel
theorem d_V_writeRecord_12 : decode prog_1_method_20_code 12 = .ok (.invokevirtual 187, 3) := by decide +kernel
theorem d_V_writeRecord_15 : decode prog_1_method_20_code 15 = .ok (.pop, 1) := by decide +kernel
theorem d_V_writeRecord_16 : decode prog_1_method_20_code 16 = .ok (.aload_n 0, 1) := by decide +kernel
theorem d_V_writeRecord_17 : decode prog_1_method_20_code 17 = .ok (.getfield 16, 3) := by decide +kernel
theorem d_V_writeRecord_20 : decode prog_1_method_20_code 20 = .ok (.invokevirtual 191, 3) := by decide +kernel
theorem w1121 : Cond.methodLink "SeriesVault" 194 ⟨"SeriesVault$Journal", "add", "(IIIJJ)V"⟩ ∈ aW := aw_of (tb_5 (List.mem_of_getElem? (i := 63) rfl)) rfl
theorem w1122 : Cond.code ⟨"SeriesVault$Journal", "add", "(IIIJJ)V"⟩ prog_3_method_7_code 8 none ∈ aW := aw_of (tb_5 (List.mem_of_getElem? (i := 66) rfl)) rfl
theorem w1123 : Cond.instanceMethod ⟨"SeriesVault$Journal", "add", "(IIIJJ)V"⟩ ∈ aW := aw_of (tb_5 (List.mem_of_getElem? (i := 64) rfl)) rfl
theorem w1124 : Cond.selects "SeriesVault$Journal" ⟨"SeriesVault$Journal", "add", "(IIIJJ)V"⟩ ⟨"SeriesVault$Journal", "add", "(IIIJJ)V"⟩ ∈ aW := aw_of (tb_5 (List.mem_of_getElem? (i := 65) rfl)) rfl
theorem w1125 : Cond.methodLink "SeriesVault" 183 ⟨"SeriesVault$Journal", "fitsInBlock", "(I)Z"⟩ ∈ aW := aw_of (tb_5 (List.mem_of_getElem? (i := 46) rfl)) rfl
theorem w1126 : Cond.methodLink "SeriesVault" 191 ⟨"SeriesVault$Journal", "beginNextBlock", "()V"⟩ ∈ aW := aw_of (tb_5 (List.mem_of_getElem? (i := 59) rfl)) rfl
theorem w1127 : Cond.code ⟨"SeriesVault$Journal", "beginNextBlock", "()V"⟩ prog_3_method_6_code 1 none ∈ aW := aw_of (tb_5 (List.mem_of_getElem? (i := 62) rfl)) rfl
theorem w1128 : Cond.instanceMethod ⟨"SeriesVault$Journal", "beginNextBlock", "()V"⟩ ∈ aW := aw_of (tb_5 (List.mem_of_getElem? (i := 60) rfl)) rfl
theorem w1129 : Cond.selects "SeriesVault$Journal" ⟨"SeriesVault$Journal", "beginNextBlock", "()V"⟩ ⟨"SeriesVault$Journal", "beginNextBlock", "()V"⟩ ∈ aW := aw_of (tb_5 (List.mem_of_getElem? (i := 61) rfl)) rfl
set_option maxHeartbeats 4000000 in
set_option maxRecDepth 100000 in
theorem v_writeRecord (l : Launch) (D : va_G) (dA : Nat → ClassId) (sz : Nat) (h : Nat) (ad : Nat → Nat) (x : VS) (kd : Nat) (w : Nat) (n : Nat) (a : Int64) (b : Int64) (hs1 : x.jsize ≤ x.jN) (hs2 : 0 < x.jN) (hs3 : x.jN ≤ 65536) (hfu : x.jfill + n < 2 ^ 31) (hcr : x.jfill + n ≤ 126 ∨ x.jch = false ∨ ¬ x.cutLeft = 0) : Met l ⟨"SeriesVault", "writeRecord", "(IIIJJ)V"⟩ [Cond.code ⟨"SeriesVault", "writeRecord", "(IIIJJ)V"⟩ prog_1_method_20_code 8 none] { frames := 4, cells := 6 * (x.jcap - x.jN), slots := 12 * (x.jcap - x.jN), locals := 109 } (pC D dA [.ref h, .int (nI kd), .int (nI w), .int (nI n), .long a, .long b] (VW dA h ad x) sz) (va_Qv (fun (u9 : VS) => ∃ ja : Nat → Nat, u9 = x.wrF ja kd w n a b) (fun (u9 : VS) t9 => bW D (va_A (VW dA h ad x) sz) (VW dA h ad u9) t9) (va_A (VW dA h ad x) sz)) (6 * (x.jcap - x.jN)) (12 * (x.jcap - x.jN)) (va_A (VW dA h ad x) sz) := by
  refine mkC (y := ⟨"SeriesVault", "writeRecord", "(IIIJJ)V"⟩) (cc := prog_1_method_20_code) (maxL := 8) (av := [.ref h, .int (nI kd), .int (nI w), .int (nI n), .long a, .long b]) (ws := VW dA h ad x) (sz := sz) (Qc := fun A => va_Qv (fun (u9 : VS) => ∃ ja : Nat → Nat, u9 = x.wrF ja kd w n a b) (fun (u9 : VS) t9 => bW D A (VW dA h ad u9) t9) A) (by decide) (Nat.le_of_ble_eq_true rfl) ?_
  intro A p e s m below meth c ls hsz hB
  obtain ⟨hx, hb, hr, hml, hown, hin, hlk, hE, hK, hP, hD, hS, hA, hN, hl⟩ := hB
  have hown : s.vm.findClass "SeriesVault" = some m.cls := hown
  have hl : lv_has ls 8 [(0, .ref h), (1, .int (nI kd)), (2, .int (nI w)), (3, .int (nI n)), (4, .long a), (6, .long b)] := hl
  obtain ⟨H, hH⟩ : ∃ z, z = s.heap := ⟨_, rfl⟩
  have hP : va_P D vwCl (VW dA h ad x) H := by rw [hH]; exact hP
  have hS : va_S A s.heap H [] := by rw [hH]; exact hS
  rw [← hH]
  have J23 : ∀ (z : VS) (ez : z = x.wrB n), ∀ (H : Heap) (locs : List Loc) (ls : Array Slot) (hP : va_P D vwCl (VW dA h ad z) H) (hD : va_D A (VW dA h ad z)) (hS : va_S A s.heap H locs) (hl : lv_has ls 8 [(0, .ref h), (1, .int (nI kd)), (2, .int (nI w)), (3, .int (nI n)), (4, .long a), (6, .long b)]), W p l e ({ frames := 4, cells := 6 * (x.jcap - x.jN), slots := 12 * (x.jcap - x.jN), locals := 109 } : Room) s m ([.ref h, .int (nI kd), .int (nI w), .int (nI n), .long a, .long b] : List Value).toArray below meth c H locs 0 0 (MQ below (va_Qv (fun (u9 : VS) => ∃ ja : Nat → Nat, u9 = x.wrF ja kd w n a b) (fun (u9 : VS) t9 => bW D A (VW dA h ad u9) t9) A) ([.ref h, .int (nI kd), .int (nI w), .int (nI n), .long a, .long b] : List Value).toArray s (6 * (x.jcap - x.jN)) (12 * (x.jcap - x.jN)) A) (F0 m 23 ls []) := by
    intro z ez H locs ls hP hD hS hl
    obtain ⟨z1, z2, z3⟩ := wr_j x n
    rw [← ez] at z1 z2 z3
    refine lv_aload_n hx hb d_V_writeRecord_23 rfl (lv_at hl 0 rfl) ?_
    refine gF (v := .ref (ad 0)) hx hb hown hE hK hP 0 rfl rfl layV 8 (by decide) w312 rfl d_V_writeRecord_24 ?_
    refine lv_iload_n hx hb d_V_writeRecord_27 rfl (lv_at hl 1 rfl) ?_
    refine lv_iload_n hx hb d_V_writeRecord_28 rfl (lv_at hl 2 rfl) ?_
    refine lv_iload_n hx hb d_V_writeRecord_29 rfl (lv_at hl 3 rfl) ?_
    refine lv_lload hx hb d_V_writeRecord_30 (lv_at hl 4 rfl) ?_
    refine lv_lload hx hb d_V_writeRecord_32 (lv_at hl 5 rfl) ?_
    refine jfV (rnV (As := [.int (nI kd), .int (nI w), .int (nI n), .long a, .long b]) (rest := []) hx hb hml hown hE hK (hN _ _ hS) hP hD (v_jadd l D dA H.size h ad z kd w n a b (by rw [z1, z2]; exact hs1) (by rw [z2]; exact hs2) (by rw [z2]; exact hs3)) (q0 := 2) rfl rfl w1122 w1121 w1123 w1124 w556 rfl rfl ⟨⟨by decide, by decide⟩, rfl⟩ ⟨(Nat.le_of_ble_eq_true rfl), (Nat.le_of_ble_eq_true rfl)⟩ rfl hl.1 rfl (Nat.le_of_ble_eq_true rfl) d_V_writeRecord_34 ⟨(show 0 + (6 * (z.jcap - z.jN)) ≤ 6 * (x.jcap - x.jN) by omega), (show 0 + (12 * (z.jcap - z.jN)) ≤ 12 * (x.jcap - x.jN) by omega)⟩) hP hD hS hA (fun u2 H locs hp9 hP hD hS => ?_)
    obtain ⟨y3, h9u⟩ : ∃ z9, z9 = u2 := ⟨_, rfl⟩
    subst h9u
    have hP : va_P D vwCl (VW dA h ad y3) H := hP
    have hD : va_D A (VW dA h ad y3) := hD
    have f_e_4 := hp9
    exact rfV hx hb hr hlk hS y3 (by obtain ⟨ja, h9⟩ := f_e_4; exact ⟨ja, by unfold VS.wrF; rw [← ez]; exact h9⟩) hP hD (show 0 + (6 * (z.jcap - z.jN)) ≤ 6 * (x.jcap - x.jN) by omega) (show 0 + (12 * (z.jcap - z.jN)) ≤ 12 * (x.jcap - x.jN) by omega) d_V_writeRecord_37
  refine lv_aload_n hx hb d_V_writeRecord_0 rfl (lv_at hl 0 rfl) ?_
  refine gF (v := .ref (ad 0)) hx hb hown hE hK hP 0 rfl rfl layV 8 (by decide) w312 rfl d_V_writeRecord_1 ?_
  refine lv_iload_n hx hb d_V_writeRecord_4 rfl (lv_at hl 3 rfl) ?_
  refine jfI (rnV (As := [.int (nI n)]) (rest := []) hx hb hml hown hE hK (hN _ _ hS) hP hD (v_fitsInBlock l D dA H.size h ad x n (show x.jfill + n < 2 ^ 31 from by omega)) (q0 := 2) rfl rfl w1082 w1125 w1083 w1084 w556 rfl rfl ⟨⟨by decide, by decide⟩, rfl⟩ ⟨(Nat.le_of_ble_eq_true rfl), (Nat.le_of_ble_eq_true rfl)⟩ rfl hl.1 rfl (Nat.le_of_ble_eq_true rfl) d_V_writeRecord_5 ⟨(show 0 + 0 ≤ 6 * (x.jcap - x.jN) by omega), (show 0 + 0 ≤ 12 * (x.jcap - x.jN) by omega)⟩) hP hD hS hA (fun r5 u6 H locs hp9 hP hD hS => ?_)
  have hP : va_P D vwCl (VW dA h ad x) H := hP
  have hD : va_D A (VW dA h ad x) := hD
  replace hp9 : bI (decide (x.jfill + n ≤ 126)) = r5 := Eq.symm hp9
  subst hp9
  refine lv_if_ne hx hb d_V_writeRecord_8 (tgt := 23) rfl (fun g7 => ?_) (fun g7 => ?_)
  · have g7 := bI_n0 g7
    exact J23 x (if_pos (of_decide_eq_true g7)).symm H _ ls hP hD hS (lv_sub hl [0, 1, 2, 3, 4, 5] rfl)
  · have g7 := bI_0 g7
    refine lv_aload_n hx hb d_V_writeRecord_11 rfl (lv_at hl 0 rfl) ?_
    refine jfI (rnV (As := []) (rest := []) hx hb hml hown hE hK (hN _ _ hS) hP hD (v_wjb l D dA H.size h ad x (hcr.resolve_left (of_decide_eq_false g7))) (q0 := 0) rfl rfl w315 w314 w316 w317 w277 rfl rfl ⟨⟨by decide, by decide⟩, rfl⟩ ⟨(Nat.le_of_ble_eq_true rfl), (Nat.le_of_ble_eq_true rfl)⟩ rfl hl.1 rfl (Nat.le_of_ble_eq_true rfl) d_V_writeRecord_12 ⟨(show 0 + 0 + 0 ≤ 6 * (x.jcap - x.jN) by omega), (show 0 + 0 + 0 ≤ 12 * (x.jcap - x.jN) by omega)⟩) hP hD hS hA (fun r8 u9 H locs hp9 hP hD hS => ?_)
    obtain ⟨y10, h9u⟩ : ∃ z9, z9 = u9 := ⟨_, rfl⟩
    subst h9u
    have hP : va_P D vwCl (VW dA h ad y10) H := hP
    have hD : va_D A (VW dA h ad y10) := hD
    obtain ⟨hp9, f_e_11⟩ := hp9
    replace hp9 : bI x.jch = r8 := Eq.symm hp9
    subst hp9
    refine lv_pop hx hb d_V_writeRecord_15 rfl ?_
    refine lv_aload_n hx hb d_V_writeRecord_16 rfl (lv_at hl 0 rfl) ?_
    refine gF (v := .ref (ad 0)) hx hb hown hE hK hP 0 rfl rfl layV 8 (by decide) w312 rfl d_V_writeRecord_17 ?_
    refine jfV (rnV (As := []) (rest := []) hx hb hml hown hE hK (hN _ _ hS) hP hD (v_beginNextBlock l D dA H.size h ad y10) (q0 := 2) rfl rfl w1127 w1126 w1128 w1129 w556 rfl rfl ⟨⟨by decide, by decide⟩, rfl⟩ ⟨(Nat.le_of_ble_eq_true rfl), (Nat.le_of_ble_eq_true rfl)⟩ rfl hl.1 rfl (Nat.le_of_ble_eq_true rfl) d_V_writeRecord_20 ⟨(show 0 + 0 + 0 + 0 ≤ 6 * (x.jcap - x.jN) by omega), (show 0 + 0 + 0 + 0 ≤ 12 * (x.jcap - x.jN) by omega)⟩) hP hD hS hA (fun u13 H locs hp9 hP hD hS => ?_)
    have hP : va_P D vwCl (VW dA h ad (VS.s_jfill (VS.s_jblock y10 (y10.jblock + 1)) 0)) H := hP
    have hD : va_D A (VW dA h ad (VS.s_jfill (VS.s_jblock y10 (y10.jblock + 1)) 0)) := hD
    exact J23 (VS.s_jfill (VS.s_jblock y10 (y10.jblock + 1)) 0) (by unfold VS.wrB; rw [if_neg (of_decide_eq_false g7)]; show _ = VS.nbk x.wjS; rw [← f_e_11]; rfl) H _ ls hP hD hS (lv_sub hl [0, 1, 2, 3, 4, 5] rfl)
