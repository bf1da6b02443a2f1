def jnB (sg : Int32) (ia ib : Bool) (y : Int64) : Bool := ia && (ib && ((!decide (sg = 47) && !decide (sg = 37)) || !decide (y = 0)))
def jnW (sg : Int32) (b : Bool) (u y : Int64) : Int64 := if b = false then 0 else if sg = 43 then u + y else if sg = 45 then u - y else if sg = 42 then u * y else if sg = 47 then u / y else u - u / y * y
def isOp (sg : Int32) : Prop := sg = 43 ∨ sg = 45 ∨ sg = 42 ∨ sg = 47 ∨ sg = 37
theorem jn_nz {sg : Int32} {ia ib v : Bool} {y : Int64} (h : jnB sg ia ib y = v) (hv : v = true) (hs : sg = 47 ∨ sg = 37) : ¬ y = 0 := by
  subst hv
  intro e
  subst e
  unfold jnB at h
  rcases hs with hs | hs <;> subst hs <;> revert h <;> cases ia <;> cases ib <;> decide
theorem d_M_join_48 : decode prog_14_method_74_code 48 = .ok (.istore 5, 2) := by decide +kernel
theorem d_M_join_50 : decode prog_14_method_74_code 50 = .ok (.aload_n 0, 1) := by decide +kernel
theorem d_M_join_51 : decode prog_14_method_74_code 51 = .ok (.getfield 104, 3) := by decide +kernel
theorem d_M_join_54 : decode prog_14_method_74_code 54 = .ok (.iload_n 3, 1) := by decide +kernel
theorem d_M_join_55 : decode prog_14_method_74_code 55 = .ok (.laload, 1) := by decide +kernel
theorem d_M_join_56 : decode prog_14_method_74_code 56 = .ok (.lstore 6, 2) := by decide +kernel
theorem d_M_join_58 : decode prog_14_method_74_code 58 = .ok (.aload_n 0, 1) := by decide +kernel
theorem d_M_join_59 : decode prog_14_method_74_code 59 = .ok (.getfield 104, 3) := by decide +kernel
theorem d_M_join_62 : decode prog_14_method_74_code 62 = .ok (.iload 4, 2) := by decide +kernel
theorem d_M_join_64 : decode prog_14_method_74_code 64 = .ok (.laload, 1) := by decide +kernel
theorem d_M_join_65 : decode prog_14_method_74_code 65 = .ok (.lstore 8, 2) := by decide +kernel
theorem d_M_join_67 : decode prog_14_method_74_code 67 = .ok (.aload_n 0, 1) := by decide +kernel
theorem d_M_join_68 : decode prog_14_method_74_code 68 = .ok (.getfield 107, 3) := by decide +kernel
theorem d_M_join_71 : decode prog_14_method_74_code 71 = .ok (.iload_n 2, 1) := by decide +kernel
theorem d_M_join_72 : decode prog_14_method_74_code 72 = .ok (.iload 5, 2) := by decide +kernel
theorem d_M_join_74 : decode prog_14_method_74_code 74 = .ok (.bastore, 1) := by decide +kernel
theorem d_M_join_75 : decode prog_14_method_74_code 75 = .ok (.aload_n 0, 1) := by decide +kernel
theorem d_M_join_76 : decode prog_14_method_74_code 76 = .ok (.getfield 104, 3) := by decide +kernel
theorem d_M_join_79 : decode prog_14_method_74_code 79 = .ok (.iload_n 2, 1) := by decide +kernel
theorem d_M_join_150 : decode prog_14_method_74_code 150 = .ok (.lastore, 1) := by decide +kernel
theorem d_M_join_151 : decode prog_14_method_74_code 151 = .ok (.return_, 1) := by decide +kernel
theorem d_M_join_80 : decode prog_14_method_74_code 80 = .ok (.iload 5, 2) := by decide +kernel
theorem d_M_join_82 : decode prog_14_method_74_code 82 = .ok (.ifCond .ne 7, 3) := by decide +kernel
theorem d_M_join_89 : decode prog_14_method_74_code 89 = .ok (.iload_n 1, 1) := by decide +kernel
theorem d_M_join_90 : decode prog_14_method_74_code 90 = .ok (.bipush 43, 2) := by decide +kernel
theorem d_M_join_92 : decode prog_14_method_74_code 92 = .ok (.if_icmp .ne 11, 3) := by decide +kernel
theorem d_M_join_103 : decode prog_14_method_74_code 103 = .ok (.iload_n 1, 1) := by decide +kernel
theorem d_M_join_104 : decode prog_14_method_74_code 104 = .ok (.bipush 45, 2) := by decide +kernel
theorem d_M_join_106 : decode prog_14_method_74_code 106 = .ok (.if_icmp .ne 11, 3) := by decide +kernel
theorem d_M_join_117 : decode prog_14_method_74_code 117 = .ok (.iload_n 1, 1) := by decide +kernel
theorem d_M_join_118 : decode prog_14_method_74_code 118 = .ok (.bipush 42, 2) := by decide +kernel
theorem d_M_join_120 : decode prog_14_method_74_code 120 = .ok (.if_icmp .ne 11, 3) := by decide +kernel
theorem d_M_join_131 : decode prog_14_method_74_code 131 = .ok (.iload_n 1, 1) := by decide +kernel
theorem d_M_join_132 : decode prog_14_method_74_code 132 = .ok (.bipush 47, 2) := by decide +kernel
theorem d_M_join_134 : decode prog_14_method_74_code 134 = .ok (.if_icmp .ne 11, 3) := by decide +kernel
theorem d_M_join_145 : decode prog_14_method_74_code 145 = .ok (.lload 6, 2) := by decide +kernel
theorem d_M_join_147 : decode prog_14_method_74_code 147 = .ok (.lload 8, 2) := by decide +kernel
theorem d_M_join_149 : decode prog_14_method_74_code 149 = .ok (.lrem, 1) := by decide +kernel
theorem d_M_join_137 : decode prog_14_method_74_code 137 = .ok (.lload 6, 2) := by decide +kernel
theorem d_M_join_139 : decode prog_14_method_74_code 139 = .ok (.lload 8, 2) := by decide +kernel
theorem d_M_join_141 : decode prog_14_method_74_code 141 = .ok (.ldiv, 1) := by decide +kernel
theorem d_M_join_142 : decode prog_14_method_74_code 142 = .ok (.goto 8, 3) := by decide +kernel
theorem d_M_join_123 : decode prog_14_method_74_code 123 = .ok (.lload 6, 2) := by decide +kernel
theorem d_M_join_125 : decode prog_14_method_74_code 125 = .ok (.lload 8, 2) := by decide +kernel
theorem d_M_join_127 : decode prog_14_method_74_code 127 = .ok (.lmul, 1) := by decide +kernel
theorem d_M_join_128 : decode prog_14_method_74_code 128 = .ok (.goto 22, 3) := by decide +kernel
theorem d_M_join_109 : decode prog_14_method_74_code 109 = .ok (.lload 6, 2) := by decide +kernel
theorem d_M_join_111 : decode prog_14_method_74_code 111 = .ok (.lload 8, 2) := by decide +kernel
theorem d_M_join_113 : decode prog_14_method_74_code 113 = .ok (.lsub, 1) := by decide +kernel
theorem d_M_join_114 : decode prog_14_method_74_code 114 = .ok (.goto 36, 3) := by decide +kernel
theorem d_M_join_95 : decode prog_14_method_74_code 95 = .ok (.lload 6, 2) := by decide +kernel
theorem d_M_join_97 : decode prog_14_method_74_code 97 = .ok (.lload 8, 2) := by decide +kernel
theorem d_M_join_99 : decode prog_14_method_74_code 99 = .ok (.ladd, 1) := by decide +kernel
theorem d_M_join_100 : decode prog_14_method_74_code 100 = .ok (.goto 50, 3) := by decide +kernel
theorem d_M_join_85 : decode prog_14_method_74_code 85 = .ok (.lconst 0, 1) := by decide +kernel
theorem d_M_join_86 : decode prog_14_method_74_code 86 = .ok (.goto 64, 3) := by decide +kernel
theorem d_M_join_0 : decode prog_14_method_74_code 0 = .ok (.aload_n 0, 1) := by decide +kernel
theorem d_M_join_1 : decode prog_14_method_74_code 1 = .ok (.getfield 107, 3) := by decide +kernel
theorem d_M_join_4 : decode prog_14_method_74_code 4 = .ok (.iload_n 3, 1) := by decide +kernel
theorem d_M_join_5 : decode prog_14_method_74_code 5 = .ok (.baload, 1) := by decide +kernel
theorem d_M_join_6 : decode prog_14_method_74_code 6 = .ok (.ifCond .eq 41, 3) := by decide +kernel
theorem d_M_join_47 : decode prog_14_method_74_code 47 = .ok (.iconst 0, 1) := by decide +kernel
theorem d_M_join_9 : decode prog_14_method_74_code 9 = .ok (.aload_n 0, 1) := by decide +kernel
theorem d_M_join_10 : decode prog_14_method_74_code 10 = .ok (.getfield 107, 3) := by decide +kernel
theorem d_M_join_13 : decode prog_14_method_74_code 13 = .ok (.iload 4, 2) := by decide +kernel
theorem d_M_join_15 : decode prog_14_method_74_code 15 = .ok (.baload, 1) := by decide +kernel
theorem d_M_join_16 : decode prog_14_method_74_code 16 = .ok (.ifCond .eq 31, 3) := by decide +kernel
theorem d_M_join_19 : decode prog_14_method_74_code 19 = .ok (.iload_n 1, 1) := by decide +kernel
theorem d_M_join_20 : decode prog_14_method_74_code 20 = .ok (.bipush 47, 2) := by decide +kernel
theorem d_M_join_22 : decode prog_14_method_74_code 22 = .ok (.if_icmp .eq 9, 3) := by decide +kernel
theorem d_M_join_31 : decode prog_14_method_74_code 31 = .ok (.aload_n 0, 1) := by decide +kernel
theorem d_M_join_32 : decode prog_14_method_74_code 32 = .ok (.getfield 104, 3) := by decide +kernel
theorem d_M_join_35 : decode prog_14_method_74_code 35 = .ok (.iload 4, 2) := by decide +kernel
theorem d_M_join_37 : decode prog_14_method_74_code 37 = .ok (.laload, 1) := by decide +kernel
theorem d_M_join_38 : decode prog_14_method_74_code 38 = .ok (.lconst 0, 1) := by decide +kernel
theorem d_M_join_39 : decode prog_14_method_74_code 39 = .ok (.lcmp, 1) := by decide +kernel
theorem d_M_join_40 : decode prog_14_method_74_code 40 = .ok (.ifCond .eq 7, 3) := by decide +kernel
theorem d_M_join_43 : decode prog_14_method_74_code 43 = .ok (.iconst 1, 1) := by decide +kernel
theorem d_M_join_44 : decode prog_14_method_74_code 44 = .ok (.goto 4, 3) := by decide +kernel
theorem d_M_join_25 : decode prog_14_method_74_code 25 = .ok (.iload_n 1, 1) := by decide +kernel
theorem d_M_join_26 : decode prog_14_method_74_code 26 = .ok (.bipush 37, 2) := by decide +kernel
theorem d_M_join_28 : decode prog_14_method_74_code 28 = .ok (.if_icmp .ne 15, 3) := by decide +kernel
set_option maxHeartbeats 4000000 in
set_option maxRecDepth 100000 in
theorem k_join (l : Launch) (D : va_G) (dA : Nat → ClassId) (sz : Nat) (h : Nat) (ad : Nat → Nat) (x : MS) (sg : Int32) (w : Nat) (a : Nat) (b : Nat) (hsg : isOp sg) (hw : w < 327680) (ha : a < 327680) (hb2 : b < 327680) : Met l ⟨"SeriesVaultModel", "join", "(IIII)V"⟩ [Cond.code ⟨"SeriesVaultModel", "join", "(IIII)V"⟩ prog_14_method_74_code 10 none] { frames := 1, cells := 0, slots := 0, locals := 0 } (pC D dA [.ref h, .int sg, .int (nI w), .int (nI a), .int (nI b)] (MW dA h ad x) sz) (va_Qv (fun (u9 : Unit) => True) (fun (u9 : Unit) t9 => bW D (va_A (MW dA h ad x) sz) (MW dA h ad (MS.s_isCell (MS.s_cells x (va_up x.cells w (jnW sg (jnB sg (x.isCell a) (x.isCell b) (x.cells b)) (x.cells a) (x.cells b)))) (va_up x.isCell w (jnB sg (x.isCell a) (x.isCell b) (x.cells b))))) t9) (va_A (MW dA h ad x) sz)) 0 0 (va_A (MW dA h ad x) sz) := by
  refine mkC (y := ⟨"SeriesVaultModel", "join", "(IIII)V"⟩) (cc := prog_14_method_74_code) (maxL := 10) (av := [.ref h, .int sg, .int (nI w), .int (nI a), .int (nI b)]) (ws := MW dA h ad x) (sz := sz) (Qc := fun A => va_Qv (fun (u9 : Unit) => True) (fun (u9 : Unit) t9 => bW D A (MW dA h ad (MS.s_isCell (MS.s_cells x (va_up x.cells w (jnW sg (jnB sg (x.isCell a) (x.isCell b) (x.cells b)) (x.cells a) (x.cells b)))) (va_up x.isCell w (jnB sg (x.isCell a) (x.isCell b) (x.cells b))))) t9) A) (by decide) (Nat.le_of_ble_eq_true rfl) ?_
  intro A p e s m below meth c ls hsz hB
  obtain ⟨hx, hb, hr, hml, hown, hin, hlk, hE, hK, hP, hD, hS, hA, hN, hl⟩ := hB
  have hown : s.vm.findClass "SeriesVaultModel" = some m.cls := hown
  have hl : lv_has ls 10 [(0, .ref h), (1, .int sg), (2, .int (nI w)), (3, .int (nI a)), (4, .int (nI b))] := hl
  obtain ⟨H, hH⟩ : ∃ z, z = s.heap := ⟨_, rfl⟩
  have hP : va_P D vwCl (MW dA h ad x) H := by rw [hH]; exact hP
  have hS : va_S A s.heap H [] := by rw [hH]; exact hS
  rw [← hH]
  have J48 : ∀ (v : Bool) (j1 : jnB sg (x.isCell a) (x.isCell b) (x.cells b) = v), ∀ (H : Heap) (locs : List Loc) (ls : Array Slot) (hP : va_P D vwCl (MW dA h ad x) H) (hD : va_D A (MW dA h ad x)) (hS : va_S A s.heap H locs) (hl : lv_has ls 10 [(1, .int sg), (2, .int (nI w)), (3, .int (nI a)), (4, .int (nI b)), (0, .ref h)]), W p l e ({ frames := 1, cells := 0, slots := 0, locals := 0 } : Room) s m ([.ref h, .int sg, .int (nI w), .int (nI a), .int (nI b)] : List Value).toArray below meth c H locs 0 0 (MQ below (va_Qv (fun (u9 : Unit) => True) (fun (u9 : Unit) t9 => bW D A (MW dA h ad (MS.s_isCell (MS.s_cells x (va_up x.cells w (jnW sg (jnB sg (x.isCell a) (x.isCell b) (x.cells b)) (x.cells a) (x.cells b)))) (va_up x.isCell w (jnB sg (x.isCell a) (x.isCell b) (x.cells b))))) t9) A) ([.ref h, .int sg, .int (nI w), .int (nI a), .int (nI b)] : List Value).toArray s 0 0 A) (F0 m 48 ls [.int (bI v)]) := by
    intro v j1 H locs ls hP hD hS hl
    refine lv_istore hx hb d_M_join_48 hl (by decide) rfl (fun ls hl => ?_)
    have hl : lv_has ls 10 [(5, .int (bI v)), (1, .int sg), (2, .int (nI w)), (3, .int (nI a)), (4, .int (nI b)), (0, .ref h)] := hl
    refine lv_aload_n hx hb d_M_join_50 rfl (lv_at hl 5 rfl) ?_
    refine gF (v := .ref (ad 53)) hx hb hown hE hK hP 0 rfl rfl layM 53 (by decide) w524 rfl d_M_join_51 ?_
    refine lv_iload_n hx hb d_M_join_54 rfl (lv_at hl 3 rfl) ?_
    refine nlld (f := x.cells) hx hb hK hP 26 2 rfl rfl (a) (by omega) (by decide) d_M_join_55 ?_
    refine lv_lstore hx hb d_M_join_56 hl (by decide) rfl (fun ls hl => ?_)
    have hl : lv_has ls 10 [(6, .long (x.cells a)), (5, .int (bI v)), (1, .int sg), (2, .int (nI w)), (3, .int (nI a)), (4, .int (nI b)), (0, .ref h)] := hl
    refine lv_aload_n hx hb d_M_join_58 rfl (lv_at hl 6 rfl) ?_
    refine gF (v := .ref (ad 53)) hx hb hown hE hK hP 0 rfl rfl layM 53 (by decide) w524 rfl d_M_join_59 ?_
    refine lv_iload hx hb d_M_join_62 (lv_at hl 5 rfl) ?_
    refine nlld (f := x.cells) hx hb hK hP 26 2 rfl rfl (b) (by omega) (by decide) d_M_join_64 ?_
    refine lv_lstore hx hb d_M_join_65 hl (by decide) rfl (fun ls hl => ?_)
    have hl : lv_has ls 10 [(8, .long (x.cells b)), (6, .long (x.cells a)), (5, .int (bI v)), (1, .int sg), (2, .int (nI w)), (3, .int (nI a)), (4, .int (nI b)), (0, .ref h)] := hl
    refine lv_aload_n hx hb d_M_join_67 rfl (lv_at hl 7 rfl) ?_
    refine gF (v := .ref (ad 54)) hx hb hown hE hK hP 0 rfl rfl layM 54 (by decide) w526 rfl d_M_join_68 ?_
    refine lv_iload_n hx hb d_M_join_71 rfl (lv_at hl 4 rfl) ?_
    refine lv_iload hx hb d_M_join_72 (lv_at hl 2 rfl) ?_
    refine nzstB (v := v) hx hb hK hP hD hS 27 3 rfl rfl (w) (by omega) (by decide) d_M_join_74 (fun H locs hP hD hS => ?_)
    have hP : va_P D vwCl (MW dA h ad (MS.s_isCell x (va_up x.isCell w v))) H := hP
    have hD : va_D A (MW dA h ad (MS.s_isCell x (va_up x.isCell w v))) := hD
    refine lv_aload_n hx hb d_M_join_75 rfl (lv_at hl 7 rfl) ?_
    refine gF (v := .ref (ad 53)) hx hb hown hE hK hP 0 rfl rfl layM 53 (by decide) w524 rfl d_M_join_76 ?_
    refine lv_iload_n hx hb d_M_join_79 rfl (lv_at hl 4 rfl) ?_
    have J150 : ∀ (m7 : Int64) (j2 : jnW sg v (x.cells a) (x.cells b) = m7), ∀ (H : Heap) (locs : List Loc) (ls : Array Slot) (hP : va_P D vwCl (MW dA h ad (MS.s_isCell x (va_up x.isCell w v))) H) (hD : va_D A (MW dA h ad (MS.s_isCell x (va_up x.isCell w v)))) (hS : va_S A s.heap H locs) (hl : lv_has ls 10 [(8, .long (x.cells b)), (6, .long (x.cells a)), (5, .int (bI v)), (1, .int sg), (2, .int (nI w)), (3, .int (nI a)), (4, .int (nI b)), (0, .ref h)]), W p l e ({ frames := 1, cells := 0, slots := 0, locals := 0 } : Room) s m ([.ref h, .int sg, .int (nI w), .int (nI a), .int (nI b)] : List Value).toArray below meth c H locs 0 0 (MQ below (va_Qv (fun (u9 : Unit) => True) (fun (u9 : Unit) t9 => bW D A (MW dA h ad (MS.s_isCell (MS.s_cells x (va_up x.cells w (jnW sg (jnB sg (x.isCell a) (x.isCell b) (x.cells b)) (x.cells a) (x.cells b)))) (va_up x.isCell w (jnB sg (x.isCell a) (x.isCell b) (x.cells b))))) t9) A) ([.ref h, .int sg, .int (nI w), .int (nI a), .int (nI b)] : List Value).toArray s 0 0 A) (F0 m 150 ls [.long m7, .int (nI w), .ref (ad 53)]) := by
      intro m7 j2 H locs ls hP hD hS hl
      refine nlst hx hb hK hP hD hS 26 2 rfl rfl (w) (by omega) (by decide) d_M_join_150 (fun H locs hP hD hS => ?_)
      have hP : va_P D vwCl (MW dA h ad (MS.s_isCell (MS.s_cells x (va_up x.cells w m7)) (va_up x.isCell w v))) H := hP
      have hD : va_D A (MW dA h ad (MS.s_isCell (MS.s_cells x (va_up x.cells w m7)) (va_up x.isCell w v))) := hD
      have e9 : (MS.s_isCell (MS.s_cells x (va_up x.cells w m7)) (va_up x.isCell w v) : MS) = MS.s_isCell (MS.s_cells x (va_up x.cells w (jnW sg (jnB sg (x.isCell a) (x.isCell b) (x.cells b)) (x.cells a) (x.cells b)))) (va_up x.isCell w (jnB sg (x.isCell a) (x.isCell b) (x.cells b))) := by rw [show (va_up x.cells w (jnW sg (jnB sg (x.isCell a) (x.isCell b) (x.cells b)) (x.cells a) (x.cells b))) = (va_up x.cells w m7) from by (rw [j1, j2]), show (va_up x.isCell w (jnB sg (x.isCell a) (x.isCell b) (x.cells b))) = (va_up x.isCell w v) from by (rw [j1])] <;> rfl
      exact rfV hx hb hr hlk hS () trivial (cvP e9 hP) (cvD e9 hD) (Nat.le_of_ble_eq_true rfl) (Nat.le_of_ble_eq_true rfl) d_M_join_151
    refine lv_iload hx hb d_M_join_80 (lv_at hl 2 rfl) ?_
    refine lv_if_ne hx hb d_M_join_82 (tgt := 89) rfl (fun g1 => ?_) (fun g1 => ?_)
    · have g1 := bI_n0 g1
      refine lv_iload_n hx hb d_M_join_89 rfl (lv_at hl 3 rfl) ?_
      refine lv_bipush (v := 43) hx hb d_M_join_90 (by decide) ?_
      refine lv_icmp_ne hx hb d_M_join_92 (tgt := 103) rfl (fun g2 => ?_) (fun g2 => ?_)
      · have g2 := g2
        refine lv_iload_n hx hb d_M_join_103 rfl (lv_at hl 3 rfl) ?_
        refine lv_bipush (v := 45) hx hb d_M_join_104 (by decide) ?_
        refine lv_icmp_ne hx hb d_M_join_106 (tgt := 117) rfl (fun g3 => ?_) (fun g3 => ?_)
        · have g3 := g3
          refine lv_iload_n hx hb d_M_join_117 rfl (lv_at hl 3 rfl) ?_
          refine lv_bipush (v := 42) hx hb d_M_join_118 (by decide) ?_
          refine lv_icmp_ne hx hb d_M_join_120 (tgt := 131) rfl (fun g4 => ?_) (fun g4 => ?_)
          · have g4 := g4
            refine lv_iload_n hx hb d_M_join_131 rfl (lv_at hl 3 rfl) ?_
            refine lv_bipush (v := 47) hx hb d_M_join_132 (by decide) ?_
            refine lv_icmp_ne hx hb d_M_join_134 (tgt := 145) rfl (fun g5 => ?_) (fun g5 => ?_)
            · have g5 := g5
              refine lv_lload hx hb d_M_join_145 (lv_at hl 1 rfl) ?_
              refine lv_lload hx hb d_M_join_147 (lv_at hl 0 rfl) ?_
              refine lv_lrem hx hb d_M_join_149 (jn_nz j1 g1 (Or.inr ((((hsg.resolve_left g2).resolve_left g3).resolve_left g4).resolve_left g5))) ?_
              exact J150 ((x.cells a) - (x.cells a) / (x.cells b) * (x.cells b)) (by unfold jnW; rw [if_neg (by rw [g1]; decide), if_neg g2, if_neg g3, if_neg g4, if_neg g5]) H _ ls hP hD hS (lv_sub hl [0, 1, 2, 3, 4, 5, 6, 7] rfl)
            · have g5 := g5
              refine lv_lload hx hb d_M_join_137 (lv_at hl 1 rfl) ?_
              refine lv_lload hx hb d_M_join_139 (lv_at hl 0 rfl) ?_
              refine lv_ldiv hx hb d_M_join_141 (jn_nz j1 g1 (Or.inl g5)) ?_
              refine lv_goto hx hb d_M_join_142 (tgt := 150) rfl ?_
              exact J150 ((x.cells a) / (x.cells b)) (by unfold jnW; rw [if_neg (by rw [g1]; decide), if_neg g2, if_neg g3, if_neg g4, if_pos g5]) H _ ls hP hD hS (lv_sub hl [0, 1, 2, 3, 4, 5, 6, 7] rfl)
          · have g4 := g4
            refine lv_lload hx hb d_M_join_123 (lv_at hl 1 rfl) ?_
            refine lv_lload hx hb d_M_join_125 (lv_at hl 0 rfl) ?_
            refine lv_lmul hx hb d_M_join_127 ?_
            refine lv_goto hx hb d_M_join_128 (tgt := 150) rfl ?_
            exact J150 ((x.cells a) * (x.cells b)) (by unfold jnW; rw [if_neg (by rw [g1]; decide), if_neg g2, if_neg g3, if_pos g4]) H _ ls hP hD hS (lv_sub hl [0, 1, 2, 3, 4, 5, 6, 7] rfl)
        · have g3 := g3
          refine lv_lload hx hb d_M_join_109 (lv_at hl 1 rfl) ?_
          refine lv_lload hx hb d_M_join_111 (lv_at hl 0 rfl) ?_
          refine lv_lsub hx hb d_M_join_113 ?_
          refine lv_goto hx hb d_M_join_114 (tgt := 150) rfl ?_
          exact J150 ((x.cells a) - (x.cells b)) (by unfold jnW; rw [if_neg (by rw [g1]; decide), if_neg g2, if_pos g3]) H _ ls hP hD hS (lv_sub hl [0, 1, 2, 3, 4, 5, 6, 7] rfl)
      · have g2 := g2
        refine lv_lload hx hb d_M_join_95 (lv_at hl 1 rfl) ?_
        refine lv_lload hx hb d_M_join_97 (lv_at hl 0 rfl) ?_
        refine lv_ladd hx hb d_M_join_99 ?_
        refine lv_goto hx hb d_M_join_100 (tgt := 150) rfl ?_
        exact J150 ((x.cells a) + (x.cells b)) (by unfold jnW; rw [if_neg (by rw [g1]; decide), if_pos g2]) H _ ls hP hD hS (lv_sub hl [0, 1, 2, 3, 4, 5, 6, 7] rfl)
    · have g1 := bI_0 g1
      refine lv_lconst (v := 0) hx hb d_M_join_85 (by decide) ?_
      refine lv_goto hx hb d_M_join_86 (tgt := 150) rfl ?_
      exact J150 0 (if_pos g1) H _ ls hP hD hS (lv_sub hl [0, 1, 2, 3, 4, 5, 6, 7] rfl)
  refine lv_aload_n hx hb d_M_join_0 rfl (lv_at hl 0 rfl) ?_
  refine gF (v := .ref (ad 54)) hx hb hown hE hK hP 0 rfl rfl layM 54 (by decide) w526 rfl d_M_join_1 ?_
  refine lv_iload_n hx hb d_M_join_4 rfl (lv_at hl 3 rfl) ?_
  refine nzld (f := (fun z9 => bI (x.isCell z9))) hx hb hK hP 27 3 rfl rfl (a) (by omega) (by decide) d_M_join_5 ?_
  refine lv_if_eq hx hb d_M_join_6 (tgt := 47) rfl (fun g6 => ?_) (fun g6 => ?_)
  · have g6 := bI_0 g6
    refine lv_iconst (v := 0) hx hb d_M_join_47 (by decide) ?_
    exact J48 false (by simp [jnB, *]) H _ ls hP hD hS (lv_sub hl [1, 2, 3, 4, 0] rfl)
  · have g6 := bI_n0 g6
    refine lv_aload_n hx hb d_M_join_9 rfl (lv_at hl 0 rfl) ?_
    refine gF (v := .ref (ad 54)) hx hb hown hE hK hP 0 rfl rfl layM 54 (by decide) w526 rfl d_M_join_10 ?_
    refine lv_iload hx hb d_M_join_13 (lv_at hl 4 rfl) ?_
    refine nzld (f := (fun z9 => bI (x.isCell z9))) hx hb hK hP 27 3 rfl rfl (b) (by omega) (by decide) d_M_join_15 ?_
    refine lv_if_eq hx hb d_M_join_16 (tgt := 47) rfl (fun g7 => ?_) (fun g7 => ?_)
    · have g7 := bI_0 g7
      refine lv_iconst (v := 0) hx hb d_M_join_47 (by decide) ?_
      exact J48 false (by simp [jnB, *]) H _ ls hP hD hS (lv_sub hl [1, 2, 3, 4, 0] rfl)
    · have g7 := bI_n0 g7
      refine lv_iload_n hx hb d_M_join_19 rfl (lv_at hl 1 rfl) ?_
      refine lv_bipush (v := 47) hx hb d_M_join_20 (by decide) ?_
      refine lv_icmp_eq hx hb d_M_join_22 (tgt := 31) rfl (fun g8 => ?_) (fun g8 => ?_)
      · have g8 := g8
        refine lv_aload_n hx hb d_M_join_31 rfl (lv_at hl 0 rfl) ?_
        refine gF (v := .ref (ad 53)) hx hb hown hE hK hP 0 rfl rfl layM 53 (by decide) w524 rfl d_M_join_32 ?_
        refine lv_iload hx hb d_M_join_35 (lv_at hl 4 rfl) ?_
        refine nlld (f := x.cells) hx hb hK hP 26 2 rfl rfl (b) (by omega) (by decide) d_M_join_37 ?_
        refine lv_lconst (v := 0) hx hb d_M_join_38 (by decide) ?_
        refine W.lcmp hx hb d_M_join_39 ?_
        refine lv_if_eq hx hb d_M_join_40 (tgt := 47) rfl (fun g9 => ?_) (fun g9 => ?_)
        · have g9 := (lg_cmp_eq _ _).mp g9
          refine lv_iconst (v := 0) hx hb d_M_join_47 (by decide) ?_
          exact J48 false (by simp [jnB, *]) H _ ls hP hD hS (lv_sub hl [1, 2, 3, 4, 0] rfl)
        · have g9 := mt (lg_cmp_eq _ _).mpr g9
          refine lv_iconst (v := 1) hx hb d_M_join_43 (by decide) ?_
          refine lv_goto hx hb d_M_join_44 (tgt := 48) rfl ?_
          exact J48 true (by simp [jnB, *]) H _ ls hP hD hS (lv_sub hl [1, 2, 3, 4, 0] rfl)
      · have g8 := g8
        refine lv_iload_n hx hb d_M_join_25 rfl (lv_at hl 1 rfl) ?_
        refine lv_bipush (v := 37) hx hb d_M_join_26 (by decide) ?_
        refine lv_icmp_ne hx hb d_M_join_28 (tgt := 43) rfl (fun g10 => ?_) (fun g10 => ?_)
        · have g10 := g10
          refine lv_iconst (v := 1) hx hb d_M_join_43 (by decide) ?_
          refine lv_goto hx hb d_M_join_44 (tgt := 48) rfl ?_
          exact J48 true (by simp [jnB, *]) H _ ls hP hD hS (lv_sub hl [1, 2, 3, 4, 0] rfl)
        · have g10 := g10
          refine lv_aload_n hx hb d_M_join_31 rfl (lv_at hl 0 rfl) ?_
          refine gF (v := .ref (ad 53)) hx hb hown hE hK hP 0 rfl rfl layM 53 (by decide) w524 rfl d_M_join_32 ?_
          refine lv_iload hx hb d_M_join_35 (lv_at hl 4 rfl) ?_
          refine nlld (f := x.cells) hx hb hK hP 26 2 rfl rfl (b) (by omega) (by decide) d_M_join_37 ?_
          refine lv_lconst (v := 0) hx hb d_M_join_38 (by decide) ?_
          refine W.lcmp hx hb d_M_join_39 ?_
          refine lv_if_eq hx hb d_M_join_40 (tgt := 47) rfl (fun g11 => ?_) (fun g11 => ?_)
          · have g11 := (lg_cmp_eq _ _).mp g11
            refine lv_iconst (v := 0) hx hb d_M_join_47 (by decide) ?_
            exact J48 false (by simp [jnB, *]) H _ ls hP hD hS (lv_sub hl [1, 2, 3, 4, 0] rfl)
          · have g11 := mt (lg_cmp_eq _ _).mpr g11
            refine lv_iconst (v := 1) hx hb d_M_join_43 (by decide) ?_
            refine lv_goto hx hb d_M_join_44 (tgt := 48) rfl ?_
            exact J48 true (by simp [jnB, *]) H _ ls hP hD hS (lv_sub hl [1, 2, 3, 4, 0] rfl)
