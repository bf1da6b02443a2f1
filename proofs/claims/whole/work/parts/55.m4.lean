def MS.stay (x : MS) (z : Nat) : Bool := !decide (x.places z = (-2))
def MS.bt (x : MS) (w : Nat) (a b : Int64) (z : Nat) : Bool := decide (x.pointSeries z = w) && (x.seen z && (!decide (x.pointTimes z < a) && !decide (b < x.pointTimes z)))
def MS.btw (x : MS) (w : Nat) (a b : Int64) (pk : Bool) (z : Nat) : Bool := x.bt w a b z && (!pk || !decide (x.places z < 0))
def MS.freeN (x : MS) : Nat := x.blocks - 2 - x.journal - x.catalogBlocks - sumN x.parcelCount x.parcelBlocks
def MS.scB (x : MS) (q : Nat) : Bool := !decide (x.places q < 0) && !decide (x.hidden q < 0)
def MS.scA (x : MS) (q z : Nat) : Bool := decide (x.places z < 0) || !decide (x.hidden z = x.hidden q)
def MS.firstOf (x : MS) (q : Nat) : Bool := x.scB q && allB q (x.scA q)
theorem scE {x : MS} {q r : Nat} {v : Bool} (h1 : r ≤ q) (h2 : (x.scB q && allB r (x.scA q)) = v) (h3 : q ≤ r ∨ v = false) : x.firstOf q = v := by
  unfold MS.firstOf
  rcases h3 with h | h
  · rw [show r = q by omega] at h2
    exact h2
  · subst h
    cases e : allB r (x.scA q) with
    | false => rw [allB_f e h1, Bool.and_false]
    | true => rw [e, Bool.and_true] at h2
              rw [h2, Bool.false_and]
theorem d_M_between_0 : decode prog_14_method_18_code 0 = .ok (.iconst 0, 1) := by decide +kernel
theorem d_M_between_1 : decode prog_14_method_18_code 1 = .ok (.istore 7, 2) := by decide +kernel
theorem d_M_between_3 : decode prog_14_method_18_code 3 = .ok (.iconst 0, 1) := by decide +kernel
theorem d_M_between_4 : decode prog_14_method_18_code 4 = .ok (.istore 8, 2) := by decide +kernel
theorem d_M_between_6 : decode prog_14_method_18_code 6 = .ok (.iload 8, 2) := by decide +kernel
theorem d_M_between_8 : decode prog_14_method_18_code 8 = .ok (.aload_n 0, 1) := by decide +kernel
theorem d_M_between_9 : decode prog_14_method_18_code 9 = .ok (.getfield 169, 3) := by decide +kernel
theorem d_M_between_12 : decode prog_14_method_18_code 12 = .ok (.if_icmp .ge 91, 3) := by decide +kernel
theorem d_M_between_103 : decode prog_14_method_18_code 103 = .ok (.iload 7, 2) := by decide +kernel
theorem d_M_between_105 : decode prog_14_method_18_code 105 = .ok (.ireturn, 1) := by decide +kernel
theorem d_M_between_65 : decode prog_14_method_18_code 65 = .ok (.istore 9, 2) := by decide +kernel
theorem d_M_between_67 : decode prog_14_method_18_code 67 = .ok (.iload 7, 2) := by decide +kernel
theorem d_M_between_69 : decode prog_14_method_18_code 69 = .ok (.iload 9, 2) := by decide +kernel
theorem d_M_between_71 : decode prog_14_method_18_code 71 = .ok (.ifCond .eq 22, 3) := by decide +kernel
theorem d_M_between_93 : decode prog_14_method_18_code 93 = .ok (.iconst 0, 1) := by decide +kernel
theorem d_M_between_94 : decode prog_14_method_18_code 94 = .ok (.iadd, 1) := by decide +kernel
theorem d_M_between_95 : decode prog_14_method_18_code 95 = .ok (.istore 7, 2) := by decide +kernel
theorem d_M_between_97 : decode prog_14_method_18_code 97 = .ok (.iinc 8 1, 3) := by decide +kernel
theorem d_M_between_100 : decode prog_14_method_18_code 100 = .ok (.goto (-94), 3) := by decide +kernel
theorem d_M_between_74 : decode prog_14_method_18_code 74 = .ok (.iload 6, 2) := by decide +kernel
theorem d_M_between_76 : decode prog_14_method_18_code 76 = .ok (.ifCond .eq 13, 3) := by decide +kernel
theorem d_M_between_89 : decode prog_14_method_18_code 89 = .ok (.iconst 1, 1) := by decide +kernel
theorem d_M_between_90 : decode prog_14_method_18_code 90 = .ok (.goto 4, 3) := by decide +kernel
theorem d_M_between_79 : decode prog_14_method_18_code 79 = .ok (.aload_n 0, 1) := by decide +kernel
theorem d_M_between_80 : decode prog_14_method_18_code 80 = .ok (.getfield 52, 3) := by decide +kernel
theorem d_M_between_83 : decode prog_14_method_18_code 83 = .ok (.iload 8, 2) := by decide +kernel
theorem d_M_between_85 : decode prog_14_method_18_code 85 = .ok (.iaload, 1) := by decide +kernel
theorem d_M_between_86 : decode prog_14_method_18_code 86 = .ok (.ifCond .lt 7, 3) := by decide +kernel
theorem d_M_between_15 : decode prog_14_method_18_code 15 = .ok (.aload_n 0, 1) := by decide +kernel
theorem d_M_between_16 : decode prog_14_method_18_code 16 = .ok (.getfield 43, 3) := by decide +kernel
theorem d_M_between_19 : decode prog_14_method_18_code 19 = .ok (.iload 8, 2) := by decide +kernel
theorem d_M_between_21 : decode prog_14_method_18_code 21 = .ok (.iaload, 1) := by decide +kernel
theorem d_M_between_22 : decode prog_14_method_18_code 22 = .ok (.iload_n 1, 1) := by decide +kernel
theorem d_M_between_23 : decode prog_14_method_18_code 23 = .ok (.if_icmp .ne 41, 3) := by decide +kernel
theorem d_M_between_64 : decode prog_14_method_18_code 64 = .ok (.iconst 0, 1) := by decide +kernel
theorem d_M_between_26 : decode prog_14_method_18_code 26 = .ok (.aload_n 0, 1) := by decide +kernel
theorem d_M_between_27 : decode prog_14_method_18_code 27 = .ok (.iload 8, 2) := by decide +kernel
theorem d_M_between_29 : decode prog_14_method_18_code 29 = .ok (.invokevirtual 207, 3) := by decide +kernel
theorem d_M_between_32 : decode prog_14_method_18_code 32 = .ok (.ifCond .eq 32, 3) := by decide +kernel
theorem d_M_between_35 : decode prog_14_method_18_code 35 = .ok (.aload_n 0, 1) := by decide +kernel
theorem d_M_between_36 : decode prog_14_method_18_code 36 = .ok (.getfield 46, 3) := by decide +kernel
theorem d_M_between_39 : decode prog_14_method_18_code 39 = .ok (.iload 8, 2) := by decide +kernel
theorem d_M_between_41 : decode prog_14_method_18_code 41 = .ok (.laload, 1) := by decide +kernel
theorem d_M_between_42 : decode prog_14_method_18_code 42 = .ok (.lload_n 2, 1) := by decide +kernel
theorem d_M_between_43 : decode prog_14_method_18_code 43 = .ok (.lcmp, 1) := by decide +kernel
theorem d_M_between_44 : decode prog_14_method_18_code 44 = .ok (.ifCond .lt 20, 3) := by decide +kernel
theorem d_M_between_47 : decode prog_14_method_18_code 47 = .ok (.aload_n 0, 1) := by decide +kernel
theorem d_M_between_48 : decode prog_14_method_18_code 48 = .ok (.getfield 46, 3) := by decide +kernel
theorem d_M_between_51 : decode prog_14_method_18_code 51 = .ok (.iload 8, 2) := by decide +kernel
theorem d_M_between_53 : decode prog_14_method_18_code 53 = .ok (.laload, 1) := by decide +kernel
theorem d_M_between_54 : decode prog_14_method_18_code 54 = .ok (.lload 4, 2) := by decide +kernel
theorem d_M_between_56 : decode prog_14_method_18_code 56 = .ok (.lcmp, 1) := by decide +kernel
theorem d_M_between_57 : decode prog_14_method_18_code 57 = .ok (.ifCond .gt 7, 3) := by decide +kernel
theorem d_M_between_60 : decode prog_14_method_18_code 60 = .ok (.iconst 1, 1) := by decide +kernel
theorem d_M_between_61 : decode prog_14_method_18_code 61 = .ok (.goto 4, 3) := by decide +kernel
set_option maxHeartbeats 4000000 in
set_option maxRecDepth 100000 in
theorem k_between (l : Launch) (D : va_G) (dA : Nat → ClassId) (sz : Nat) (h : Nat) (ad : Nat → Nat) (x : MS) (w : Nat) (a : Int64) (b : Int64) (pk : Bool) (h1 : x.points ≤ 12000) (hw : w < 256) (hs : ∀ q : Nat, q < x.points → x.pointSeries q < 256) : Met l ⟨"SeriesVaultModel", "between", "(IJJZ)I"⟩ [Cond.code ⟨"SeriesVaultModel", "between", "(IJJZ)I"⟩ prog_14_method_18_code 10 (some FieldType.int)] { frames := 2, cells := 0, slots := 0, locals := 21 } (pC D dA [.ref h, .int (nI w), .long a, .long b, .int (bI pk)] (MW dA h ad x) sz) (va_Qi (fun (r9 : Int32) (u9 : Unit) => r9 = nI (cnt x.points (x.btw w a b pk))) (fun (u9 : Unit) t9 => bW D (va_A (MW dA h ad x) sz) (MW dA h ad x) t9) (va_A (MW dA h ad x) sz)) 0 0 (va_A (MW dA h ad x) sz) := by
  refine mkC (y := ⟨"SeriesVaultModel", "between", "(IJJZ)I"⟩) (cc := prog_14_method_18_code) (maxL := 10) (av := [.ref h, .int (nI w), .long a, .long b, .int (bI pk)]) (ws := MW dA h ad x) (sz := sz) (Qc := fun A => va_Qi (fun (r9 : Int32) (u9 : Unit) => r9 = nI (cnt x.points (x.btw w a b pk))) (fun (u9 : Unit) t9 => bW D A (MW dA h ad x) t9) A) (by decide) (Nat.le_of_ble_eq_true rfl) ?_
  intro A p e s m below meth c ls hsz hB
  obtain ⟨hx, hb, hr, hml, hown, hin, hlk, hE, hK, hP, hD, hS, hA, hN, hl⟩ := hB
  have hown : s.vm.findClass "SeriesVaultModel" = some m.cls := hown
  have hl : lv_has ls 10 [(0, .ref h), (1, .int (nI w)), (2, .long a), (4, .long b), (6, .int (bI pk))] := hl
  obtain ⟨H, hH⟩ : ∃ z, z = s.heap := ⟨_, rfl⟩
  have hP : va_P D vwCl (MW dA h ad x) H := by rw [hH]; exact hP
  have hS : va_S A s.heap H [] := by rw [hH]; exact hS
  rw [← hH]
  refine lv_iconst (v := 0) hx hb d_M_between_0 (by decide) ?_
  refine lv_istore hx hb d_M_between_1 hl (by decide) rfl (fun ls hl => ?_)
  have hl : lv_has ls 10 [(7, .int 0), (0, .ref h), (1, .int (nI w)), (2, .long a), (4, .long b), (6, .int (bI pk))] := hl
  refine lv_iconst (v := 0) hx hb d_M_between_3 (by decide) ?_
  refine lv_istore hx hb d_M_between_4 hl (by decide) rfl (fun ls hl => ?_)
  have hl : lv_has ls 10 [(8, .int 0), (7, .int 0), (0, .ref h), (1, .int (nI w)), (2, .long a), (4, .long b), (6, .int (bI pk))] := hl
  have L6 : ∀ (k9 : Nat) (q : Nat) (n : Nat) (i1 : q ≤ x.points) (i2 : n = cnt q (x.btw w a b pk)) (hk9 : x.points - q = k9), ∀ (H : Heap) (locs : List Loc) (ls : Array Slot) (hP : va_P D vwCl (MW dA h ad x) H) (hD : va_D A (MW dA h ad x)) (hS : va_S A s.heap H locs) (hl : lv_has ls 10 [(8, .int (nI q)), (7, .int (nI n)), (0, .ref h), (1, .int (nI w)), (2, .long a), (4, .long b), (6, .int (bI pk))]), W p l e ({ frames := 2, cells := 0, slots := 0, locals := 21 } : Room) s m ([.ref h, .int (nI w), .long a, .long b, .int (bI pk)] : List Value).toArray below meth c H locs 0 0 (MQ below (va_Qi (fun (r9 : Int32) (u9 : Unit) => r9 = nI (cnt x.points (x.btw w a b pk))) (fun (u9 : Unit) t9 => bW D A (MW dA h ad x) t9) A) ([.ref h, .int (nI w), .long a, .long b, .int (bI pk)] : List Value).toArray s 0 0 A) (F0 m 6 ls []) := by
    intro k9
    induction k9 using Nat.strongRecOn with
    | ind k9 ih6 =>
      intro q n i1 i2 hk9 H locs ls hP hD hS hl
      refine lv_iload hx hb d_M_between_6 (lv_at hl 0 rfl) ?_
      refine lv_aload_n hx hb d_M_between_8 rfl (lv_at hl 2 rfl) ?_
      refine gF (v := .int (nI x.points)) hx hb hown hE hK hP 0 rfl rfl layM 23 (by decide) w420 rfl d_M_between_9 ?_
      refine lv_icmp_ge hx hb d_M_between_12 (tgt := 103) rfl (fun g1 => ?_) (fun g1 => ?_)
      · have g1 := (nI_leI (a := x.points) (b := q) (by omega) (by omega)).mp g1
        refine lv_iload hx hb d_M_between_103 (lv_at hl 1 rfl) ?_
        exact rfI hx hb hr hlk hS () (by rw [i2, show q = x.points by omega]) hP hD (Nat.le_of_ble_eq_true rfl) (Nat.le_of_ble_eq_true rfl) d_M_between_105
      · have g1 := mt (nI_leI (a := x.points) (b := q) (by omega) (by omega)).mpr g1
        have J65 : ∀ (v : Bool) (j1 : x.bt w a b q = v), ∀ (H : Heap) (locs : List Loc) (ls : Array Slot) (hP : va_P D vwCl (MW dA h ad x) H) (hD : va_D A (MW dA h ad x)) (hS : va_S A s.heap H locs) (hl : lv_has ls 10 [(8, .int (nI q)), (7, .int (nI n)), (0, .ref h), (1, .int (nI w)), (2, .long a), (4, .long b), (6, .int (bI pk))]), W p l e ({ frames := 2, cells := 0, slots := 0, locals := 21 } : Room) s m ([.ref h, .int (nI w), .long a, .long b, .int (bI pk)] : List Value).toArray below meth c H locs 0 0 (MQ below (va_Qi (fun (r9 : Int32) (u9 : Unit) => r9 = nI (cnt x.points (x.btw w a b pk))) (fun (u9 : Unit) t9 => bW D A (MW dA h ad x) t9) A) ([.ref h, .int (nI w), .long a, .long b, .int (bI pk)] : List Value).toArray s 0 0 A) (F0 m 65 ls [.int (bI v)]) := by
          intro v j1 H locs ls hP hD hS hl
          refine lv_istore hx hb d_M_between_65 hl (by decide) rfl (fun ls hl => ?_)
          have hl : lv_has ls 10 [(9, .int (bI v)), (8, .int (nI q)), (7, .int (nI n)), (0, .ref h), (1, .int (nI w)), (2, .long a), (4, .long b), (6, .int (bI pk))] := hl
          refine lv_iload hx hb d_M_between_67 (lv_at hl 2 rfl) ?_
          refine lv_iload hx hb d_M_between_69 (lv_at hl 0 rfl) ?_
          refine lv_if_eq hx hb d_M_between_71 (tgt := 93) rfl (fun g2 => ?_) (fun g2 => ?_)
          · have g2 := bI_0 g2
            refine lv_iconst (v := 0) hx hb d_M_between_93 (by decide) ?_
            refine lv_iadd hx hb d_M_between_94 (tpi (y := nI (n)) (nI_add (n) (0)) ?_)
            refine lv_istore hx hb d_M_between_95 hl (by decide) rfl (fun ls hl => ?_)
            have hl : lv_has ls 10 [(7, .int (nI (n))), (9, .int (bI v)), (8, .int (nI q)), (0, .ref h), (1, .int (nI w)), (2, .long a), (4, .long b), (6, .int (bI pk))] := hl
            refine lv_iinc (k := 2) (v := nI (q + 1)) hx hb d_M_between_97 hl rfl (iincN (q) 1 1 (by decide)) (by decide) rfl (fun ls hl => ?_)
            have hl : lv_has ls 10 [(8, .int (nI (q + 1))), (7, .int (nI (n))), (9, .int (bI v)), (0, .ref h), (1, .int (nI w)), (2, .long a), (4, .long b), (6, .int (bI pk))] := hl
            refine lv_goto hx hb d_M_between_100 (tgt := 6) rfl ?_
            exact ih6 _ (by omega) (q + 1) n (by omega) (by simp [cnt, MS.btw, *]) rfl H _ ls hP hD hS (lv_sub hl [0, 1, 3, 4, 5, 6, 7] rfl)
          · have g2 := bI_n0 g2
            refine lv_iload hx hb d_M_between_74 (lv_at hl 7 rfl) ?_
            refine lv_if_eq hx hb d_M_between_76 (tgt := 89) rfl (fun g3 => ?_) (fun g3 => ?_)
            · have g3 := bI_0 g3
              refine lv_iconst (v := 1) hx hb d_M_between_89 (by decide) ?_
              refine lv_goto hx hb d_M_between_90 (tgt := 94) rfl ?_
              refine lv_iadd hx hb d_M_between_94 (tpi (y := nI (n + 1)) (nI_add (n) (1)) ?_)
              refine lv_istore hx hb d_M_between_95 hl (by decide) rfl (fun ls hl => ?_)
              have hl : lv_has ls 10 [(7, .int (nI (n + 1))), (9, .int (bI v)), (8, .int (nI q)), (0, .ref h), (1, .int (nI w)), (2, .long a), (4, .long b), (6, .int (bI pk))] := hl
              refine lv_iinc (k := 2) (v := nI (q + 1)) hx hb d_M_between_97 hl rfl (iincN (q) 1 1 (by decide)) (by decide) rfl (fun ls hl => ?_)
              have hl : lv_has ls 10 [(8, .int (nI (q + 1))), (7, .int (nI (n + 1))), (9, .int (bI v)), (0, .ref h), (1, .int (nI w)), (2, .long a), (4, .long b), (6, .int (bI pk))] := hl
              refine lv_goto hx hb d_M_between_100 (tgt := 6) rfl ?_
              exact ih6 _ (by omega) (q + 1) (n + 1) (by omega) (by simp [cnt, MS.btw, *]) rfl H _ ls hP hD hS (lv_sub hl [0, 1, 3, 4, 5, 6, 7] rfl)
            · have g3 := bI_n0 g3
              refine lv_aload_n hx hb d_M_between_79 rfl (lv_at hl 3 rfl) ?_
              refine gF (v := .ref (ad 20)) hx hb hown hE hK hP 0 rfl rfl layM 20 (by decide) w506 rfl d_M_between_80 ?_
              refine lv_iload hx hb d_M_between_83 (lv_at hl 1 rfl) ?_
              refine nild (f := x.places) hx hb hK hP 9 1 rfl rfl (q) (by omega) (by decide) d_M_between_85 ?_
              refine lv_if_lt hx hb d_M_between_86 (tgt := 93) rfl (fun g4 => ?_) (fun g4 => ?_)
              · have g4 := g4
                refine lv_iconst (v := 0) hx hb d_M_between_93 (by decide) ?_
                refine lv_iadd hx hb d_M_between_94 (tpi (y := nI (n)) (nI_add (n) (0)) ?_)
                refine lv_istore hx hb d_M_between_95 hl (by decide) rfl (fun ls hl => ?_)
                have hl : lv_has ls 10 [(7, .int (nI (n))), (9, .int (bI v)), (8, .int (nI q)), (0, .ref h), (1, .int (nI w)), (2, .long a), (4, .long b), (6, .int (bI pk))] := hl
                refine lv_iinc (k := 2) (v := nI (q + 1)) hx hb d_M_between_97 hl rfl (iincN (q) 1 1 (by decide)) (by decide) rfl (fun ls hl => ?_)
                have hl : lv_has ls 10 [(8, .int (nI (q + 1))), (7, .int (nI (n))), (9, .int (bI v)), (0, .ref h), (1, .int (nI w)), (2, .long a), (4, .long b), (6, .int (bI pk))] := hl
                refine lv_goto hx hb d_M_between_100 (tgt := 6) rfl ?_
                exact ih6 _ (by omega) (q + 1) n (by omega) (by simp [cnt, MS.btw, *]) rfl H _ ls hP hD hS (lv_sub hl [0, 1, 3, 4, 5, 6, 7] rfl)
              · have g4 := g4
                refine lv_iconst (v := 1) hx hb d_M_between_89 (by decide) ?_
                refine lv_goto hx hb d_M_between_90 (tgt := 94) rfl ?_
                refine lv_iadd hx hb d_M_between_94 (tpi (y := nI (n + 1)) (nI_add (n) (1)) ?_)
                refine lv_istore hx hb d_M_between_95 hl (by decide) rfl (fun ls hl => ?_)
                have hl : lv_has ls 10 [(7, .int (nI (n + 1))), (9, .int (bI v)), (8, .int (nI q)), (0, .ref h), (1, .int (nI w)), (2, .long a), (4, .long b), (6, .int (bI pk))] := hl
                refine lv_iinc (k := 2) (v := nI (q + 1)) hx hb d_M_between_97 hl rfl (iincN (q) 1 1 (by decide)) (by decide) rfl (fun ls hl => ?_)
                have hl : lv_has ls 10 [(8, .int (nI (q + 1))), (7, .int (nI (n + 1))), (9, .int (bI v)), (0, .ref h), (1, .int (nI w)), (2, .long a), (4, .long b), (6, .int (bI pk))] := hl
                refine lv_goto hx hb d_M_between_100 (tgt := 6) rfl ?_
                exact ih6 _ (by omega) (q + 1) (n + 1) (by omega) (by simp [cnt, MS.btw, *]) rfl H _ ls hP hD hS (lv_sub hl [0, 1, 3, 4, 5, 6, 7] rfl)
        refine lv_aload_n hx hb d_M_between_15 rfl (lv_at hl 2 rfl) ?_
        refine gF (v := .ref (ad 17)) hx hb hown hE hK hP 0 rfl rfl layM 17 (by decide) w503 rfl d_M_between_16 ?_
        refine lv_iload hx hb d_M_between_19 (lv_at hl 0 rfl) ?_
        refine nild (f := (fun z9 => nI (x.pointSeries z9))) hx hb hK hP 6 1 rfl rfl (q) (by omega) (by decide) d_M_between_21 ?_
        refine lv_iload_n hx hb d_M_between_22 rfl (lv_at hl 3 rfl) ?_
        have b1 := hs q (by omega)
        refine lv_icmp_ne hx hb d_M_between_23 (tgt := 64) rfl (fun g5 => ?_) (fun g5 => ?_)
        · have g5 := mt (nI_eq (a := x.pointSeries q) (b := w) (by omega) (by omega)).mpr g5
          refine lv_iconst (v := 0) hx hb d_M_between_64 (by decide) ?_
          exact J65 false (by simp [MS.bt, *]) H _ ls hP hD hS (lv_sub hl [0, 1, 2, 3, 4, 5, 6] rfl)
        · have g5 := (nI_eq (a := x.pointSeries q) (b := w) (by omega) (by omega)).mp g5
          refine lv_aload_n hx hb d_M_between_26 rfl (lv_at hl 2 rfl) ?_
          refine lv_iload hx hb d_M_between_27 (lv_at hl 0 rfl) ?_
          refine jfI (rnV (As := [.int (nI q)]) (rest := []) hx hb hml hown hE hK (hN _ _ hS) hP hD (k_isSeen l D dA H.size h ad x q (show q < 12000 from by omega)) (q0 := 0) rfl rfl w861 w860 w862 w863 w328 rfl rfl ⟨⟨by decide, by decide⟩, rfl⟩ ⟨(Nat.le_of_ble_eq_true rfl), (Nat.le_of_ble_eq_true rfl)⟩ rfl hl.1 rfl (Nat.le_of_ble_eq_true rfl) d_M_between_29 ⟨(Nat.le_of_ble_eq_true rfl), (Nat.le_of_ble_eq_true rfl)⟩) hP hD hS hA (fun r6 u7 H locs hp9 hP hD hS => ?_)
          have hP : va_P D vwCl (MW dA h ad x) H := hP
          have hD : va_D A (MW dA h ad x) := hD
          replace hp9 : bI (x.seen q) = r6 := Eq.symm hp9
          subst hp9
          refine lv_if_eq hx hb d_M_between_32 (tgt := 64) rfl (fun g8 => ?_) (fun g8 => ?_)
          · have g8 := bI_0 g8
            refine lv_iconst (v := 0) hx hb d_M_between_64 (by decide) ?_
            exact J65 false (by simp [MS.bt, *]) H _ ls hP hD hS (lv_sub hl [0, 1, 2, 3, 4, 5, 6] rfl)
          · have g8 := bI_n0 g8
            refine lv_aload_n hx hb d_M_between_35 rfl (lv_at hl 2 rfl) ?_
            refine gF (v := .ref (ad 18)) hx hb hown hE hK hP 0 rfl rfl layM 18 (by decide) w504 rfl d_M_between_36 ?_
            refine lv_iload hx hb d_M_between_39 (lv_at hl 0 rfl) ?_
            refine nlld (f := x.pointTimes) hx hb hK hP 7 2 rfl rfl (q) (by omega) (by decide) d_M_between_41 ?_
            refine lv_lload_n hx hb d_M_between_42 rfl (lv_at hl 4 rfl) ?_
            refine W.lcmp hx hb d_M_between_43 ?_
            refine lv_if_lt hx hb d_M_between_44 (tgt := 64) rfl (fun g9 => ?_) (fun g9 => ?_)
            · have g9 := (lg_cmp_lt _ _).mp g9
              refine lv_iconst (v := 0) hx hb d_M_between_64 (by decide) ?_
              exact J65 false (by simp [MS.bt, *]) H _ ls hP hD hS (lv_sub hl [0, 1, 2, 3, 4, 5, 6] rfl)
            · have g9 := mt (lg_cmp_lt _ _).mpr g9
              refine lv_aload_n hx hb d_M_between_47 rfl (lv_at hl 2 rfl) ?_
              refine gF (v := .ref (ad 18)) hx hb hown hE hK hP 0 rfl rfl layM 18 (by decide) w504 rfl d_M_between_48 ?_
              refine lv_iload hx hb d_M_between_51 (lv_at hl 0 rfl) ?_
              refine nlld (f := x.pointTimes) hx hb hK hP 7 2 rfl rfl (q) (by omega) (by decide) d_M_between_53 ?_
              refine lv_lload hx hb d_M_between_54 (lv_at hl 5 rfl) ?_
              refine W.lcmp hx hb d_M_between_56 ?_
              refine lv_if_gt hx hb d_M_between_57 (tgt := 64) rfl (fun g10 => ?_) (fun g10 => ?_)
              · have g10 := (lg_cmp_gt _ _).mp g10
                refine lv_iconst (v := 0) hx hb d_M_between_64 (by decide) ?_
                exact J65 false (by simp [MS.bt, *]) H _ ls hP hD hS (lv_sub hl [0, 1, 2, 3, 4, 5, 6] rfl)
              · have g10 := mt (lg_cmp_gt _ _).mpr g10
                refine lv_iconst (v := 1) hx hb d_M_between_60 (by decide) ?_
                refine lv_goto hx hb d_M_between_61 (tgt := 65) rfl ?_
                exact J65 true (by simp [MS.bt, *]) H _ ls hP hD hS (lv_sub hl [0, 1, 2, 3, 4, 5, 6] rfl)
  exact L6 _ 0 0 (by omega) rfl rfl H _ ls hP hD hS (lv_sub hl [0, 1, 2, 3, 4, 5, 6] rfl)
theorem d_M_tidy_12 : decode prog_14_method_19_code 12 = .ok (.aload_n 0, 1) := by decide +kernel
theorem d_M_tidy_13 : decode prog_14_method_19_code 13 = .ok (.getfield 52, 3) := by decide +kernel
theorem d_M_tidy_16 : decode prog_14_method_19_code 16 = .ok (.iload_n 2, 1) := by decide +kernel
theorem d_M_tidy_17 : decode prog_14_method_19_code 17 = .ok (.iaload, 1) := by decide +kernel
theorem d_M_tidy_18 : decode prog_14_method_19_code 18 = .ok (.bipush (-2), 2) := by decide +kernel
theorem d_M_tidy_20 : decode prog_14_method_19_code 20 = .ok (.if_icmp .ne 6, 3) := by decide +kernel
theorem d_M_tidy_26 : decode prog_14_method_19_code 26 = .ok (.aload_n 0, 1) := by decide +kernel
theorem d_M_tidy_27 : decode prog_14_method_19_code 27 = .ok (.getfield 43, 3) := by decide +kernel
theorem d_M_tidy_30 : decode prog_14_method_19_code 30 = .ok (.iload_n 1, 1) := by decide +kernel
theorem d_M_tidy_31 : decode prog_14_method_19_code 31 = .ok (.aload_n 0, 1) := by decide +kernel
theorem d_M_tidy_32 : decode prog_14_method_19_code 32 = .ok (.getfield 43, 3) := by decide +kernel
theorem d_M_tidy_35 : decode prog_14_method_19_code 35 = .ok (.iload_n 2, 1) := by decide +kernel
theorem d_M_tidy_36 : decode prog_14_method_19_code 36 = .ok (.iaload, 1) := by decide +kernel
theorem d_M_tidy_37 : decode prog_14_method_19_code 37 = .ok (.iastore, 1) := by decide +kernel
theorem d_M_tidy_38 : decode prog_14_method_19_code 38 = .ok (.aload_n 0, 1) := by decide +kernel
theorem d_M_tidy_39 : decode prog_14_method_19_code 39 = .ok (.getfield 46, 3) := by decide +kernel
theorem d_M_tidy_42 : decode prog_14_method_19_code 42 = .ok (.iload_n 1, 1) := by decide +kernel
theorem d_M_tidy_43 : decode prog_14_method_19_code 43 = .ok (.aload_n 0, 1) := by decide +kernel
theorem d_M_tidy_44 : decode prog_14_method_19_code 44 = .ok (.getfield 46, 3) := by decide +kernel
theorem d_M_tidy_47 : decode prog_14_method_19_code 47 = .ok (.iload_n 2, 1) := by decide +kernel
theorem d_M_tidy_48 : decode prog_14_method_19_code 48 = .ok (.laload, 1) := by decide +kernel
theorem d_M_tidy_49 : decode prog_14_method_19_code 49 = .ok (.lastore, 1) := by decide +kernel
theorem d_M_tidy_50 : decode prog_14_method_19_code 50 = .ok (.aload_n 0, 1) := by decide +kernel
theorem d_M_tidy_51 : decode prog_14_method_19_code 51 = .ok (.getfield 49, 3) := by decide +kernel
theorem d_M_tidy_54 : decode prog_14_method_19_code 54 = .ok (.iload_n 1, 1) := by decide +kernel
theorem d_M_tidy_55 : decode prog_14_method_19_code 55 = .ok (.aload_n 0, 1) := by decide +kernel
theorem d_M_tidy_56 : decode prog_14_method_19_code 56 = .ok (.getfield 49, 3) := by decide +kernel
theorem d_M_tidy_59 : decode prog_14_method_19_code 59 = .ok (.iload_n 2, 1) := by decide +kernel
theorem d_M_tidy_60 : decode prog_14_method_19_code 60 = .ok (.laload, 1) := by decide +kernel
theorem d_M_tidy_61 : decode prog_14_method_19_code 61 = .ok (.lastore, 1) := by decide +kernel
theorem d_M_tidy_62 : decode prog_14_method_19_code 62 = .ok (.aload_n 0, 1) := by decide +kernel
theorem d_M_tidy_63 : decode prog_14_method_19_code 63 = .ok (.getfield 52, 3) := by decide +kernel
theorem d_M_tidy_66 : decode prog_14_method_19_code 66 = .ok (.iload_n 1, 1) := by decide +kernel
theorem d_M_tidy_67 : decode prog_14_method_19_code 67 = .ok (.aload_n 0, 1) := by decide +kernel
theorem d_M_tidy_68 : decode prog_14_method_19_code 68 = .ok (.getfield 52, 3) := by decide +kernel
theorem d_M_tidy_71 : decode prog_14_method_19_code 71 = .ok (.iload_n 2, 1) := by decide +kernel
theorem d_M_tidy_72 : decode prog_14_method_19_code 72 = .ok (.iaload, 1) := by decide +kernel
theorem d_M_tidy_73 : decode prog_14_method_19_code 73 = .ok (.iastore, 1) := by decide +kernel
theorem d_M_tidy_74 : decode prog_14_method_19_code 74 = .ok (.aload_n 0, 1) := by decide +kernel
theorem d_M_tidy_75 : decode prog_14_method_19_code 75 = .ok (.getfield 55, 3) := by decide +kernel
theorem d_M_tidy_78 : decode prog_14_method_19_code 78 = .ok (.iload_n 1, 1) := by decide +kernel
theorem d_M_tidy_79 : decode prog_14_method_19_code 79 = .ok (.aload_n 0, 1) := by decide +kernel
theorem d_M_tidy_80 : decode prog_14_method_19_code 80 = .ok (.getfield 55, 3) := by decide +kernel
theorem d_M_tidy_83 : decode prog_14_method_19_code 83 = .ok (.iload_n 2, 1) := by decide +kernel
theorem d_M_tidy_84 : decode prog_14_method_19_code 84 = .ok (.iaload, 1) := by decide +kernel
theorem d_M_tidy_85 : decode prog_14_method_19_code 85 = .ok (.iastore, 1) := by decide +kernel
theorem d_M_tidy_86 : decode prog_14_method_19_code 86 = .ok (.aload_n 0, 1) := by decide +kernel
theorem d_M_tidy_87 : decode prog_14_method_19_code 87 = .ok (.getfield 58, 3) := by decide +kernel
theorem d_M_tidy_90 : decode prog_14_method_19_code 90 = .ok (.iload_n 1, 1) := by decide +kernel
theorem d_M_tidy_91 : decode prog_14_method_19_code 91 = .ok (.aload_n 0, 1) := by decide +kernel
theorem d_M_tidy_92 : decode prog_14_method_19_code 92 = .ok (.getfield 58, 3) := by decide +kernel
theorem d_M_tidy_95 : decode prog_14_method_19_code 95 = .ok (.iload_n 2, 1) := by decide +kernel
theorem d_M_tidy_96 : decode prog_14_method_19_code 96 = .ok (.iaload, 1) := by decide +kernel
theorem d_M_tidy_97 : decode prog_14_method_19_code 97 = .ok (.iastore, 1) := by decide +kernel
theorem d_M_tidy_98 : decode prog_14_method_19_code 98 = .ok (.iinc 1 1, 3) := by decide +kernel
theorem d_M_tidy_101 : decode prog_14_method_19_code 101 = .ok (.iinc 2 1, 3) := by decide +kernel
theorem d_M_tidy_104 : decode prog_14_method_19_code 104 = .ok (.goto (-100), 3) := by decide +kernel
theorem d_M_tidy_23 : decode prog_14_method_19_code 23 = .ok (.goto 78, 3) := by decide +kernel
set_option maxHeartbeats 4000000 in
set_option maxRecDepth 100000 in
theorem k_tidy (l : Launch) (D : va_G) (dA : Nat → ClassId) (sz : Nat) (h : Nat) (ad : Nat → Nat) (x : MS) (h1 : x.points ≤ 12000) : Met l ⟨"SeriesVaultModel", "tidy", "()V"⟩ [Cond.code ⟨"SeriesVaultModel", "tidy", "()V"⟩ prog_14_method_19_code 3 none] { frames := 1, cells := 0, slots := 0, locals := 0 } (pC D dA [.ref h] (MW dA h ad x) sz) (va_Qv (fun (u9 : Unit) => True) (fun (u9 : Unit) t9 => bW D (va_A (MW dA h ad x) sz) (MW dA h ad (MS.s_points (MS.s_baseHidden (MS.s_hidden (MS.s_places (MS.s_pointValues (MS.s_pointTimes (MS.s_pointSeries x (tdT x.stay x.pointSeries x.points)) (tdT x.stay x.pointTimes x.points)) (tdT x.stay x.pointValues x.points)) (tdT x.stay x.places x.points)) (tdT x.stay x.hidden x.points)) (tdT x.stay x.baseHidden x.points)) (cnt x.points x.stay))) t9) (va_A (MW dA h ad x) sz)) 0 0 (va_A (MW dA h ad x) sz) := by
  refine mkC (y := ⟨"SeriesVaultModel", "tidy", "()V"⟩) (cc := prog_14_method_19_code) (maxL := 3) (av := [.ref h]) (ws := MW dA h ad x) (sz := sz) (Qc := fun A => va_Qv (fun (u9 : Unit) => True) (fun (u9 : Unit) t9 => bW D A (MW dA h ad (MS.s_points (MS.s_baseHidden (MS.s_hidden (MS.s_places (MS.s_pointValues (MS.s_pointTimes (MS.s_pointSeries x (tdT x.stay x.pointSeries x.points)) (tdT x.stay x.pointTimes x.points)) (tdT x.stay x.pointValues x.points)) (tdT x.stay x.places x.points)) (tdT x.stay x.hidden x.points)) (tdT x.stay x.baseHidden x.points)) (cnt x.points x.stay))) t9) A) (by decide) (Nat.le_of_ble_eq_true rfl) ?_
  intro A p e s m below meth c ls hsz hB
  obtain ⟨hx, hb, hr, hml, hown, hin, hlk, hE, hK, hP, hD, hS, hA, hN, hl⟩ := hB
  have hown : s.vm.findClass "SeriesVaultModel" = some m.cls := hown
  have hl : lv_has ls 3 [(0, .ref h)] := hl
  obtain ⟨H, hH⟩ : ∃ z, z = s.heap := ⟨_, rfl⟩
  have hP : va_P D vwCl (MW dA h ad x) H := by rw [hH]; exact hP
  have hS : va_S A s.heap H [] := by rw [hH]; exact hS
  rw [← hH]
  refine lv_iconst (v := 0) hx hb d_M_tidy_0 (by decide) ?_
  refine lv_istore_n hx hb d_M_tidy_1 rfl hl (by decide) rfl (fun ls hl => ?_)
  have hl : lv_has ls 3 [(1, .int 0), (0, .ref h)] := hl
  refine lv_iconst (v := 0) hx hb d_M_tidy_2 (by decide) ?_
  refine lv_istore_n hx hb d_M_tidy_3 rfl hl (by decide) rfl (fun ls hl => ?_)
  have hl : lv_has ls 3 [(2, .int 0), (1, .int 0), (0, .ref h)] := hl
  have L4 : ∀ (k9 : Nat) (q : Nat) (n : Nat) (i1 : q ≤ x.points) (i2 : n = cnt q x.stay) (hk9 : x.points - q = k9), ∀ (H : Heap) (locs : List Loc) (ls : Array Slot) (hP : va_P D vwCl (MW dA h ad (MS.s_baseHidden (MS.s_hidden (MS.s_places (MS.s_pointValues (MS.s_pointTimes (MS.s_pointSeries x (tdT x.stay x.pointSeries q)) (tdT x.stay x.pointTimes q)) (tdT x.stay x.pointValues q)) (tdT x.stay x.places q)) (tdT x.stay x.hidden q)) (tdT x.stay x.baseHidden q))) H) (hD : va_D A (MW dA h ad (MS.s_baseHidden (MS.s_hidden (MS.s_places (MS.s_pointValues (MS.s_pointTimes (MS.s_pointSeries x (tdT x.stay x.pointSeries q)) (tdT x.stay x.pointTimes q)) (tdT x.stay x.pointValues q)) (tdT x.stay x.places q)) (tdT x.stay x.hidden q)) (tdT x.stay x.baseHidden q)))) (hS : va_S A s.heap H locs) (hl : lv_has ls 3 [(2, .int (nI q)), (1, .int (nI n)), (0, .ref h)]), W p l e ({ frames := 1, cells := 0, slots := 0, locals := 0 } : Room) s m ([.ref h] : List Value).toArray below meth c H locs 0 0 (MQ below (va_Qv (fun (u9 : Unit) => True) (fun (u9 : Unit) t9 => bW D A (MW dA h ad (MS.s_points (MS.s_baseHidden (MS.s_hidden (MS.s_places (MS.s_pointValues (MS.s_pointTimes (MS.s_pointSeries x (tdT x.stay x.pointSeries x.points)) (tdT x.stay x.pointTimes x.points)) (tdT x.stay x.pointValues x.points)) (tdT x.stay x.places x.points)) (tdT x.stay x.hidden x.points)) (tdT x.stay x.baseHidden x.points)) (cnt x.points x.stay))) t9) A) ([.ref h] : List Value).toArray s 0 0 A) (F0 m 4 ls []) := by
    intro k9
    induction k9 using Nat.strongRecOn with
    | ind k9 ih4 =>
      intro q n i1 i2 hk9 H locs ls hP hD hS hl
      have i3 := cnt_le q x.stay
      refine lv_iload_n hx hb d_M_tidy_4 rfl (lv_at hl 0 rfl) ?_
      refine lv_aload_n hx hb d_M_tidy_5 rfl (lv_at hl 2 rfl) ?_
      refine gF (v := .int (nI x.points)) hx hb hown hE hK hP 0 rfl rfl layM 23 (by decide) w420 rfl d_M_tidy_6 ?_
      refine lv_icmp_ge hx hb d_M_tidy_9 (tgt := 107) rfl (fun g1 => ?_) (fun g1 => ?_)
      · have g1 := (nI_leI (a := x.points) (b := q) (by omega) (by omega)).mp g1
        refine lv_aload_n hx hb d_M_tidy_107 rfl (lv_at hl 2 rfl) ?_
        refine lv_iload_n hx hb d_M_tidy_108 rfl (lv_at hl 1 rfl) ?_
        refine pF (v := .int (nI n)) hx hb hown hE hK hP hD hS 0 rfl rfl layM tyM tokM nmM 23 (by decide) w420 rfl rfl rfl (Nat.le_of_ble_eq_true rfl) d_M_tidy_109 (fun H locs hP hD hS => ?_)
        have hP : va_P D vwCl (MW dA h ad (MS.s_points (MS.s_baseHidden (MS.s_hidden (MS.s_places (MS.s_pointValues (MS.s_pointTimes (MS.s_pointSeries x (tdT x.stay x.pointSeries q)) (tdT x.stay x.pointTimes q)) (tdT x.stay x.pointValues q)) (tdT x.stay x.places q)) (tdT x.stay x.hidden q)) (tdT x.stay x.baseHidden q)) n)) H := hP
        have hD : va_D A (MW dA h ad (MS.s_points (MS.s_baseHidden (MS.s_hidden (MS.s_places (MS.s_pointValues (MS.s_pointTimes (MS.s_pointSeries x (tdT x.stay x.pointSeries q)) (tdT x.stay x.pointTimes q)) (tdT x.stay x.pointValues q)) (tdT x.stay x.places q)) (tdT x.stay x.hidden q)) (tdT x.stay x.baseHidden q)) n)) := hD
        have e9 : (MS.s_points (MS.s_baseHidden (MS.s_hidden (MS.s_places (MS.s_pointValues (MS.s_pointTimes (MS.s_pointSeries x (tdT x.stay x.pointSeries q)) (tdT x.stay x.pointTimes q)) (tdT x.stay x.pointValues q)) (tdT x.stay x.places q)) (tdT x.stay x.hidden q)) (tdT x.stay x.baseHidden q)) n : MS) = MS.s_points (MS.s_baseHidden (MS.s_hidden (MS.s_places (MS.s_pointValues (MS.s_pointTimes (MS.s_pointSeries x (tdT x.stay x.pointSeries x.points)) (tdT x.stay x.pointTimes x.points)) (tdT x.stay x.pointValues x.points)) (tdT x.stay x.places x.points)) (tdT x.stay x.hidden x.points)) (tdT x.stay x.baseHidden x.points)) (cnt x.points x.stay) := by rw [show (tdT x.stay x.pointSeries x.points) = (tdT x.stay x.pointSeries q) from by (rw [show q = x.points by omega]), show (tdT x.stay x.pointValues x.points) = (tdT x.stay x.pointValues q) from by (rw [show q = x.points by omega]), show (tdT x.stay x.baseHidden x.points) = (tdT x.stay x.baseHidden q) from by (rw [show q = x.points by omega]), show (tdT x.stay x.pointTimes x.points) = (tdT x.stay x.pointTimes q) from by (rw [show q = x.points by omega]), show (tdT x.stay x.hidden x.points) = (tdT x.stay x.hidden q) from by (rw [show q = x.points by omega]), show (tdT x.stay x.places x.points) = (tdT x.stay x.places q) from by (rw [show q = x.points by omega]), show (cnt x.points x.stay) = n from by (rw [i2, show q = x.points by omega])] <;> rfl
        exact rfV hx hb hr hlk hS () trivial (cvP e9 hP) (cvD e9 hD) (Nat.le_of_ble_eq_true rfl) (Nat.le_of_ble_eq_true rfl) d_M_tidy_112
      · have g1 := mt (nI_leI (a := x.points) (b := q) (by omega) (by omega)).mpr g1
        refine lv_aload_n hx hb d_M_tidy_12 rfl (lv_at hl 2 rfl) ?_
        refine gF (v := .ref (ad 20)) hx hb hown hE hK hP 0 rfl rfl layM 20 (by decide) w506 rfl d_M_tidy_13 ?_
        refine lv_iload_n hx hb d_M_tidy_16 rfl (lv_at hl 0 rfl) ?_
        refine nild (f := (tdT x.stay x.places q)) hx hb hK hP 9 1 rfl rfl (q) (by omega) (by decide) d_M_tidy_17 ?_
        refine tpi (y := (x.places q)) (tdT_at _ _ (Nat.le_refl q)) ?_
        refine lv_bipush (v := (-2)) hx hb d_M_tidy_18 (by decide) ?_
        refine lv_icmp_ne hx hb d_M_tidy_20 (tgt := 26) rfl (fun g2 => ?_) (fun g2 => ?_)
        · have g2 := g2
          refine lv_aload_n hx hb d_M_tidy_26 rfl (lv_at hl 2 rfl) ?_
          refine gF (v := .ref (ad 17)) hx hb hown hE hK hP 0 rfl rfl layM 17 (by decide) w503 rfl d_M_tidy_27 ?_
          refine lv_iload_n hx hb d_M_tidy_30 rfl (lv_at hl 1 rfl) ?_
          refine lv_aload_n hx hb d_M_tidy_31 rfl (lv_at hl 2 rfl) ?_
          refine gF (v := .ref (ad 17)) hx hb hown hE hK hP 0 rfl rfl layM 17 (by decide) w503 rfl d_M_tidy_32 ?_
          refine lv_iload_n hx hb d_M_tidy_35 rfl (lv_at hl 0 rfl) ?_
          refine nild (f := (fun z9 => nI ((tdT x.stay x.pointSeries q) z9))) hx hb hK hP 6 1 rfl rfl (q) (by omega) (by decide) d_M_tidy_36 ?_
          refine tpi (y := nI (x.pointSeries q)) (congrArg nI (tdT_at _ _ (Nat.le_refl q))) ?_
          refine nistN (v := x.pointSeries q) hx hb hK hP hD hS 6 1 rfl rfl (n) (by omega) (by decide) d_M_tidy_37 (fun H locs hP hD hS => ?_)
          have hP : va_P D vwCl (MW dA h ad (MS.s_baseHidden (MS.s_hidden (MS.s_places (MS.s_pointValues (MS.s_pointTimes (MS.s_pointSeries x (va_up (tdT x.stay x.pointSeries q) n (x.pointSeries q))) (tdT x.stay x.pointTimes q)) (tdT x.stay x.pointValues q)) (tdT x.stay x.places q)) (tdT x.stay x.hidden q)) (tdT x.stay x.baseHidden q))) H := hP
          have hD : va_D A (MW dA h ad (MS.s_baseHidden (MS.s_hidden (MS.s_places (MS.s_pointValues (MS.s_pointTimes (MS.s_pointSeries x (va_up (tdT x.stay x.pointSeries q) n (x.pointSeries q))) (tdT x.stay x.pointTimes q)) (tdT x.stay x.pointValues q)) (tdT x.stay x.places q)) (tdT x.stay x.hidden q)) (tdT x.stay x.baseHidden q))) := hD
          refine lv_aload_n hx hb d_M_tidy_38 rfl (lv_at hl 2 rfl) ?_
          refine gF (v := .ref (ad 18)) hx hb hown hE hK hP 0 rfl rfl layM 18 (by decide) w504 rfl d_M_tidy_39 ?_
          refine lv_iload_n hx hb d_M_tidy_42 rfl (lv_at hl 1 rfl) ?_
          refine lv_aload_n hx hb d_M_tidy_43 rfl (lv_at hl 2 rfl) ?_
          refine gF (v := .ref (ad 18)) hx hb hown hE hK hP 0 rfl rfl layM 18 (by decide) w504 rfl d_M_tidy_44 ?_
          refine lv_iload_n hx hb d_M_tidy_47 rfl (lv_at hl 0 rfl) ?_
          refine nlld (f := (tdT x.stay x.pointTimes q)) hx hb hK hP 7 2 rfl rfl (q) (by omega) (by decide) d_M_tidy_48 ?_
          refine tpl (y := (x.pointTimes q)) (tdT_at _ _ (Nat.le_refl q)) ?_
          refine nlst hx hb hK hP hD hS 7 2 rfl rfl (n) (by omega) (by decide) d_M_tidy_49 (fun H locs hP hD hS => ?_)
          have hP : va_P D vwCl (MW dA h ad (MS.s_baseHidden (MS.s_hidden (MS.s_places (MS.s_pointValues (MS.s_pointTimes (MS.s_pointSeries x (va_up (tdT x.stay x.pointSeries q) n (x.pointSeries q))) (va_up (tdT x.stay x.pointTimes q) n (x.pointTimes q))) (tdT x.stay x.pointValues q)) (tdT x.stay x.places q)) (tdT x.stay x.hidden q)) (tdT x.stay x.baseHidden q))) H := hP
          have hD : va_D A (MW dA h ad (MS.s_baseHidden (MS.s_hidden (MS.s_places (MS.s_pointValues (MS.s_pointTimes (MS.s_pointSeries x (va_up (tdT x.stay x.pointSeries q) n (x.pointSeries q))) (va_up (tdT x.stay x.pointTimes q) n (x.pointTimes q))) (tdT x.stay x.pointValues q)) (tdT x.stay x.places q)) (tdT x.stay x.hidden q)) (tdT x.stay x.baseHidden q))) := hD
          refine lv_aload_n hx hb d_M_tidy_50 rfl (lv_at hl 2 rfl) ?_
          refine gF (v := .ref (ad 19)) hx hb hown hE hK hP 0 rfl rfl layM 19 (by decide) w505 rfl d_M_tidy_51 ?_
          refine lv_iload_n hx hb d_M_tidy_54 rfl (lv_at hl 1 rfl) ?_
          refine lv_aload_n hx hb d_M_tidy_55 rfl (lv_at hl 2 rfl) ?_
          refine gF (v := .ref (ad 19)) hx hb hown hE hK hP 0 rfl rfl layM 19 (by decide) w505 rfl d_M_tidy_56 ?_
          refine lv_iload_n hx hb d_M_tidy_59 rfl (lv_at hl 0 rfl) ?_
          refine nlld (f := (tdT x.stay x.pointValues q)) hx hb hK hP 8 2 rfl rfl (q) (by omega) (by decide) d_M_tidy_60 ?_
          refine tpl (y := (x.pointValues q)) (tdT_at _ _ (Nat.le_refl q)) ?_
          refine nlst hx hb hK hP hD hS 8 2 rfl rfl (n) (by omega) (by decide) d_M_tidy_61 (fun H locs hP hD hS => ?_)
          have hP : va_P D vwCl (MW dA h ad (MS.s_baseHidden (MS.s_hidden (MS.s_places (MS.s_pointValues (MS.s_pointTimes (MS.s_pointSeries x (va_up (tdT x.stay x.pointSeries q) n (x.pointSeries q))) (va_up (tdT x.stay x.pointTimes q) n (x.pointTimes q))) (va_up (tdT x.stay x.pointValues q) n (x.pointValues q))) (tdT x.stay x.places q)) (tdT x.stay x.hidden q)) (tdT x.stay x.baseHidden q))) H := hP
          have hD : va_D A (MW dA h ad (MS.s_baseHidden (MS.s_hidden (MS.s_places (MS.s_pointValues (MS.s_pointTimes (MS.s_pointSeries x (va_up (tdT x.stay x.pointSeries q) n (x.pointSeries q))) (va_up (tdT x.stay x.pointTimes q) n (x.pointTimes q))) (va_up (tdT x.stay x.pointValues q) n (x.pointValues q))) (tdT x.stay x.places q)) (tdT x.stay x.hidden q)) (tdT x.stay x.baseHidden q))) := hD
          refine lv_aload_n hx hb d_M_tidy_62 rfl (lv_at hl 2 rfl) ?_
          refine gF (v := .ref (ad 20)) hx hb hown hE hK hP 0 rfl rfl layM 20 (by decide) w506 rfl d_M_tidy_63 ?_
          refine lv_iload_n hx hb d_M_tidy_66 rfl (lv_at hl 1 rfl) ?_
          refine lv_aload_n hx hb d_M_tidy_67 rfl (lv_at hl 2 rfl) ?_
          refine gF (v := .ref (ad 20)) hx hb hown hE hK hP 0 rfl rfl layM 20 (by decide) w506 rfl d_M_tidy_68 ?_
          refine lv_iload_n hx hb d_M_tidy_71 rfl (lv_at hl 0 rfl) ?_
          refine nild (f := (tdT x.stay x.places q)) hx hb hK hP 9 1 rfl rfl (q) (by omega) (by decide) d_M_tidy_72 ?_
          refine tpi (y := (x.places q)) (tdT_at _ _ (Nat.le_refl q)) ?_
          refine nist hx hb hK hP hD hS 9 1 rfl rfl (n) (by omega) (by decide) d_M_tidy_73 (fun H locs hP hD hS => ?_)
          have hP : va_P D vwCl (MW dA h ad (MS.s_baseHidden (MS.s_hidden (MS.s_places (MS.s_pointValues (MS.s_pointTimes (MS.s_pointSeries x (va_up (tdT x.stay x.pointSeries q) n (x.pointSeries q))) (va_up (tdT x.stay x.pointTimes q) n (x.pointTimes q))) (va_up (tdT x.stay x.pointValues q) n (x.pointValues q))) (va_up (tdT x.stay x.places q) n (x.places q))) (tdT x.stay x.hidden q)) (tdT x.stay x.baseHidden q))) H := hP
          have hD : va_D A (MW dA h ad (MS.s_baseHidden (MS.s_hidden (MS.s_places (MS.s_pointValues (MS.s_pointTimes (MS.s_pointSeries x (va_up (tdT x.stay x.pointSeries q) n (x.pointSeries q))) (va_up (tdT x.stay x.pointTimes q) n (x.pointTimes q))) (va_up (tdT x.stay x.pointValues q) n (x.pointValues q))) (va_up (tdT x.stay x.places q) n (x.places q))) (tdT x.stay x.hidden q)) (tdT x.stay x.baseHidden q))) := hD
          refine lv_aload_n hx hb d_M_tidy_74 rfl (lv_at hl 2 rfl) ?_
          refine gF (v := .ref (ad 21)) hx hb hown hE hK hP 0 rfl rfl layM 21 (by decide) w507 rfl d_M_tidy_75 ?_
          refine lv_iload_n hx hb d_M_tidy_78 rfl (lv_at hl 1 rfl) ?_
          refine lv_aload_n hx hb d_M_tidy_79 rfl (lv_at hl 2 rfl) ?_
          refine gF (v := .ref (ad 21)) hx hb hown hE hK hP 0 rfl rfl layM 21 (by decide) w507 rfl d_M_tidy_80 ?_
          refine lv_iload_n hx hb d_M_tidy_83 rfl (lv_at hl 0 rfl) ?_
          refine nild (f := (tdT x.stay x.hidden q)) hx hb hK hP 10 1 rfl rfl (q) (by omega) (by decide) d_M_tidy_84 ?_
          refine tpi (y := (x.hidden q)) (tdT_at _ _ (Nat.le_refl q)) ?_
          refine nist hx hb hK hP hD hS 10 1 rfl rfl (n) (by omega) (by decide) d_M_tidy_85 (fun H locs hP hD hS => ?_)
          have hP : va_P D vwCl (MW dA h ad (MS.s_baseHidden (MS.s_hidden (MS.s_places (MS.s_pointValues (MS.s_pointTimes (MS.s_pointSeries x (va_up (tdT x.stay x.pointSeries q) n (x.pointSeries q))) (va_up (tdT x.stay x.pointTimes q) n (x.pointTimes q))) (va_up (tdT x.stay x.pointValues q) n (x.pointValues q))) (va_up (tdT x.stay x.places q) n (x.places q))) (va_up (tdT x.stay x.hidden q) n (x.hidden q))) (tdT x.stay x.baseHidden q))) H := hP
          have hD : va_D A (MW dA h ad (MS.s_baseHidden (MS.s_hidden (MS.s_places (MS.s_pointValues (MS.s_pointTimes (MS.s_pointSeries x (va_up (tdT x.stay x.pointSeries q) n (x.pointSeries q))) (va_up (tdT x.stay x.pointTimes q) n (x.pointTimes q))) (va_up (tdT x.stay x.pointValues q) n (x.pointValues q))) (va_up (tdT x.stay x.places q) n (x.places q))) (va_up (tdT x.stay x.hidden q) n (x.hidden q))) (tdT x.stay x.baseHidden q))) := hD
          refine lv_aload_n hx hb d_M_tidy_86 rfl (lv_at hl 2 rfl) ?_
          refine gF (v := .ref (ad 22)) hx hb hown hE hK hP 0 rfl rfl layM 22 (by decide) w508 rfl d_M_tidy_87 ?_
          refine lv_iload_n hx hb d_M_tidy_90 rfl (lv_at hl 1 rfl) ?_
          refine lv_aload_n hx hb d_M_tidy_91 rfl (lv_at hl 2 rfl) ?_
          refine gF (v := .ref (ad 22)) hx hb hown hE hK hP 0 rfl rfl layM 22 (by decide) w508 rfl d_M_tidy_92 ?_
          refine lv_iload_n hx hb d_M_tidy_95 rfl (lv_at hl 0 rfl) ?_
          refine nild (f := (tdT x.stay x.baseHidden q)) hx hb hK hP 11 1 rfl rfl (q) (by omega) (by decide) d_M_tidy_96 ?_
          refine tpi (y := (x.baseHidden q)) (tdT_at _ _ (Nat.le_refl q)) ?_
          refine nist hx hb hK hP hD hS 11 1 rfl rfl (n) (by omega) (by decide) d_M_tidy_97 (fun H locs hP hD hS => ?_)
          have hP : va_P D vwCl (MW dA h ad (MS.s_baseHidden (MS.s_hidden (MS.s_places (MS.s_pointValues (MS.s_pointTimes (MS.s_pointSeries x (va_up (tdT x.stay x.pointSeries q) n (x.pointSeries q))) (va_up (tdT x.stay x.pointTimes q) n (x.pointTimes q))) (va_up (tdT x.stay x.pointValues q) n (x.pointValues q))) (va_up (tdT x.stay x.places q) n (x.places q))) (va_up (tdT x.stay x.hidden q) n (x.hidden q))) (va_up (tdT x.stay x.baseHidden q) n (x.baseHidden q)))) H := hP
          have hD : va_D A (MW dA h ad (MS.s_baseHidden (MS.s_hidden (MS.s_places (MS.s_pointValues (MS.s_pointTimes (MS.s_pointSeries x (va_up (tdT x.stay x.pointSeries q) n (x.pointSeries q))) (va_up (tdT x.stay x.pointTimes q) n (x.pointTimes q))) (va_up (tdT x.stay x.pointValues q) n (x.pointValues q))) (va_up (tdT x.stay x.places q) n (x.places q))) (va_up (tdT x.stay x.hidden q) n (x.hidden q))) (va_up (tdT x.stay x.baseHidden q) n (x.baseHidden q)))) := hD
          refine lv_iinc (k := 1) (v := nI (n + 1)) hx hb d_M_tidy_98 hl rfl (iincN (n) 1 1 (by decide)) (by decide) rfl (fun ls hl => ?_)
          have hl : lv_has ls 3 [(1, .int (nI (n + 1))), (2, .int (nI q)), (0, .ref h)] := hl
          refine lv_iinc (k := 1) (v := nI (q + 1)) hx hb d_M_tidy_101 hl rfl (iincN (q) 1 1 (by decide)) (by decide) rfl (fun ls hl => ?_)
          have hl : lv_has ls 3 [(2, .int (nI (q + 1))), (1, .int (nI (n + 1))), (0, .ref h)] := hl
          refine lv_goto hx hb d_M_tidy_104 (tgt := 4) rfl ?_
          have e9 : (MS.s_baseHidden (MS.s_hidden (MS.s_places (MS.s_pointValues (MS.s_pointTimes (MS.s_pointSeries x (va_up (tdT x.stay x.pointSeries q) n (x.pointSeries q))) (va_up (tdT x.stay x.pointTimes q) n (x.pointTimes q))) (va_up (tdT x.stay x.pointValues q) n (x.pointValues q))) (va_up (tdT x.stay x.places q) n (x.places q))) (va_up (tdT x.stay x.hidden q) n (x.hidden q))) (va_up (tdT x.stay x.baseHidden q) n (x.baseHidden q)) : MS) = MS.s_baseHidden (MS.s_hidden (MS.s_places (MS.s_pointValues (MS.s_pointTimes (MS.s_pointSeries x (tdT x.stay x.pointSeries (q + 1))) (tdT x.stay x.pointTimes (q + 1))) (tdT x.stay x.pointValues (q + 1))) (tdT x.stay x.places (q + 1))) (tdT x.stay x.hidden (q + 1))) (tdT x.stay x.baseHidden (q + 1)) := by rw [show (tdT x.stay x.pointSeries (q + 1)) = (va_up (tdT x.stay x.pointSeries q) n (x.pointSeries q)) from (by first | rfl | exact tdT_f (by simp [MS.stay, *]) | exact tdT_t (by simp [MS.stay, *]) rfl | (rw [i2]; exact tdT_t (by simp [MS.stay, *]) rfl)), show (tdT x.stay x.pointValues (q + 1)) = (va_up (tdT x.stay x.pointValues q) n (x.pointValues q)) from (by first | rfl | exact tdT_f (by simp [MS.stay, *]) | exact tdT_t (by simp [MS.stay, *]) rfl | (rw [i2]; exact tdT_t (by simp [MS.stay, *]) rfl)), show (tdT x.stay x.baseHidden (q + 1)) = (va_up (tdT x.stay x.baseHidden q) n (x.baseHidden q)) from (by first | rfl | exact tdT_f (by simp [MS.stay, *]) | exact tdT_t (by simp [MS.stay, *]) rfl | (rw [i2]; exact tdT_t (by simp [MS.stay, *]) rfl)), show (tdT x.stay x.pointTimes (q + 1)) = (va_up (tdT x.stay x.pointTimes q) n (x.pointTimes q)) from (by first | rfl | exact tdT_f (by simp [MS.stay, *]) | exact tdT_t (by simp [MS.stay, *]) rfl | (rw [i2]; exact tdT_t (by simp [MS.stay, *]) rfl)), show (tdT x.stay x.hidden (q + 1)) = (va_up (tdT x.stay x.hidden q) n (x.hidden q)) from (by first | rfl | exact tdT_f (by simp [MS.stay, *]) | exact tdT_t (by simp [MS.stay, *]) rfl | (rw [i2]; exact tdT_t (by simp [MS.stay, *]) rfl)), show (tdT x.stay x.places (q + 1)) = (va_up (tdT x.stay x.places q) n (x.places q)) from (by first | rfl | exact tdT_f (by simp [MS.stay, *]) | exact tdT_t (by simp [MS.stay, *]) rfl | (rw [i2]; exact tdT_t (by simp [MS.stay, *]) rfl))] <;> rfl
          exact ih4 _ (by omega) (q + 1) (n + 1) (by omega) (by simp [cnt, MS.stay, *]) rfl H _ ls (cvP e9 hP) (cvD e9 hD) hS (lv_sub hl [0, 1, 2] rfl)
        · have g2 := g2
          refine lv_goto hx hb d_M_tidy_23 (tgt := 101) rfl ?_
          refine lv_iinc (k := 0) (v := nI (q + 1)) hx hb d_M_tidy_101 hl rfl (iincN (q) 1 1 (by decide)) (by decide) rfl (fun ls hl => ?_)
          have hl : lv_has ls 3 [(2, .int (nI (q + 1))), (1, .int (nI n)), (0, .ref h)] := hl
          refine lv_goto hx hb d_M_tidy_104 (tgt := 4) rfl ?_
          have e9 : (MS.s_baseHidden (MS.s_hidden (MS.s_places (MS.s_pointValues (MS.s_pointTimes (MS.s_pointSeries x (tdT x.stay x.pointSeries q)) (tdT x.stay x.pointTimes q)) (tdT x.stay x.pointValues q)) (tdT x.stay x.places q)) (tdT x.stay x.hidden q)) (tdT x.stay x.baseHidden q) : MS) = MS.s_baseHidden (MS.s_hidden (MS.s_places (MS.s_pointValues (MS.s_pointTimes (MS.s_pointSeries x (tdT x.stay x.pointSeries (q + 1))) (tdT x.stay x.pointTimes (q + 1))) (tdT x.stay x.pointValues (q + 1))) (tdT x.stay x.places (q + 1))) (tdT x.stay x.hidden (q + 1))) (tdT x.stay x.baseHidden (q + 1)) := by rw [show (tdT x.stay x.pointSeries (q + 1)) = (tdT x.stay x.pointSeries q) from (by first | rfl | exact tdT_f (by simp [MS.stay, *]) | exact tdT_t (by simp [MS.stay, *]) rfl | (rw [i2]; exact tdT_t (by simp [MS.stay, *]) rfl)), show (tdT x.stay x.pointValues (q + 1)) = (tdT x.stay x.pointValues q) from (by first | rfl | exact tdT_f (by simp [MS.stay, *]) | exact tdT_t (by simp [MS.stay, *]) rfl | (rw [i2]; exact tdT_t (by simp [MS.stay, *]) rfl)), show (tdT x.stay x.baseHidden (q + 1)) = (tdT x.stay x.baseHidden q) from (by first | rfl | exact tdT_f (by simp [MS.stay, *]) | exact tdT_t (by simp [MS.stay, *]) rfl | (rw [i2]; exact tdT_t (by simp [MS.stay, *]) rfl)), show (tdT x.stay x.pointTimes (q + 1)) = (tdT x.stay x.pointTimes q) from (by first | rfl | exact tdT_f (by simp [MS.stay, *]) | exact tdT_t (by simp [MS.stay, *]) rfl | (rw [i2]; exact tdT_t (by simp [MS.stay, *]) rfl)), show (tdT x.stay x.hidden (q + 1)) = (tdT x.stay x.hidden q) from (by first | rfl | exact tdT_f (by simp [MS.stay, *]) | exact tdT_t (by simp [MS.stay, *]) rfl | (rw [i2]; exact tdT_t (by simp [MS.stay, *]) rfl)), show (tdT x.stay x.places (q + 1)) = (tdT x.stay x.places q) from (by first | rfl | exact tdT_f (by simp [MS.stay, *]) | exact tdT_t (by simp [MS.stay, *]) rfl | (rw [i2]; exact tdT_t (by simp [MS.stay, *]) rfl))] <;> rfl
          exact ih4 _ (by omega) (q + 1) n (by omega) (by simp [cnt, MS.stay, *]) rfl H _ ls (cvP e9 hP) (cvD e9 hD) hS (lv_sub hl [0, 1, 2] rfl)
  have e9 : (x : MS) = MS.s_baseHidden (MS.s_hidden (MS.s_places (MS.s_pointValues (MS.s_pointTimes (MS.s_pointSeries x (tdT x.stay x.pointSeries 0)) (tdT x.stay x.pointTimes 0)) (tdT x.stay x.pointValues 0)) (tdT x.stay x.places 0)) (tdT x.stay x.hidden 0)) (tdT x.stay x.baseHidden 0) := by rw [show (tdT x.stay x.pointSeries 0) = x.pointSeries from (by first | rfl | exact tdT_f (by simp [MS.stay, *]) | exact tdT_t (by simp [MS.stay, *]) rfl | (rw [i2]; exact tdT_t (by simp [MS.stay, *]) rfl)), show (tdT x.stay x.pointValues 0) = x.pointValues from (by first | rfl | exact tdT_f (by simp [MS.stay, *]) | exact tdT_t (by simp [MS.stay, *]) rfl | (rw [i2]; exact tdT_t (by simp [MS.stay, *]) rfl)), show (tdT x.stay x.baseHidden 0) = x.baseHidden from (by first | rfl | exact tdT_f (by simp [MS.stay, *]) | exact tdT_t (by simp [MS.stay, *]) rfl | (rw [i2]; exact tdT_t (by simp [MS.stay, *]) rfl)), show (tdT x.stay x.pointTimes 0) = x.pointTimes from (by first | rfl | exact tdT_f (by simp [MS.stay, *]) | exact tdT_t (by simp [MS.stay, *]) rfl | (rw [i2]; exact tdT_t (by simp [MS.stay, *]) rfl)), show (tdT x.stay x.hidden 0) = x.hidden from (by first | rfl | exact tdT_f (by simp [MS.stay, *]) | exact tdT_t (by simp [MS.stay, *]) rfl | (rw [i2]; exact tdT_t (by simp [MS.stay, *]) rfl)), show (tdT x.stay x.places 0) = x.places from (by first | rfl | exact tdT_f (by simp [MS.stay, *]) | exact tdT_t (by simp [MS.stay, *]) rfl | (rw [i2]; exact tdT_t (by simp [MS.stay, *]) rfl))] <;> rfl
  exact L4 _ 0 0 (by omega) rfl rfl H _ ls (cvP e9 hP) (cvD e9 hD) hS (lv_sub hl [0, 1, 2] rfl)
theorem d_M_free_27 : decode prog_14_method_9_code 27 = .ok (.iload_n 1, 1) := by decide +kernel
theorem d_M_free_28 : decode prog_14_method_9_code 28 = .ok (.aload_n 0, 1) := by decide +kernel
theorem d_M_free_29 : decode prog_14_method_9_code 29 = .ok (.getfield 64, 3) := by decide +kernel
theorem d_M_free_32 : decode prog_14_method_9_code 32 = .ok (.iload_n 2, 1) := by decide +kernel
theorem d_M_free_33 : decode prog_14_method_9_code 33 = .ok (.iaload, 1) := by decide +kernel
theorem d_M_free_34 : decode prog_14_method_9_code 34 = .ok (.isub, 1) := by decide +kernel
theorem d_M_free_35 : decode prog_14_method_9_code 35 = .ok (.istore_n 1, 1) := by decide +kernel
theorem d_M_free_36 : decode prog_14_method_9_code 36 = .ok (.iinc 2 1, 3) := by decide +kernel
theorem d_M_free_39 : decode prog_14_method_9_code 39 = .ok (.goto (-20), 3) := by decide +kernel
set_option maxHeartbeats 4000000 in
set_option maxRecDepth 100000 in
theorem k_free (l : Launch) (D : va_G) (dA : Nat → ClassId) (sz : Nat) (h : Nat) (ad : Nat → Nat) (x : MS) (h1 : x.parcelCount ≤ 40) (h2 : 2 + x.journal + x.catalogBlocks + sumN x.parcelCount x.parcelBlocks ≤ x.blocks) (h3 : x.blocks ≤ 256) : Met l ⟨"SeriesVaultModel", "free", "()I"⟩ [Cond.code ⟨"SeriesVaultModel", "free", "()I"⟩ prog_14_method_9_code 3 (some FieldType.int)] { frames := 1, cells := 0, slots := 0, locals := 0 } (pC D dA [.ref h] (MW dA h ad x) sz) (va_Qi (fun (r9 : Int32) (u9 : Unit) => r9 = nI x.freeN) (fun (u9 : Unit) t9 => bW D (va_A (MW dA h ad x) sz) (MW dA h ad x) t9) (va_A (MW dA h ad x) sz)) 0 0 (va_A (MW dA h ad x) sz) := by
  refine mkC (y := ⟨"SeriesVaultModel", "free", "()I"⟩) (cc := prog_14_method_9_code) (maxL := 3) (av := [.ref h]) (ws := MW dA h ad x) (sz := sz) (Qc := fun A => va_Qi (fun (r9 : Int32) (u9 : Unit) => r9 = nI x.freeN) (fun (u9 : Unit) t9 => bW D A (MW dA h ad x) t9) A) (by decide) (Nat.le_of_ble_eq_true rfl) ?_
  intro A p e s m below meth c ls hsz hB
  obtain ⟨hx, hb, hr, hml, hown, hin, hlk, hE, hK, hP, hD, hS, hA, hN, hl⟩ := hB
  have hown : s.vm.findClass "SeriesVaultModel" = some m.cls := hown
  have hl : lv_has ls 3 [(0, .ref h)] := hl
  obtain ⟨H, hH⟩ : ∃ z, z = s.heap := ⟨_, rfl⟩
  have hP : va_P D vwCl (MW dA h ad x) H := by rw [hH]; exact hP
  have hS : va_S A s.heap H [] := by rw [hH]; exact hS
  rw [← hH]
  refine lv_aload_n hx hb d_M_free_0 rfl (lv_at hl 0 rfl) ?_
  refine gF (v := .int (nI x.blocks)) hx hb hown hE hK hP 0 rfl rfl layM 5 (by decide) w416 rfl d_M_free_1 ?_
  refine lv_iconst (v := 2) hx hb d_M_free_4 (by decide) ?_
  refine lv_isub hx hb d_M_free_5 (tpi (y := nI (x.blocks - 2)) (pk_sub (a := x.blocks) (b := 2) (by omega)) ?_)
  refine lv_aload_n hx hb d_M_free_6 rfl (lv_at hl 0 rfl) ?_
  refine gF (v := .int (nI x.journal)) hx hb hown hE hK hP 0 rfl rfl layM 6 (by decide) w417 rfl d_M_free_7 ?_
  refine lv_isub hx hb d_M_free_10 (tpi (y := nI ((x.blocks - 2) - x.journal)) (pk_sub (a := x.blocks - 2) (b := x.journal) (by omega)) ?_)
  refine lv_aload_n hx hb d_M_free_11 rfl (lv_at hl 0 rfl) ?_
  refine gF (v := .int (nI x.catalogBlocks)) hx hb hown hE hK hP 0 rfl rfl layM 16 (by decide) w419 rfl d_M_free_12 ?_
  refine lv_isub hx hb d_M_free_15 (tpi (y := nI (((x.blocks - 2) - x.journal) - x.catalogBlocks)) (pk_sub (a := (x.blocks - 2) - x.journal) (b := x.catalogBlocks) (by omega)) ?_)
  refine lv_istore_n hx hb d_M_free_16 rfl hl (by decide) rfl (fun ls hl => ?_)
  have hl : lv_has ls 3 [(1, .int (nI (((x.blocks - 2) - x.journal) - x.catalogBlocks))), (0, .ref h)] := hl
  refine lv_iconst (v := 0) hx hb d_M_free_17 (by decide) ?_
  refine lv_istore_n hx hb d_M_free_18 rfl hl (by decide) rfl (fun ls hl => ?_)
  have hl : lv_has ls 3 [(2, .int 0), (1, .int (nI (((x.blocks - 2) - x.journal) - x.catalogBlocks))), (0, .ref h)] := hl
  have L19 : ∀ (k9 : Nat) (k : Nat) (n : Nat) (i1 : k ≤ x.parcelCount) (i3 : n + sumN k x.parcelBlocks = x.blocks - 2 - x.journal - x.catalogBlocks) (hk9 : x.parcelCount - k = k9), ∀ (H : Heap) (locs : List Loc) (ls : Array Slot) (hP : va_P D vwCl (MW dA h ad x) H) (hD : va_D A (MW dA h ad x)) (hS : va_S A s.heap H locs) (hl : lv_has ls 3 [(2, .int (nI k)), (1, .int (nI n)), (0, .ref h)]), W p l e ({ frames := 1, cells := 0, slots := 0, locals := 0 } : Room) s m ([.ref h] : List Value).toArray below meth c H locs 0 0 (MQ below (va_Qi (fun (r9 : Int32) (u9 : Unit) => r9 = nI x.freeN) (fun (u9 : Unit) t9 => bW D A (MW dA h ad x) t9) A) ([.ref h] : List Value).toArray s 0 0 A) (F0 m 19 ls []) := by
    intro k9
    induction k9 using Nat.strongRecOn with
    | ind k9 ih19 =>
      intro k n i1 i3 hk9 H locs ls hP hD hS hl
      refine lv_iload_n hx hb d_M_free_19 rfl (lv_at hl 0 rfl) ?_
      refine lv_aload_n hx hb d_M_free_20 rfl (lv_at hl 2 rfl) ?_
      refine gF (v := .int (nI x.parcelCount)) hx hb hown hE hK hP 0 rfl rfl layM 28 (by decide) w344 rfl d_M_free_21 ?_
      refine lv_icmp_ge hx hb d_M_free_24 (tgt := 42) rfl (fun g1 => ?_) (fun g1 => ?_)
      · have g1 := (nI_leI (a := x.parcelCount) (b := k) (by omega) (by omega)).mp g1
        refine lv_iload_n hx hb d_M_free_42 rfl (lv_at hl 1 rfl) ?_
        exact rfI hx hb hr hlk hS () (congrArg nI (by rw [show k = x.parcelCount by omega] at i3; unfold MS.freeN; omega)) hP hD (Nat.le_of_ble_eq_true rfl) (Nat.le_of_ble_eq_true rfl) d_M_free_43
      · have g1 := mt (nI_leI (a := x.parcelCount) (b := k) (by omega) (by omega)).mpr g1
        refine lv_iload_n hx hb d_M_free_27 rfl (lv_at hl 1 rfl) ?_
        refine lv_aload_n hx hb d_M_free_28 rfl (lv_at hl 2 rfl) ?_
        refine gF (v := .ref (ad 27)) hx hb hown hE hK hP 0 rfl rfl layM 27 (by decide) w510 rfl d_M_free_29 ?_
        refine lv_iload_n hx hb d_M_free_32 rfl (lv_at hl 0 rfl) ?_
        refine nild (f := (fun z9 => nI (x.parcelBlocks z9))) hx hb hK hP 13 1 rfl rfl (k) (by omega) (by decide) d_M_free_33 ?_
        have i4 := sumN_lt x.parcelBlocks (show k < x.parcelCount by omega)
        refine lv_isub hx hb d_M_free_34 (tpi (y := nI (n - (x.parcelBlocks k))) (pk_sub (a := n) (b := x.parcelBlocks k) (by omega)) ?_)
        refine lv_istore_n hx hb d_M_free_35 rfl hl (by decide) rfl (fun ls hl => ?_)
        have hl : lv_has ls 3 [(1, .int (nI (n - (x.parcelBlocks k)))), (2, .int (nI k)), (0, .ref h)] := hl
        refine lv_iinc (k := 1) (v := nI (k + 1)) hx hb d_M_free_36 hl rfl (iincN (k) 1 1 (by decide)) (by decide) rfl (fun ls hl => ?_)
        have hl : lv_has ls 3 [(2, .int (nI (k + 1))), (1, .int (nI (n - (x.parcelBlocks k)))), (0, .ref h)] := hl
        refine lv_goto hx hb d_M_free_39 (tgt := 19) rfl ?_
        exact ih19 _ (by omega) (k + 1) (n - (x.parcelBlocks k)) (by omega) (by show _ + (sumN k x.parcelBlocks + x.parcelBlocks k) = _; omega) rfl H _ ls hP hD hS (lv_sub hl [0, 1, 2] rfl)
  exact L19 _ 0 (((x.blocks - 2) - x.journal) - x.catalogBlocks) (by omega) (by show _ + 0 = _; omega) rfl H _ ls hP hD hS (lv_sub hl [0, 1, 2] rfl)
theorem d_M_scars_35 : decode prog_14_method_15_code 35 = .ok (.istore_n 3, 1) := by decide +kernel
theorem d_M_scars_87 : decode prog_14_method_15_code 87 = .ok (.iload_n 1, 1) := by decide +kernel
theorem d_M_scars_88 : decode prog_14_method_15_code 88 = .ok (.iload_n 3, 1) := by decide +kernel
theorem d_M_scars_89 : decode prog_14_method_15_code 89 = .ok (.ifCond .eq 7, 3) := by decide +kernel
theorem d_M_scars_96 : decode prog_14_method_15_code 96 = .ok (.iconst 0, 1) := by decide +kernel
theorem d_M_scars_97 : decode prog_14_method_15_code 97 = .ok (.iadd, 1) := by decide +kernel
theorem d_M_scars_98 : decode prog_14_method_15_code 98 = .ok (.istore_n 1, 1) := by decide +kernel
theorem d_M_scars_99 : decode prog_14_method_15_code 99 = .ok (.iinc 2 1, 3) := by decide +kernel
theorem d_M_scars_102 : decode prog_14_method_15_code 102 = .ok (.goto (-98), 3) := by decide +kernel
theorem d_M_scars_92 : decode prog_14_method_15_code 92 = .ok (.iconst 1, 1) := by decide +kernel
theorem d_M_scars_93 : decode prog_14_method_15_code 93 = .ok (.goto 4, 3) := by decide +kernel
theorem d_M_scars_36 : decode prog_14_method_15_code 36 = .ok (.iconst 0, 1) := by decide +kernel
theorem d_M_scars_37 : decode prog_14_method_15_code 37 = .ok (.istore 4, 2) := by decide +kernel
theorem d_M_scars_39 : decode prog_14_method_15_code 39 = .ok (.iload 4, 2) := by decide +kernel
theorem d_M_scars_41 : decode prog_14_method_15_code 41 = .ok (.iload_n 2, 1) := by decide +kernel
theorem d_M_scars_42 : decode prog_14_method_15_code 42 = .ok (.if_icmp .ge 45, 3) := by decide +kernel
theorem d_M_scars_45 : decode prog_14_method_15_code 45 = .ok (.iload_n 3, 1) := by decide +kernel
theorem d_M_scars_46 : decode prog_14_method_15_code 46 = .ok (.ifCond .eq 41, 3) := by decide +kernel
theorem d_M_scars_49 : decode prog_14_method_15_code 49 = .ok (.aload_n 0, 1) := by decide +kernel
theorem d_M_scars_50 : decode prog_14_method_15_code 50 = .ok (.getfield 52, 3) := by decide +kernel
theorem d_M_scars_53 : decode prog_14_method_15_code 53 = .ok (.iload 4, 2) := by decide +kernel
theorem d_M_scars_55 : decode prog_14_method_15_code 55 = .ok (.iaload, 1) := by decide +kernel
theorem d_M_scars_56 : decode prog_14_method_15_code 56 = .ok (.ifCond .lt 19, 3) := by decide +kernel
theorem d_M_scars_75 : decode prog_14_method_15_code 75 = .ok (.iconst 1, 1) := by decide +kernel
theorem d_M_scars_76 : decode prog_14_method_15_code 76 = .ok (.goto 4, 3) := by decide +kernel
theorem d_M_scars_80 : decode prog_14_method_15_code 80 = .ok (.istore_n 3, 1) := by decide +kernel
theorem d_M_scars_81 : decode prog_14_method_15_code 81 = .ok (.iinc 4 1, 3) := by decide +kernel
theorem d_M_scars_84 : decode prog_14_method_15_code 84 = .ok (.goto (-45), 3) := by decide +kernel
theorem d_M_scars_59 : decode prog_14_method_15_code 59 = .ok (.aload_n 0, 1) := by decide +kernel
theorem d_M_scars_60 : decode prog_14_method_15_code 60 = .ok (.getfield 55, 3) := by decide +kernel
theorem d_M_scars_63 : decode prog_14_method_15_code 63 = .ok (.iload 4, 2) := by decide +kernel
theorem d_M_scars_65 : decode prog_14_method_15_code 65 = .ok (.iaload, 1) := by decide +kernel
theorem d_M_scars_66 : decode prog_14_method_15_code 66 = .ok (.aload_n 0, 1) := by decide +kernel
theorem d_M_scars_67 : decode prog_14_method_15_code 67 = .ok (.getfield 55, 3) := by decide +kernel
theorem d_M_scars_70 : decode prog_14_method_15_code 70 = .ok (.iload_n 2, 1) := by decide +kernel
theorem d_M_scars_71 : decode prog_14_method_15_code 71 = .ok (.iaload, 1) := by decide +kernel
theorem d_M_scars_72 : decode prog_14_method_15_code 72 = .ok (.if_icmp .eq 7, 3) := by decide +kernel
theorem d_M_scars_79 : decode prog_14_method_15_code 79 = .ok (.iconst 0, 1) := by decide +kernel
theorem d_M_scars_12 : decode prog_14_method_15_code 12 = .ok (.aload_n 0, 1) := by decide +kernel
theorem d_M_scars_13 : decode prog_14_method_15_code 13 = .ok (.getfield 52, 3) := by decide +kernel
theorem d_M_scars_16 : decode prog_14_method_15_code 16 = .ok (.iload_n 2, 1) := by decide +kernel
theorem d_M_scars_17 : decode prog_14_method_15_code 17 = .ok (.iaload, 1) := by decide +kernel
theorem d_M_scars_18 : decode prog_14_method_15_code 18 = .ok (.ifCond .lt 16, 3) := by decide +kernel
theorem d_M_scars_34 : decode prog_14_method_15_code 34 = .ok (.iconst 0, 1) := by decide +kernel
theorem d_M_scars_21 : decode prog_14_method_15_code 21 = .ok (.aload_n 0, 1) := by decide +kernel
theorem d_M_scars_22 : decode prog_14_method_15_code 22 = .ok (.getfield 55, 3) := by decide +kernel
theorem d_M_scars_25 : decode prog_14_method_15_code 25 = .ok (.iload_n 2, 1) := by decide +kernel
theorem d_M_scars_26 : decode prog_14_method_15_code 26 = .ok (.iaload, 1) := by decide +kernel
theorem d_M_scars_27 : decode prog_14_method_15_code 27 = .ok (.ifCond .lt 7, 3) := by decide +kernel
theorem d_M_scars_30 : decode prog_14_method_15_code 30 = .ok (.iconst 1, 1) := by decide +kernel
theorem d_M_scars_31 : decode prog_14_method_15_code 31 = .ok (.goto 4, 3) := by decide +kernel
set_option maxHeartbeats 4000000 in
set_option maxRecDepth 100000 in
theorem k_scars (l : Launch) (D : va_G) (dA : Nat → ClassId) (sz : Nat) (h : Nat) (ad : Nat → Nat) (x : MS) (h1 : x.points ≤ 12000) : Met l ⟨"SeriesVaultModel", "scars", "()I"⟩ [Cond.code ⟨"SeriesVaultModel", "scars", "()I"⟩ prog_14_method_15_code 5 (some FieldType.int)] { frames := 1, cells := 0, slots := 0, locals := 0 } (pC D dA [.ref h] (MW dA h ad x) sz) (va_Qi (fun (r9 : Int32) (u9 : Unit) => r9 = nI (cnt x.points x.firstOf)) (fun (u9 : Unit) t9 => bW D (va_A (MW dA h ad x) sz) (MW dA h ad x) t9) (va_A (MW dA h ad x) sz)) 0 0 (va_A (MW dA h ad x) sz) := by
  refine mkC (y := ⟨"SeriesVaultModel", "scars", "()I"⟩) (cc := prog_14_method_15_code) (maxL := 5) (av := [.ref h]) (ws := MW dA h ad x) (sz := sz) (Qc := fun A => va_Qi (fun (r9 : Int32) (u9 : Unit) => r9 = nI (cnt x.points x.firstOf)) (fun (u9 : Unit) t9 => bW D A (MW dA h ad x) t9) A) (by decide) (Nat.le_of_ble_eq_true rfl) ?_
  intro A p e s m below meth c ls hsz hB
  obtain ⟨hx, hb, hr, hml, hown, hin, hlk, hE, hK, hP, hD, hS, hA, hN, hl⟩ := hB
  have hown : s.vm.findClass "SeriesVaultModel" = some m.cls := hown
  have hl : lv_has ls 5 [(0, .ref h)] := hl
  obtain ⟨H, hH⟩ : ∃ z, z = s.heap := ⟨_, rfl⟩
  have hP : va_P D vwCl (MW dA h ad x) H := by rw [hH]; exact hP
  have hS : va_S A s.heap H [] := by rw [hH]; exact hS
  rw [← hH]
  refine lv_iconst (v := 0) hx hb d_M_scars_0 (by decide) ?_
  refine lv_istore_n hx hb d_M_scars_1 rfl hl (by decide) rfl (fun ls hl => ?_)
  have hl : lv_has ls 5 [(1, .int 0), (0, .ref h)] := hl
  refine lv_iconst (v := 0) hx hb d_M_scars_2 (by decide) ?_
  refine lv_istore_n hx hb d_M_scars_3 rfl hl (by decide) rfl (fun ls hl => ?_)
  have hl : lv_has ls 5 [(2, .int 0), (1, .int 0), (0, .ref h)] := hl
  have L4 : ∀ (k9 : Nat) (q : Nat) (n : Nat) (i1 : q ≤ x.points) (i2 : n = cnt q x.firstOf) (hk9 : x.points - q = k9), ∀ (H : Heap) (locs : List Loc) (ls : Array Slot) (hP : va_P D vwCl (MW dA h ad x) H) (hD : va_D A (MW dA h ad x)) (hS : va_S A s.heap H locs) (hl : lv_has ls 5 [(2, .int (nI q)), (1, .int (nI n)), (0, .ref h)]), W p l e ({ frames := 1, cells := 0, slots := 0, locals := 0 } : Room) s m ([.ref h] : List Value).toArray below meth c H locs 0 0 (MQ below (va_Qi (fun (r9 : Int32) (u9 : Unit) => r9 = nI (cnt x.points x.firstOf)) (fun (u9 : Unit) t9 => bW D A (MW dA h ad x) t9) A) ([.ref h] : List Value).toArray s 0 0 A) (F0 m 4 ls []) := by
    intro k9
    induction k9 using Nat.strongRecOn with
    | ind k9 ih4 =>
      intro q n i1 i2 hk9 H locs ls hP hD hS hl
      refine lv_iload_n hx hb d_M_scars_4 rfl (lv_at hl 0 rfl) ?_
      refine lv_aload_n hx hb d_M_scars_5 rfl (lv_at hl 2 rfl) ?_
      refine gF (v := .int (nI x.points)) hx hb hown hE hK hP 0 rfl rfl layM 23 (by decide) w420 rfl d_M_scars_6 ?_
      refine lv_icmp_ge hx hb d_M_scars_9 (tgt := 105) rfl (fun g1 => ?_) (fun g1 => ?_)
      · have g1 := (nI_leI (a := x.points) (b := q) (by omega) (by omega)).mp g1
        refine lv_iload_n hx hb d_M_scars_105 rfl (lv_at hl 1 rfl) ?_
        exact rfI hx hb hr hlk hS () (by rw [i2, show q = x.points by omega]) hP hD (Nat.le_of_ble_eq_true rfl) (Nat.le_of_ble_eq_true rfl) d_M_scars_106
      · have g1 := mt (nI_leI (a := x.points) (b := q) (by omega) (by omega)).mpr g1
        have J35 : ∀ (v : Bool) (j0 : x.scB q = v), ∀ (H : Heap) (locs : List Loc) (ls : Array Slot) (hP : va_P D vwCl (MW dA h ad x) H) (hD : va_D A (MW dA h ad x)) (hS : va_S A s.heap H locs) (hl : lv_has ls 5 [(2, .int (nI q)), (1, .int (nI n)), (0, .ref h)]), W p l e ({ frames := 1, cells := 0, slots := 0, locals := 0 } : Room) s m ([.ref h] : List Value).toArray below meth c H locs 0 0 (MQ below (va_Qi (fun (r9 : Int32) (u9 : Unit) => r9 = nI (cnt x.points x.firstOf)) (fun (u9 : Unit) t9 => bW D A (MW dA h ad x) t9) A) ([.ref h] : List Value).toArray s 0 0 A) (F0 m 35 ls [.int (bI v)]) := by
          intro v j0 H locs ls hP hD hS hl
          refine lv_istore_n hx hb d_M_scars_35 rfl hl (by decide) rfl (fun ls hl => ?_)
          have hl : lv_has ls 5 [(3, .int (bI v)), (2, .int (nI q)), (1, .int (nI n)), (0, .ref h)] := hl
          have J87 : ∀ (v : Bool) (j3 : x.firstOf q = v), ∀ (H : Heap) (locs : List Loc) (ls : Array Slot) (hP : va_P D vwCl (MW dA h ad x) H) (hD : va_D A (MW dA h ad x)) (hS : va_S A s.heap H locs) (hl : lv_has ls 5 [(3, .int (bI v)), (2, .int (nI q)), (1, .int (nI n)), (0, .ref h)]), W p l e ({ frames := 1, cells := 0, slots := 0, locals := 0 } : Room) s m ([.ref h] : List Value).toArray below meth c H locs 0 0 (MQ below (va_Qi (fun (r9 : Int32) (u9 : Unit) => r9 = nI (cnt x.points x.firstOf)) (fun (u9 : Unit) t9 => bW D A (MW dA h ad x) t9) A) ([.ref h] : List Value).toArray s 0 0 A) (F0 m 87 ls []) := by
            intro v j3 H locs ls hP hD hS hl
            refine lv_iload_n hx hb d_M_scars_87 rfl (lv_at hl 2 rfl) ?_
            refine lv_iload_n hx hb d_M_scars_88 rfl (lv_at hl 0 rfl) ?_
            refine lv_if_eq hx hb d_M_scars_89 (tgt := 96) rfl (fun g2 => ?_) (fun g2 => ?_)
            · have g2 := bI_0 g2
              refine lv_iconst (v := 0) hx hb d_M_scars_96 (by decide) ?_
              refine lv_iadd hx hb d_M_scars_97 (tpi (y := nI (n)) (nI_add (n) (0)) ?_)
              refine lv_istore_n hx hb d_M_scars_98 rfl hl (by decide) rfl (fun ls hl => ?_)
              have hl : lv_has ls 5 [(1, .int (nI (n))), (3, .int (bI v)), (2, .int (nI q)), (0, .ref h)] := hl
              refine lv_iinc (k := 2) (v := nI (q + 1)) hx hb d_M_scars_99 hl rfl (iincN (q) 1 1 (by decide)) (by decide) rfl (fun ls hl => ?_)
              have hl : lv_has ls 5 [(2, .int (nI (q + 1))), (1, .int (nI (n))), (3, .int (bI v)), (0, .ref h)] := hl
              refine lv_goto hx hb d_M_scars_102 (tgt := 4) rfl ?_
              exact ih4 _ (by omega) (q + 1) n (by omega) (by simp [cnt, *]) rfl H _ ls hP hD hS (lv_sub hl [0, 1, 3] rfl)
            · have g2 := bI_n0 g2
              refine lv_iconst (v := 1) hx hb d_M_scars_92 (by decide) ?_
              refine lv_goto hx hb d_M_scars_93 (tgt := 97) rfl ?_
              refine lv_iadd hx hb d_M_scars_97 (tpi (y := nI (n + 1)) (nI_add (n) (1)) ?_)
              refine lv_istore_n hx hb d_M_scars_98 rfl hl (by decide) rfl (fun ls hl => ?_)
              have hl : lv_has ls 5 [(1, .int (nI (n + 1))), (3, .int (bI v)), (2, .int (nI q)), (0, .ref h)] := hl
              refine lv_iinc (k := 2) (v := nI (q + 1)) hx hb d_M_scars_99 hl rfl (iincN (q) 1 1 (by decide)) (by decide) rfl (fun ls hl => ?_)
              have hl : lv_has ls 5 [(2, .int (nI (q + 1))), (1, .int (nI (n + 1))), (3, .int (bI v)), (0, .ref h)] := hl
              refine lv_goto hx hb d_M_scars_102 (tgt := 4) rfl ?_
              exact ih4 _ (by omega) (q + 1) (n + 1) (by omega) (by simp [cnt, *]) rfl H _ ls hP hD hS (lv_sub hl [0, 1, 3] rfl)
          refine lv_iconst (v := 0) hx hb d_M_scars_36 (by decide) ?_
          refine lv_istore hx hb d_M_scars_37 hl (by decide) rfl (fun ls hl => ?_)
          have hl : lv_has ls 5 [(4, .int 0), (3, .int (bI v)), (2, .int (nI q)), (1, .int (nI n)), (0, .ref h)] := hl
          have L39 : ∀ (k9 : Nat) (r : Nat) (v : Bool) (j1 : r ≤ q) (j2 : (x.scB q && allB r (x.scA q)) = v) (hk9 : q - r = k9), ∀ (H : Heap) (locs : List Loc) (ls : Array Slot) (hP : va_P D vwCl (MW dA h ad x) H) (hD : va_D A (MW dA h ad x)) (hS : va_S A s.heap H locs) (hl : lv_has ls 5 [(4, .int (nI r)), (3, .int (bI v)), (2, .int (nI q)), (1, .int (nI n)), (0, .ref h)]), W p l e ({ frames := 1, cells := 0, slots := 0, locals := 0 } : Room) s m ([.ref h] : List Value).toArray below meth c H locs 0 0 (MQ below (va_Qi (fun (r9 : Int32) (u9 : Unit) => r9 = nI (cnt x.points x.firstOf)) (fun (u9 : Unit) t9 => bW D A (MW dA h ad x) t9) A) ([.ref h] : List Value).toArray s 0 0 A) (F0 m 39 ls []) := by
            intro k9
            induction k9 using Nat.strongRecOn with
            | ind k9 ih39 =>
              intro r v j1 j2 hk9 H locs ls hP hD hS hl
              refine lv_iload hx hb d_M_scars_39 (lv_at hl 0 rfl) ?_
              refine lv_iload_n hx hb d_M_scars_41 rfl (lv_at hl 2 rfl) ?_
              refine lv_icmp_ge hx hb d_M_scars_42 (tgt := 87) rfl (fun g3 => ?_) (fun g3 => ?_)
              · have g3 := (nI_leI (a := q) (b := r) (by omega) (by omega)).mp g3
                exact J87 v (scE j1 j2 (by first | (exact Or.inl (by omega)) | (exact Or.inr (by assumption)))) H _ ls hP hD hS (lv_sub hl [1, 2, 3, 4] rfl)
              · have g3 := mt (nI_leI (a := q) (b := r) (by omega) (by omega)).mpr g3
                refine lv_iload_n hx hb d_M_scars_45 rfl (lv_at hl 1 rfl) ?_
                refine lv_if_eq hx hb d_M_scars_46 (tgt := 87) rfl (fun g4 => ?_) (fun g4 => ?_)
                · have g4 := bI_0 g4
                  exact J87 v (scE j1 j2 (by first | (exact Or.inl (by omega)) | (exact Or.inr (by assumption)))) H _ ls hP hD hS (lv_sub hl [1, 2, 3, 4] rfl)
                · have g4 := bI_n0 g4
                  refine lv_aload_n hx hb d_M_scars_49 rfl (lv_at hl 4 rfl) ?_
                  refine gF (v := .ref (ad 20)) hx hb hown hE hK hP 0 rfl rfl layM 20 (by decide) w506 rfl d_M_scars_50 ?_
                  refine lv_iload hx hb d_M_scars_53 (lv_at hl 0 rfl) ?_
                  refine nild (f := x.places) hx hb hK hP 9 1 rfl rfl (r) (by omega) (by decide) d_M_scars_55 ?_
                  refine lv_if_lt hx hb d_M_scars_56 (tgt := 75) rfl (fun g5 => ?_) (fun g5 => ?_)
                  · have g5 := g5
                    refine lv_iconst (v := 1) hx hb d_M_scars_75 (by decide) ?_
                    refine lv_goto hx hb d_M_scars_76 (tgt := 80) rfl ?_
                    refine lv_istore_n hx hb d_M_scars_80 rfl hl (by decide) rfl (fun ls hl => ?_)
                    have hl : lv_has ls 5 [(3, .int 1), (4, .int (nI r)), (2, .int (nI q)), (1, .int (nI n)), (0, .ref h)] := hl
                    refine lv_iinc (k := 1) (v := nI (r + 1)) hx hb d_M_scars_81 hl rfl (iincN (r) 1 1 (by decide)) (by decide) rfl (fun ls hl => ?_)
                    have hl : lv_has ls 5 [(4, .int (nI (r + 1))), (3, .int 1), (2, .int (nI q)), (1, .int (nI n)), (0, .ref h)] := hl
                    refine lv_goto hx hb d_M_scars_84 (tgt := 39) rfl ?_
                    exact ih39 _ (by omega) (r + 1) true (by omega) (by rw [show allB (r + 1) (x.scA q) = (allB r (x.scA q) && x.scA q r) from rfl, ← Bool.and_assoc, j2]; simp [MS.scA, *]) rfl H _ ls hP hD hS (lv_sub hl [0, 1, 2, 3, 4] rfl)
                  · have g5 := g5
                    refine lv_aload_n hx hb d_M_scars_59 rfl (lv_at hl 4 rfl) ?_
                    refine gF (v := .ref (ad 21)) hx hb hown hE hK hP 0 rfl rfl layM 21 (by decide) w507 rfl d_M_scars_60 ?_
                    refine lv_iload hx hb d_M_scars_63 (lv_at hl 0 rfl) ?_
                    refine nild (f := x.hidden) hx hb hK hP 10 1 rfl rfl (r) (by omega) (by decide) d_M_scars_65 ?_
                    refine lv_aload_n hx hb d_M_scars_66 rfl (lv_at hl 4 rfl) ?_
                    refine gF (v := .ref (ad 21)) hx hb hown hE hK hP 0 rfl rfl layM 21 (by decide) w507 rfl d_M_scars_67 ?_
                    refine lv_iload_n hx hb d_M_scars_70 rfl (lv_at hl 2 rfl) ?_
                    refine nild (f := x.hidden) hx hb hK hP 10 1 rfl rfl (q) (by omega) (by decide) d_M_scars_71 ?_
                    refine lv_icmp_eq hx hb d_M_scars_72 (tgt := 79) rfl (fun g6 => ?_) (fun g6 => ?_)
                    · have g6 := g6
                      refine lv_iconst (v := 0) hx hb d_M_scars_79 (by decide) ?_
                      refine lv_istore_n hx hb d_M_scars_80 rfl hl (by decide) rfl (fun ls hl => ?_)
                      have hl : lv_has ls 5 [(3, .int 0), (4, .int (nI r)), (2, .int (nI q)), (1, .int (nI n)), (0, .ref h)] := hl
                      refine lv_iinc (k := 1) (v := nI (r + 1)) hx hb d_M_scars_81 hl rfl (iincN (r) 1 1 (by decide)) (by decide) rfl (fun ls hl => ?_)
                      have hl : lv_has ls 5 [(4, .int (nI (r + 1))), (3, .int 0), (2, .int (nI q)), (1, .int (nI n)), (0, .ref h)] := hl
                      refine lv_goto hx hb d_M_scars_84 (tgt := 39) rfl ?_
                      exact ih39 _ (by omega) (r + 1) false (by omega) (by rw [show allB (r + 1) (x.scA q) = (allB r (x.scA q) && x.scA q r) from rfl, ← Bool.and_assoc, j2]; simp [MS.scA, *]) rfl H _ ls hP hD hS (lv_sub hl [0, 1, 2, 3, 4] rfl)
                    · have g6 := g6
                      refine lv_iconst (v := 1) hx hb d_M_scars_75 (by decide) ?_
                      refine lv_goto hx hb d_M_scars_76 (tgt := 80) rfl ?_
                      refine lv_istore_n hx hb d_M_scars_80 rfl hl (by decide) rfl (fun ls hl => ?_)
                      have hl : lv_has ls 5 [(3, .int 1), (4, .int (nI r)), (2, .int (nI q)), (1, .int (nI n)), (0, .ref h)] := hl
                      refine lv_iinc (k := 1) (v := nI (r + 1)) hx hb d_M_scars_81 hl rfl (iincN (r) 1 1 (by decide)) (by decide) rfl (fun ls hl => ?_)
                      have hl : lv_has ls 5 [(4, .int (nI (r + 1))), (3, .int 1), (2, .int (nI q)), (1, .int (nI n)), (0, .ref h)] := hl
                      refine lv_goto hx hb d_M_scars_84 (tgt := 39) rfl ?_
                      exact ih39 _ (by omega) (r + 1) true (by omega) (by rw [show allB (r + 1) (x.scA q) = (allB r (x.scA q) && x.scA q r) from rfl, ← Bool.and_assoc, j2]; simp [MS.scA, *]) rfl H _ ls hP hD hS (lv_sub hl [0, 1, 2, 3, 4] rfl)
          exact L39 _ 0 v (by omega) (by simp [allB, *]) rfl H _ ls hP hD hS (lv_sub hl [0, 1, 2, 3, 4] rfl)
        refine lv_aload_n hx hb d_M_scars_12 rfl (lv_at hl 2 rfl) ?_
        refine gF (v := .ref (ad 20)) hx hb hown hE hK hP 0 rfl rfl layM 20 (by decide) w506 rfl d_M_scars_13 ?_
        refine lv_iload_n hx hb d_M_scars_16 rfl (lv_at hl 0 rfl) ?_
        refine nild (f := x.places) hx hb hK hP 9 1 rfl rfl (q) (by omega) (by decide) d_M_scars_17 ?_
        refine lv_if_lt hx hb d_M_scars_18 (tgt := 34) rfl (fun g7 => ?_) (fun g7 => ?_)
        · have g7 := g7
          refine lv_iconst (v := 0) hx hb d_M_scars_34 (by decide) ?_
          exact J35 false (by simp [MS.scB, *]) H _ ls hP hD hS (lv_sub hl [0, 1, 2] rfl)
        · have g7 := g7
          refine lv_aload_n hx hb d_M_scars_21 rfl (lv_at hl 2 rfl) ?_
          refine gF (v := .ref (ad 21)) hx hb hown hE hK hP 0 rfl rfl layM 21 (by decide) w507 rfl d_M_scars_22 ?_
          refine lv_iload_n hx hb d_M_scars_25 rfl (lv_at hl 0 rfl) ?_
          refine nild (f := x.hidden) hx hb hK hP 10 1 rfl rfl (q) (by omega) (by decide) d_M_scars_26 ?_
          refine lv_if_lt hx hb d_M_scars_27 (tgt := 34) rfl (fun g8 => ?_) (fun g8 => ?_)
          · have g8 := g8
            refine lv_iconst (v := 0) hx hb d_M_scars_34 (by decide) ?_
            exact J35 false (by simp [MS.scB, *]) H _ ls hP hD hS (lv_sub hl [0, 1, 2] rfl)
          · have g8 := g8
            refine lv_iconst (v := 1) hx hb d_M_scars_30 (by decide) ?_
            refine lv_goto hx hb d_M_scars_31 (tgt := 35) rfl ?_
            exact J35 true (by simp [MS.scB, *]) H _ ls hP hD hS (lv_sub hl [0, 1, 2] rfl)
  exact L4 _ 0 0 (by omega) rfl rfl H _ ls hP hD hS (lv_sub hl [0, 1, 2] rfl)
