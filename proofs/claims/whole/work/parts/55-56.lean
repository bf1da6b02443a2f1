section
def MS.stay (x : MS) (z : Nat) : Bool := !decide (x.places z = (-2))
def MS.bt (x : MS) (w : Nat) (a b : Int64) (z : Nat) : Bool := decide (x.pointSeries z = w) && (x.seen z && (!decide (x.pointTimes z < a) && !decide (b < x.pointTimes z)))
def MS.btw (x : MS) (w : Nat) (a b : Int64) (pk : Bool) (z : Nat) : Bool := x.bt w a b z && (!pk || !decide (x.places z < 0))
def MS.freeN (x : MS) : Nat := x.blocks - 2 - x.journal - x.catalogBlocks - sumN x.parcelCount x.parcelBlocks
def MS.scB (x : MS) (q : Nat) : Bool := !decide (x.places q < 0) && !decide (x.hidden q < 0)
def MS.scA (x : MS) (q z : Nat) : Bool := decide (x.places z < 0) || !decide (x.hidden z = x.hidden q)
def MS.firstOf (x : MS) (q : Nat) : Bool := x.scB q && allB q (x.scA q)
theorem scE {x : MS} {q r : Nat} {v : Bool} (h1 : r ≤ q) (h2 : (x.scB q && allB r (x.scA q)) = v) (h3 : q ≤ r ∨ v = false) : x.firstOf q = v := by
  unfold MS.firstOf
  rcases h3 with h | h
  · rw [show r = q by omega] at h2
    exact h2
  · subst h
    cases e : allB r (x.scA q) with
    | false => rw [allB_f e h1, Bool.and_false]
    | true => rw [e, Bool.and_true] at h2
              rw [h2, Bool.false_and]
theorem d_M_between_0 : decode prog_14_method_18_code 0 = .ok (.iconst 0, 1) := by decide +kernel
theorem d_M_between_1 : decode prog_14_method_18_code 1 = .ok (.istore 7, 2) := by decide +kernel
theorem d_M_between_3 : decode prog_14_method_18_code 3 = .ok (.iconst 0, 1) := by decide +kernel
theorem d_M_between_4 : decode prog_14_method_18_code 4 = .ok (.istore 8, 2) := by decide +kernel
theorem d_M_between_6 : decode prog_14_method_18_code 6 = .ok (.iload 8, 2) := by decide +kernel
theorem d_M_between_8 : decode prog_14_method_18_code 8 = .ok (.aload_n 0, 1) := by decide +kernel
theorem d_M_between_9 : decode prog_14_method_18_code 9 = .ok (.getfield 169, 3) := by decide +kernel
theorem d_M_between_12 : decode prog_14_method_18_code 12 = .ok (.if_icmp .ge 91, 3) := by decide +kernel
theorem d_M_between_103 : decode prog_14_method_18_code 103 = .ok (.iload 7, 2) := by decide +kernel
theorem d_M_between_105 : decode prog_14_method_18_code 105 = .ok (.ireturn, 1) := by decide +kernel
theorem d_M_between_65 : decode prog_14_method_18_code 65 = .ok (.istore 9, 2) := by decide +kernel
theorem d_M_between_67 : decode prog_14_method_18_code 67 = .ok (.iload 7, 2) := by decide +kernel
theorem d_M_between_69 : decode prog_14_method_18_code 69 = .ok (.iload 9, 2) := by decide +kernel
theorem d_M_between_71 : decode prog_14_method_18_code 71 = .ok (.ifCond .eq 22, 3) := by decide +kernel
theorem d_M_between_93 : decode prog_14_method_18_code 93 = .ok (.iconst 0, 1) := by decide +kernel
theorem d_M_between_94 : decode prog_14_method_18_code 94 = .ok (.iadd, 1) := by decide +kernel
theorem d_M_between_95 : decode prog_14_method_18_code 95 = .ok (.istore 7, 2) := by decide +kernel
theorem d_M_between_97 : decode prog_14_method_18_code 97 = .ok (.iinc 8 1, 3) := by decide +kernel
theorem d_M_between_100 : decode prog_14_method_18_code 100 = .ok (.goto (-94), 3) := by decide +kernel
theorem d_M_between_74 : decode prog_14_method_18_code 74 = .ok (.iload 6, 2) := by decide +kernel
theorem d_M_between_76 : decode prog_14_method_18_code 76 = .ok (.ifCond .eq 13, 3) := by decide +kernel
theorem d_M_between_89 : decode prog_14_method_18_code 89 = .ok (.iconst 1, 1) := by decide +kernel
theorem d_M_between_90 : decode prog_14_method_18_code 90 = .ok (.goto 4, 3) := by decide +kernel
theorem d_M_between_79 : decode prog_14_method_18_code 79 = .ok (.aload_n 0, 1) := by decide +kernel
theorem d_M_between_80 : decode prog_14_method_18_code 80 = .ok (.getfield 52, 3) := by decide +kernel
theorem d_M_between_83 : decode prog_14_method_18_code 83 = .ok (.iload 8, 2) := by decide +kernel
theorem d_M_between_85 : decode prog_14_method_18_code 85 = .ok (.iaload, 1) := by decide +kernel
theorem d_M_between_86 : decode prog_14_method_18_code 86 = .ok (.ifCond .lt 7, 3) := by decide +kernel
theorem d_M_between_15 : decode prog_14_method_18_code 15 = .ok (.aload_n 0, 1) := by decide +kernel
theorem d_M_between_16 : decode prog_14_method_18_code 16 = .ok (.getfield 43, 3) := by decide +kernel
theorem d_M_between_19 : decode prog_14_method_18_code 19 = .ok (.iload 8, 2) := by decide +kernel
theorem d_M_between_21 : decode prog_14_method_18_code 21 = .ok (.iaload, 1) := by decide +kernel
theorem d_M_between_22 : decode prog_14_method_18_code 22 = .ok (.iload_n 1, 1) := by decide +kernel
theorem d_M_between_23 : decode prog_14_method_18_code 23 = .ok (.if_icmp .ne 41, 3) := by decide +kernel
theorem d_M_between_64 : decode prog_14_method_18_code 64 = .ok (.iconst 0, 1) := by decide +kernel
theorem d_M_between_26 : decode prog_14_method_18_code 26 = .ok (.aload_n 0, 1) := by decide +kernel
theorem d_M_between_27 : decode prog_14_method_18_code 27 = .ok (.iload 8, 2) := by decide +kernel
theorem d_M_between_29 : decode prog_14_method_18_code 29 = .ok (.invokevirtual 207, 3) := by decide +kernel
theorem d_M_between_32 : decode prog_14_method_18_code 32 = .ok (.ifCond .eq 32, 3) := by decide +kernel
theorem d_M_between_35 : decode prog_14_method_18_code 35 = .ok (.aload_n 0, 1) := by decide +kernel
theorem d_M_between_36 : decode prog_14_method_18_code 36 = .ok (.getfield 46, 3) := by decide +kernel
theorem d_M_between_39 : decode prog_14_method_18_code 39 = .ok (.iload 8, 2) := by decide +kernel
theorem d_M_between_41 : decode prog_14_method_18_code 41 = .ok (.laload, 1) := by decide +kernel
theorem d_M_between_42 : decode prog_14_method_18_code 42 = .ok (.lload_n 2, 1) := by decide +kernel
theorem d_M_between_43 : decode prog_14_method_18_code 43 = .ok (.lcmp, 1) := by decide +kernel
theorem d_M_between_44 : decode prog_14_method_18_code 44 = .ok (.ifCond .lt 20, 3) := by decide +kernel
theorem d_M_between_47 : decode prog_14_method_18_code 47 = .ok (.aload_n 0, 1) := by decide +kernel
theorem d_M_between_48 : decode prog_14_method_18_code 48 = .ok (.getfield 46, 3) := by decide +kernel
theorem d_M_between_51 : decode prog_14_method_18_code 51 = .ok (.iload 8, 2) := by decide +kernel
theorem d_M_between_53 : decode prog_14_method_18_code 53 = .ok (.laload, 1) := by decide +kernel
theorem d_M_between_54 : decode prog_14_method_18_code 54 = .ok (.lload 4, 2) := by decide +kernel
theorem d_M_between_56 : decode prog_14_method_18_code 56 = .ok (.lcmp, 1) := by decide +kernel
theorem d_M_between_57 : decode prog_14_method_18_code 57 = .ok (.ifCond .gt 7, 3) := by decide +kernel
theorem d_M_between_60 : decode prog_14_method_18_code 60 = .ok (.iconst 1, 1) := by decide +kernel
theorem d_M_between_61 : decode prog_14_method_18_code 61 = .ok (.goto 4, 3) := by decide +kernel
set_option maxHeartbeats 4000000 in
set_option maxRecDepth 100000 in
theorem k_between (l : Launch) (D : va_G) (dA : Nat → ClassId) (sz : Nat) (h : Nat) (ad : Nat → Nat) (x : MS) (w : Nat) (a : Int64) (b : Int64) (pk : Bool) (h1 : x.points ≤ 12000) (hw : w < 256) (hs : ∀ q : Nat, q < x.points → x.pointSeries q < 256) : Met l ⟨"SeriesVaultModel", "between", "(IJJZ)I"⟩ [Cond.code ⟨"SeriesVaultModel", "between", "(IJJZ)I"⟩ prog_14_method_18_code 10 (some FieldType.int)] { frames := 2, cells := 0, slots := 0, locals := 21 } (pC D dA [.ref h, .int (nI w), .long a, .long b, .int (bI pk)] (MW dA h ad x) sz) (va_Qi (fun (r9 : Int32) (u9 : Unit) => r9 = nI (cnt x.points (x.btw w a b pk))) (fun (u9 : Unit) t9 => bW D (va_A (MW dA h ad x) sz) (MW dA h ad x) t9) (va_A (MW dA h ad x) sz)) 0 0 (va_A (MW dA h ad x) sz) := by
  refine mkC (y := ⟨"SeriesVaultModel", "between", "(IJJZ)I"⟩) (cc := prog_14_method_18_code) (maxL := 10) (av := [.ref h, .int (nI w), .long a, .long b, .int (bI pk)]) (ws := MW dA h ad x) (sz := sz) (Qc := fun A => va_Qi (fun (r9 : Int32) (u9 : Unit) => r9 = nI (cnt x.points (x.btw w a b pk))) (fun (u9 : Unit) t9 => bW D A (MW dA h ad x) t9) A) (by decide) (Nat.le_of_ble_eq_true rfl) ?_
  intro A p e s m below meth c ls hsz hB
  obtain ⟨hx, hb, hr, hml, hown, hin, hlk, hE, hK, hP, hD, hS, hA, hN, hl⟩ := hB
  have hown : s.vm.findClass "SeriesVaultModel" = some m.cls := hown
  have hl : lv_has ls 10 [(0, .ref h), (1, .int (nI w)), (2, .long a), (4, .long b), (6, .int (bI pk))] := hl
  obtain ⟨H, hH⟩ : ∃ z, z = s.heap := ⟨_, rfl⟩
  have hP : va_P D vwCl (MW dA h ad x) H := by rw [hH]; exact hP
  have hS : va_S A s.heap H [] := by rw [hH]; exact hS
  rw [← hH]
  refine lv_iconst (v := 0) hx hb d_M_between_0 (by decide) ?_
  refine lv_istore hx hb d_M_between_1 hl (by decide) rfl (fun ls hl => ?_)
  have hl : lv_has ls 10 [(7, .int 0), (0, .ref h), (1, .int (nI w)), (2, .long a), (4, .long b), (6, .int (bI pk))] := hl
  refine lv_iconst (v := 0) hx hb d_M_between_3 (by decide) ?_
  refine lv_istore hx hb d_M_between_4 hl (by decide) rfl (fun ls hl => ?_)
  have hl : lv_has ls 10 [(8, .int 0), (7, .int 0), (0, .ref h), (1, .int (nI w)), (2, .long a), (4, .long b), (6, .int (bI pk))] := hl
  have L6 : ∀ (k9 : Nat) (q : Nat) (n : Nat) (i1 : q ≤ x.points) (i2 : n = cnt q (x.btw w a b pk)) (hk9 : x.points - q = k9), ∀ (H : Heap) (locs : List Loc) (ls : Array Slot) (hP : va_P D vwCl (MW dA h ad x) H) (hD : va_D A (MW dA h ad x)) (hS : va_S A s.heap H locs) (hl : lv_has ls 10 [(8, .int (nI q)), (7, .int (nI n)), (0, .ref h), (1, .int (nI w)), (2, .long a), (4, .long b), (6, .int (bI pk))]), W p l e ({ frames := 2, cells := 0, slots := 0, locals := 21 } : Room) s m ([.ref h, .int (nI w), .long a, .long b, .int (bI pk)] : List Value).toArray below meth c H locs 0 0 (MQ below (va_Qi (fun (r9 : Int32) (u9 : Unit) => r9 = nI (cnt x.points (x.btw w a b pk))) (fun (u9 : Unit) t9 => bW D A (MW dA h ad x) t9) A) ([.ref h, .int (nI w), .long a, .long b, .int (bI pk)] : List Value).toArray s 0 0 A) (F0 m 6 ls []) := by
    intro k9
    induction k9 using Nat.strongRecOn with
    | ind k9 ih6 =>
      intro q n i1 i2 hk9 H locs ls hP hD hS hl
      refine lv_iload hx hb d_M_between_6 (lv_at hl 0 rfl) ?_
      refine lv_aload_n hx hb d_M_between_8 rfl (lv_at hl 2 rfl) ?_
      refine gF (v := .int (nI x.points)) hx hb hown hE hK hP 0 rfl rfl layM 23 (by decide) w420 rfl d_M_between_9 ?_
      refine lv_icmp_ge hx hb d_M_between_12 (tgt := 103) rfl (fun g1 => ?_) (fun g1 => ?_)
      · have g1 := (nI_leI (a := x.points) (b := q) (by omega) (by omega)).mp g1
        refine lv_iload hx hb d_M_between_103 (lv_at hl 1 rfl) ?_
        exact rfI hx hb hr hlk hS () (by rw [i2, show q = x.points by omega]) hP hD (Nat.le_of_ble_eq_true rfl) (Nat.le_of_ble_eq_true rfl) d_M_between_105
      · have g1 := mt (nI_leI (a := x.points) (b := q) (by omega) (by omega)).mpr g1
        have J65 : ∀ (v : Bool) (j1 : x.bt w a b q = v), ∀ (H : Heap) (locs : List Loc) (ls : Array Slot) (hP : va_P D vwCl (MW dA h ad x) H) (hD : va_D A (MW dA h ad x)) (hS : va_S A s.heap H locs) (hl : lv_has ls 10 [(8, .int (nI q)), (7, .int (nI n)), (0, .ref h), (1, .int (nI w)), (2, .long a), (4, .long b), (6, .int (bI pk))]), W p l e ({ frames := 2, cells := 0, slots := 0, locals := 21 } : Room) s m ([.ref h, .int (nI w), .long a, .long b, .int (bI pk)] : List Value).toArray below meth c H locs 0 0 (MQ below (va_Qi (fun (r9 : Int32) (u9 : Unit) => r9 = nI (cnt x.points (x.btw w a b pk))) (fun (u9 : Unit) t9 => bW D A (MW dA h ad x) t9) A) ([.ref h, .int (nI w), .long a, .long b, .int (bI pk)] : List Value).toArray s 0 0 A) (F0 m 65 ls [.int (bI v)]) := by
          intro v j1 H locs ls hP hD hS hl
          refine lv_istore hx hb d_M_between_65 hl (by decide) rfl (fun ls hl => ?_)
          have hl : lv_has ls 10 [(9, .int (bI v)), (8, .int (nI q)), (7, .int (nI n)), (0, .ref h), (1, .int (nI w)), (2, .long a), (4, .long b), (6, .int (bI pk))] := hl
          refine lv_iload hx hb d_M_between_67 (lv_at hl 2 rfl) ?_
          refine lv_iload hx hb d_M_between_69 (lv_at hl 0 rfl) ?_
          refine lv_if_eq hx hb d_M_between_71 (tgt := 93) rfl (fun g2 => ?_) (fun g2 => ?_)
          · have g2 := bI_0 g2
            refine lv_iconst (v := 0) hx hb d_M_between_93 (by decide) ?_
            refine lv_iadd hx hb d_M_between_94 (tpi (y := nI (n)) (nI_add (n) (0)) ?_)
            refine lv_istore hx hb d_M_between_95 hl (by decide) rfl (fun ls hl => ?_)
            have hl : lv_has ls 10 [(7, .int (nI (n))), (9, .int (bI v)), (8, .int (nI q)), (0, .ref h), (1, .int (nI w)), (2, .long a), (4, .long b), (6, .int (bI pk))] := hl
            refine lv_iinc (k := 2) (v := nI (q + 1)) hx hb d_M_between_97 hl rfl (iincN (q) 1 1 (by decide)) (by decide) rfl (fun ls hl => ?_)
            have hl : lv_has ls 10 [(8, .int (nI (q + 1))), (7, .int (nI (n))), (9, .int (bI v)), (0, .ref h), (1, .int (nI w)), (2, .long a), (4, .long b), (6, .int (bI pk))] := hl
            refine lv_goto hx hb d_M_between_100 (tgt := 6) rfl ?_
            exact ih6 _ (by omega) (q + 1) n (by omega) (by simp [cnt, MS.btw, *]) rfl H _ ls hP hD hS (lv_sub hl [0, 1, 3, 4, 5, 6, 7] rfl)
          · have g2 := bI_n0 g2
            refine lv_iload hx hb d_M_between_74 (lv_at hl 7 rfl) ?_
            refine lv_if_eq hx hb d_M_between_76 (tgt := 89) rfl (fun g3 => ?_) (fun g3 => ?_)
            · have g3 := bI_0 g3
              refine lv_iconst (v := 1) hx hb d_M_between_89 (by decide) ?_
              refine lv_goto hx hb d_M_between_90 (tgt := 94) rfl ?_
              refine lv_iadd hx hb d_M_between_94 (tpi (y := nI (n + 1)) (nI_add (n) (1)) ?_)
              refine lv_istore hx hb d_M_between_95 hl (by decide) rfl (fun ls hl => ?_)
              have hl : lv_has ls 10 [(7, .int (nI (n + 1))), (9, .int (bI v)), (8, .int (nI q)), (0, .ref h), (1, .int (nI w)), (2, .long a), (4, .long b), (6, .int (bI pk))] := hl
              refine lv_iinc (k := 2) (v := nI (q + 1)) hx hb d_M_between_97 hl rfl (iincN (q) 1 1 (by decide)) (by decide) rfl (fun ls hl => ?_)
              have hl : lv_has ls 10 [(8, .int (nI (q + 1))), (7, .int (nI (n + 1))), (9, .int (bI v)), (0, .ref h), (1, .int (nI w)), (2, .long a), (4, .long b), (6, .int (bI pk))] := hl
              refine lv_goto hx hb d_M_between_100 (tgt := 6) rfl ?_
              exact ih6 _ (by omega) (q + 1) (n + 1) (by omega) (by simp [cnt, MS.btw, *]) rfl H _ ls hP hD hS (lv_sub hl [0, 1, 3, 4, 5, 6, 7] rfl)
            · have g3 := bI_n0 g3
              refine lv_aload_n hx hb d_M_between_79 rfl (lv_at hl 3 rfl) ?_
              refine gF (v := .ref (ad 20)) hx hb hown hE hK hP 0 rfl rfl layM 20 (by decide) w506 rfl d_M_between_80 ?_
              refine lv_iload hx hb d_M_between_83 (lv_at hl 1 rfl) ?_
              refine nild (f := x.places) hx hb hK hP 9 1 rfl rfl (q) (by omega) (by decide) d_M_between_85 ?_
              refine lv_if_lt hx hb d_M_between_86 (tgt := 93) rfl (fun g4 => ?_) (fun g4 => ?_)
              · have g4 := g4
                refine lv_iconst (v := 0) hx hb d_M_between_93 (by decide) ?_
                refine lv_iadd hx hb d_M_between_94 (tpi (y := nI (n)) (nI_add (n) (0)) ?_)
                refine lv_istore hx hb d_M_between_95 hl (by decide) rfl (fun ls hl => ?_)
                have hl : lv_has ls 10 [(7, .int (nI (n))), (9, .int (bI v)), (8, .int (nI q)), (0, .ref h), (1, .int (nI w)), (2, .long a), (4, .long b), (6, .int (bI pk))] := hl
                refine lv_iinc (k := 2) (v := nI (q + 1)) hx hb d_M_between_97 hl rfl (iincN (q) 1 1 (by decide)) (by decide) rfl (fun ls hl => ?_)
                have hl : lv_has ls 10 [(8, .int (nI (q + 1))), (7, .int (nI (n))), (9, .int (bI v)), (0, .ref h), (1, .int (nI w)), (2, .long a), (4, .long b), (6, .int (bI pk))] := hl
                refine lv_goto hx hb d_M_between_100 (tgt := 6) rfl ?_
                exact ih6 _ (by omega) (q + 1) n (by omega) (by simp [cnt, MS.btw, *]) rfl H _ ls hP hD hS (lv_sub hl [0, 1, 3, 4, 5, 6, 7] rfl)
              · have g4 := g4
                refine lv_iconst (v := 1) hx hb d_M_between_89 (by decide) ?_
                refine lv_goto hx hb d_M_between_90 (tgt := 94) rfl ?_
                refine lv_iadd hx hb d_M_between_94 (tpi (y := nI (n + 1)) (nI_add (n) (1)) ?_)
                refine lv_istore hx hb d_M_between_95 hl (by decide) rfl (fun ls hl => ?_)
                have hl : lv_has ls 10 [(7, .int (nI (n + 1))), (9, .int (bI v)), (8, .int (nI q)), (0, .ref h), (1, .int (nI w)), (2, .long a), (4, .long b), (6, .int (bI pk))] := hl
                refine lv_iinc (k := 2) (v := nI (q + 1)) hx hb d_M_between_97 hl rfl (iincN (q) 1 1 (by decide)) (by decide) rfl (fun ls hl => ?_)
                have hl : lv_has ls 10 [(8, .int (nI (q + 1))), (7, .int (nI (n + 1))), (9, .int (bI v)), (0, .ref h), (1, .int (nI w)), (2, .long a), (4, .long b), (6, .int (bI pk))] := hl
                refine lv_goto hx hb d_M_between_100 (tgt := 6) rfl ?_
                exact ih6 _ (by omega) (q + 1) (n + 1) (by omega) (by simp [cnt, MS.btw, *]) rfl H _ ls hP hD hS (lv_sub hl [0, 1, 3, 4, 5, 6, 7] rfl)
        refine lv_aload_n hx hb d_M_between_15 rfl (lv_at hl 2 rfl) ?_
        refine gF (v := .ref (ad 17)) hx hb hown hE hK hP 0 rfl rfl layM 17 (by decide) w503 rfl d_M_between_16 ?_
        refine lv_iload hx hb d_M_between_19 (lv_at hl 0 rfl) ?_
        refine nild (f := (fun z9 => nI (x.pointSeries z9))) hx hb hK hP 6 1 rfl rfl (q) (by omega) (by decide) d_M_between_21 ?_
        refine lv_iload_n hx hb d_M_between_22 rfl (lv_at hl 3 rfl) ?_
        have b1 := hs q (by omega)
        refine lv_icmp_ne hx hb d_M_between_23 (tgt := 64) rfl (fun g5 => ?_) (fun g5 => ?_)
        · have g5 := mt (nI_eq (a := x.pointSeries q) (b := w) (by omega) (by omega)).mpr g5
          refine lv_iconst (v := 0) hx hb d_M_between_64 (by decide) ?_
          exact J65 false (by simp [MS.bt, *]) H _ ls hP hD hS (lv_sub hl [0, 1, 2, 3, 4, 5, 6] rfl)
        · have g5 := (nI_eq (a := x.pointSeries q) (b := w) (by omega) (by omega)).mp g5
          refine lv_aload_n hx hb d_M_between_26 rfl (lv_at hl 2 rfl) ?_
          refine lv_iload hx hb d_M_between_27 (lv_at hl 0 rfl) ?_
          refine jfI (rnV (As := [.int (nI q)]) (rest := []) hx hb hml hown hE hK (hN _ _ hS) hP hD (k_isSeen l D dA H.size h ad x q (show q < 12000 from by omega)) (q0 := 0) rfl rfl w861 w860 w862 w863 w328 rfl rfl ⟨⟨by decide, by decide⟩, rfl⟩ ⟨(Nat.le_of_ble_eq_true rfl), (Nat.le_of_ble_eq_true rfl)⟩ rfl hl.1 rfl (Nat.le_of_ble_eq_true rfl) d_M_between_29 ⟨(Nat.le_of_ble_eq_true rfl), (Nat.le_of_ble_eq_true rfl)⟩) hP hD hS hA (fun r6 u7 H locs hp9 hP hD hS => ?_)
          have hP : va_P D vwCl (MW dA h ad x) H := hP
          have hD : va_D A (MW dA h ad x) := hD
          replace hp9 : bI (x.seen q) = r6 := Eq.symm hp9
          subst hp9
          refine lv_if_eq hx hb d_M_between_32 (tgt := 64) rfl (fun g8 => ?_) (fun g8 => ?_)
          · have g8 := bI_0 g8
            refine lv_iconst (v := 0) hx hb d_M_between_64 (by decide) ?_
            exact J65 false (by simp [MS.bt, *]) H _ ls hP hD hS (lv_sub hl [0, 1, 2, 3, 4, 5, 6] rfl)
          · have g8 := bI_n0 g8
            refine lv_aload_n hx hb d_M_between_35 rfl (lv_at hl 2 rfl) ?_
            refine gF (v := .ref (ad 18)) hx hb hown hE hK hP 0 rfl rfl layM 18 (by decide) w504 rfl d_M_between_36 ?_
            refine lv_iload hx hb d_M_between_39 (lv_at hl 0 rfl) ?_
            refine nlld (f := x.pointTimes) hx hb hK hP 7 2 rfl rfl (q) (by omega) (by decide) d_M_between_41 ?_
            refine lv_lload_n hx hb d_M_between_42 rfl (lv_at hl 4 rfl) ?_
            refine W.lcmp hx hb d_M_between_43 ?_
            refine lv_if_lt hx hb d_M_between_44 (tgt := 64) rfl (fun g9 => ?_) (fun g9 => ?_)
            · have g9 := (lg_cmp_lt _ _).mp g9
              refine lv_iconst (v := 0) hx hb d_M_between_64 (by decide) ?_
              exact J65 false (by simp [MS.bt, *]) H _ ls hP hD hS (lv_sub hl [0, 1, 2, 3, 4, 5, 6] rfl)
            · have g9 := mt (lg_cmp_lt _ _).mpr g9
              refine lv_aload_n hx hb d_M_between_47 rfl (lv_at hl 2 rfl) ?_
              refine gF (v := .ref (ad 18)) hx hb hown hE hK hP 0 rfl rfl layM 18 (by decide) w504 rfl d_M_between_48 ?_
              refine lv_iload hx hb d_M_between_51 (lv_at hl 0 rfl) ?_
              refine nlld (f := x.pointTimes) hx hb hK hP 7 2 rfl rfl (q) (by omega) (by decide) d_M_between_53 ?_
              refine lv_lload hx hb d_M_between_54 (lv_at hl 5 rfl) ?_
              refine W.lcmp hx hb d_M_between_56 ?_
              refine lv_if_gt hx hb d_M_between_57 (tgt := 64) rfl (fun g10 => ?_) (fun g10 => ?_)
              · have g10 := (lg_cmp_gt _ _).mp g10
                refine lv_iconst (v := 0) hx hb d_M_between_64 (by decide) ?_
                exact J65 false (by simp [MS.bt, *]) H _ ls hP hD hS (lv_sub hl [0, 1, 2, 3, 4, 5, 6] rfl)
              · have g10 := mt (lg_cmp_gt _ _).mpr g10
                refine lv_iconst (v := 1) hx hb d_M_between_60 (by decide) ?_
                refine lv_goto hx hb d_M_between_61 (tgt := 65) rfl ?_
                exact J65 true (by simp [MS.bt, *]) H _ ls hP hD hS (lv_sub hl [0, 1, 2, 3, 4, 5, 6] rfl)
  exact L6 _ 0 0 (by omega) rfl rfl H _ ls hP hD hS (lv_sub hl [0, 1, 2, 3, 4, 5, 6] rfl)
theorem d_M_tidy_12 : decode prog_14_method_19_code 12 = .ok (.aload_n 0, 1) := by decide +kernel
theorem d_M_tidy_13 : decode prog_14_method_19_code 13 = .ok (.getfield 52, 3) := by decide +kernel
theorem d_M_tidy_16 : decode prog_14_method_19_code 16 = .ok (.iload_n 2, 1) := by decide +kernel
theorem d_M_tidy_17 : decode prog_14_method_19_code 17 = .ok (.iaload, 1) := by decide +kernel
theorem d_M_tidy_18 : decode prog_14_method_19_code 18 = .ok (.bipush (-2), 2) := by decide +kernel
theorem d_M_tidy_20 : decode prog_14_method_19_code 20 = .ok (.if_icmp .ne 6, 3) := by decide +kernel
theorem d_M_tidy_26 : decode prog_14_method_19_code 26 = .ok (.aload_n 0, 1) := by decide +kernel
theorem d_M_tidy_27 : decode prog_14_method_19_code 27 = .ok (.getfield 43, 3) := by decide +kernel
theorem d_M_tidy_30 : decode prog_14_method_19_code 30 = .ok (.iload_n 1, 1) := by decide +kernel
theorem d_M_tidy_31 : decode prog_14_method_19_code 31 = .ok (.aload_n 0, 1) := by decide +kernel
theorem d_M_tidy_32 : decode prog_14_method_19_code 32 = .ok (.getfield 43, 3) := by decide +kernel
theorem d_M_tidy_35 : decode prog_14_method_19_code 35 = .ok (.iload_n 2, 1) := by decide +kernel
theorem d_M_tidy_36 : decode prog_14_method_19_code 36 = .ok (.iaload, 1) := by decide +kernel
theorem d_M_tidy_37 : decode prog_14_method_19_code 37 = .ok (.iastore, 1) := by decide +kernel
theorem d_M_tidy_38 : decode prog_14_method_19_code 38 = .ok (.aload_n 0, 1) := by decide +kernel
theorem d_M_tidy_39 : decode prog_14_method_19_code 39 = .ok (.getfield 46, 3) := by decide +kernel
theorem d_M_tidy_42 : decode prog_14_method_19_code 42 = .ok (.iload_n 1, 1) := by decide +kernel
theorem d_M_tidy_43 : decode prog_14_method_19_code 43 = .ok (.aload_n 0, 1) := by decide +kernel
theorem d_M_tidy_44 : decode prog_14_method_19_code 44 = .ok (.getfield 46, 3) := by decide +kernel
theorem d_M_tidy_47 : decode prog_14_method_19_code 47 = .ok (.iload_n 2, 1) := by decide +kernel
theorem d_M_tidy_48 : decode prog_14_method_19_code 48 = .ok (.laload, 1) := by decide +kernel
theorem d_M_tidy_49 : decode prog_14_method_19_code 49 = .ok (.lastore, 1) := by decide +kernel
theorem d_M_tidy_50 : decode prog_14_method_19_code 50 = .ok (.aload_n 0, 1) := by decide +kernel
theorem d_M_tidy_51 : decode prog_14_method_19_code 51 = .ok (.getfield 49, 3) := by decide +kernel
theorem d_M_tidy_54 : decode prog_14_method_19_code 54 = .ok (.iload_n 1, 1) := by decide +kernel
theorem d_M_tidy_55 : decode prog_14_method_19_code 55 = .ok (.aload_n 0, 1) := by decide +kernel
theorem d_M_tidy_56 : decode prog_14_method_19_code 56 = .ok (.getfield 49, 3) := by decide +kernel
theorem d_M_tidy_59 : decode prog_14_method_19_code 59 = .ok (.iload_n 2, 1) := by decide +kernel
theorem d_M_tidy_60 : decode prog_14_method_19_code 60 = .ok (.laload, 1) := by decide +kernel
theorem d_M_tidy_61 : decode prog_14_method_19_code 61 = .ok (.lastore, 1) := by decide +kernel
theorem d_M_tidy_62 : decode prog_14_method_19_code 62 = .ok (.aload_n 0, 1) := by decide +kernel
theorem d_M_tidy_63 : decode prog_14_method_19_code 63 = .ok (.getfield 52, 3) := by decide +kernel
theorem d_M_tidy_66 : decode prog_14_method_19_code 66 = .ok (.iload_n 1, 1) := by decide +kernel
theorem d_M_tidy_67 : decode prog_14_method_19_code 67 = .ok (.aload_n 0, 1) := by decide +kernel
theorem d_M_tidy_68 : decode prog_14_method_19_code 68 = .ok (.getfield 52, 3) := by decide +kernel
theorem d_M_tidy_71 : decode prog_14_method_19_code 71 = .ok (.iload_n 2, 1) := by decide +kernel
theorem d_M_tidy_72 : decode prog_14_method_19_code 72 = .ok (.iaload, 1) := by decide +kernel
theorem d_M_tidy_73 : decode prog_14_method_19_code 73 = .ok (.iastore, 1) := by decide +kernel
theorem d_M_tidy_74 : decode prog_14_method_19_code 74 = .ok (.aload_n 0, 1) := by decide +kernel
theorem d_M_tidy_75 : decode prog_14_method_19_code 75 = .ok (.getfield 55, 3) := by decide +kernel
theorem d_M_tidy_78 : decode prog_14_method_19_code 78 = .ok (.iload_n 1, 1) := by decide +kernel
theorem d_M_tidy_79 : decode prog_14_method_19_code 79 = .ok (.aload_n 0, 1) := by decide +kernel
theorem d_M_tidy_80 : decode prog_14_method_19_code 80 = .ok (.getfield 55, 3) := by decide +kernel
theorem d_M_tidy_83 : decode prog_14_method_19_code 83 = .ok (.iload_n 2, 1) := by decide +kernel
theorem d_M_tidy_84 : decode prog_14_method_19_code 84 = .ok (.iaload, 1) := by decide +kernel
theorem d_M_tidy_85 : decode prog_14_method_19_code 85 = .ok (.iastore, 1) := by decide +kernel
theorem d_M_tidy_86 : decode prog_14_method_19_code 86 = .ok (.aload_n 0, 1) := by decide +kernel
theorem d_M_tidy_87 : decode prog_14_method_19_code 87 = .ok (.getfield 58, 3) := by decide +kernel
theorem d_M_tidy_90 : decode prog_14_method_19_code 90 = .ok (.iload_n 1, 1) := by decide +kernel
theorem d_M_tidy_91 : decode prog_14_method_19_code 91 = .ok (.aload_n 0, 1) := by decide +kernel
theorem d_M_tidy_92 : decode prog_14_method_19_code 92 = .ok (.getfield 58, 3) := by decide +kernel
theorem d_M_tidy_95 : decode prog_14_method_19_code 95 = .ok (.iload_n 2, 1) := by decide +kernel
theorem d_M_tidy_96 : decode prog_14_method_19_code 96 = .ok (.iaload, 1) := by decide +kernel
theorem d_M_tidy_97 : decode prog_14_method_19_code 97 = .ok (.iastore, 1) := by decide +kernel
theorem d_M_tidy_98 : decode prog_14_method_19_code 98 = .ok (.iinc 1 1, 3) := by decide +kernel
theorem d_M_tidy_101 : decode prog_14_method_19_code 101 = .ok (.iinc 2 1, 3) := by decide +kernel
theorem d_M_tidy_104 : decode prog_14_method_19_code 104 = .ok (.goto (-100), 3) := by decide +kernel
theorem d_M_tidy_23 : decode prog_14_method_19_code 23 = .ok (.goto 78, 3) := by decide +kernel
set_option maxHeartbeats 4000000 in
set_option maxRecDepth 100000 in
theorem k_tidy (l : Launch) (D : va_G) (dA : Nat → ClassId) (sz : Nat) (h : Nat) (ad : Nat → Nat) (x : MS) (h1 : x.points ≤ 12000) : Met l ⟨"SeriesVaultModel", "tidy", "()V"⟩ [Cond.code ⟨"SeriesVaultModel", "tidy", "()V"⟩ prog_14_method_19_code 3 none] { frames := 1, cells := 0, slots := 0, locals := 0 } (pC D dA [.ref h] (MW dA h ad x) sz) (va_Qv (fun (u9 : Unit) => True) (fun (u9 : Unit) t9 => bW D (va_A (MW dA h ad x) sz) (MW dA h ad (MS.s_points (MS.s_baseHidden (MS.s_hidden (MS.s_places (MS.s_pointValues (MS.s_pointTimes (MS.s_pointSeries x (tdT x.stay x.pointSeries x.points)) (tdT x.stay x.pointTimes x.points)) (tdT x.stay x.pointValues x.points)) (tdT x.stay x.places x.points)) (tdT x.stay x.hidden x.points)) (tdT x.stay x.baseHidden x.points)) (cnt x.points x.stay))) t9) (va_A (MW dA h ad x) sz)) 0 0 (va_A (MW dA h ad x) sz) := by
  refine mkC (y := ⟨"SeriesVaultModel", "tidy", "()V"⟩) (cc := prog_14_method_19_code) (maxL := 3) (av := [.ref h]) (ws := MW dA h ad x) (sz := sz) (Qc := fun A => va_Qv (fun (u9 : Unit) => True) (fun (u9 : Unit) t9 => bW D A (MW dA h ad (MS.s_points (MS.s_baseHidden (MS.s_hidden (MS.s_places (MS.s_pointValues (MS.s_pointTimes (MS.s_pointSeries x (tdT x.stay x.pointSeries x.points)) (tdT x.stay x.pointTimes x.points)) (tdT x.stay x.pointValues x.points)) (tdT x.stay x.places x.points)) (tdT x.stay x.hidden x.points)) (tdT x.stay x.baseHidden x.points)) (cnt x.points x.stay))) t9) A) (by decide) (Nat.le_of_ble_eq_true rfl) ?_
  intro A p e s m below meth c ls hsz hB
  obtain ⟨hx, hb, hr, hml, hown, hin, hlk, hE, hK, hP, hD, hS, hA, hN, hl⟩ := hB
  have hown : s.vm.findClass "SeriesVaultModel" = some m.cls := hown
  have hl : lv_has ls 3 [(0, .ref h)] := hl
  obtain ⟨H, hH⟩ : ∃ z, z = s.heap := ⟨_, rfl⟩
  have hP : va_P D vwCl (MW dA h ad x) H := by rw [hH]; exact hP
  have hS : va_S A s.heap H [] := by rw [hH]; exact hS
  rw [← hH]
  refine lv_iconst (v := 0) hx hb d_M_tidy_0 (by decide) ?_
  refine lv_istore_n hx hb d_M_tidy_1 rfl hl (by decide) rfl (fun ls hl => ?_)
  have hl : lv_has ls 3 [(1, .int 0), (0, .ref h)] := hl
  refine lv_iconst (v := 0) hx hb d_M_tidy_2 (by decide) ?_
  refine lv_istore_n hx hb d_M_tidy_3 rfl hl (by decide) rfl (fun ls hl => ?_)
  have hl : lv_has ls 3 [(2, .int 0), (1, .int 0), (0, .ref h)] := hl
  have L4 : ∀ (k9 : Nat) (q : Nat) (n : Nat) (i1 : q ≤ x.points) (i2 : n = cnt q x.stay) (hk9 : x.points - q = k9), ∀ (H : Heap) (locs : List Loc) (ls : Array Slot) (hP : va_P D vwCl (MW dA h ad (MS.s_baseHidden (MS.s_hidden (MS.s_places (MS.s_pointValues (MS.s_pointTimes (MS.s_pointSeries x (tdT x.stay x.pointSeries q)) (tdT x.stay x.pointTimes q)) (tdT x.stay x.pointValues q)) (tdT x.stay x.places q)) (tdT x.stay x.hidden q)) (tdT x.stay x.baseHidden q))) H) (hD : va_D A (MW dA h ad (MS.s_baseHidden (MS.s_hidden (MS.s_places (MS.s_pointValues (MS.s_pointTimes (MS.s_pointSeries x (tdT x.stay x.pointSeries q)) (tdT x.stay x.pointTimes q)) (tdT x.stay x.pointValues q)) (tdT x.stay x.places q)) (tdT x.stay x.hidden q)) (tdT x.stay x.baseHidden q)))) (hS : va_S A s.heap H locs) (hl : lv_has ls 3 [(2, .int (nI q)), (1, .int (nI n)), (0, .ref h)]), W p l e ({ frames := 1, cells := 0, slots := 0, locals := 0 } : Room) s m ([.ref h] : List Value).toArray below meth c H locs 0 0 (MQ below (va_Qv (fun (u9 : Unit) => True) (fun (u9 : Unit) t9 => bW D A (MW dA h ad (MS.s_points (MS.s_baseHidden (MS.s_hidden (MS.s_places (MS.s_pointValues (MS.s_pointTimes (MS.s_pointSeries x (tdT x.stay x.pointSeries x.points)) (tdT x.stay x.pointTimes x.points)) (tdT x.stay x.pointValues x.points)) (tdT x.stay x.places x.points)) (tdT x.stay x.hidden x.points)) (tdT x.stay x.baseHidden x.points)) (cnt x.points x.stay))) t9) A) ([.ref h] : List Value).toArray s 0 0 A) (F0 m 4 ls []) := by
    intro k9
    induction k9 using Nat.strongRecOn with
    | ind k9 ih4 =>
      intro q n i1 i2 hk9 H locs ls hP hD hS hl
      have i3 := cnt_le q x.stay
      refine lv_iload_n hx hb d_M_tidy_4 rfl (lv_at hl 0 rfl) ?_
      refine lv_aload_n hx hb d_M_tidy_5 rfl (lv_at hl 2 rfl) ?_
      refine gF (v := .int (nI x.points)) hx hb hown hE hK hP 0 rfl rfl layM 23 (by decide) w420 rfl d_M_tidy_6 ?_
      refine lv_icmp_ge hx hb d_M_tidy_9 (tgt := 107) rfl (fun g1 => ?_) (fun g1 => ?_)
      · have g1 := (nI_leI (a := x.points) (b := q) (by omega) (by omega)).mp g1
        refine lv_aload_n hx hb d_M_tidy_107 rfl (lv_at hl 2 rfl) ?_
        refine lv_iload_n hx hb d_M_tidy_108 rfl (lv_at hl 1 rfl) ?_
        refine pF (v := .int (nI n)) hx hb hown hE hK hP hD hS 0 rfl rfl layM tyM tokM nmM 23 (by decide) w420 rfl rfl rfl (Nat.le_of_ble_eq_true rfl) d_M_tidy_109 (fun H locs hP hD hS => ?_)
        have hP : va_P D vwCl (MW dA h ad (MS.s_points (MS.s_baseHidden (MS.s_hidden (MS.s_places (MS.s_pointValues (MS.s_pointTimes (MS.s_pointSeries x (tdT x.stay x.pointSeries q)) (tdT x.stay x.pointTimes q)) (tdT x.stay x.pointValues q)) (tdT x.stay x.places q)) (tdT x.stay x.hidden q)) (tdT x.stay x.baseHidden q)) n)) H := hP
        have hD : va_D A (MW dA h ad (MS.s_points (MS.s_baseHidden (MS.s_hidden (MS.s_places (MS.s_pointValues (MS.s_pointTimes (MS.s_pointSeries x (tdT x.stay x.pointSeries q)) (tdT x.stay x.pointTimes q)) (tdT x.stay x.pointValues q)) (tdT x.stay x.places q)) (tdT x.stay x.hidden q)) (tdT x.stay x.baseHidden q)) n)) := hD
        have e9 : (MS.s_points (MS.s_baseHidden (MS.s_hidden (MS.s_places (MS.s_pointValues (MS.s_pointTimes (MS.s_pointSeries x (tdT x.stay x.pointSeries q)) (tdT x.stay x.pointTimes q)) (tdT x.stay x.pointValues q)) (tdT x.stay x.places q)) (tdT x.stay x.hidden q)) (tdT x.stay x.baseHidden q)) n : MS) = MS.s_points (MS.s_baseHidden (MS.s_hidden (MS.s_places (MS.s_pointValues (MS.s_pointTimes (MS.s_pointSeries x (tdT x.stay x.pointSeries x.points)) (tdT x.stay x.pointTimes x.points)) (tdT x.stay x.pointValues x.points)) (tdT x.stay x.places x.points)) (tdT x.stay x.hidden x.points)) (tdT x.stay x.baseHidden x.points)) (cnt x.points x.stay) := by rw [show (tdT x.stay x.pointSeries x.points) = (tdT x.stay x.pointSeries q) from by (rw [show q = x.points by omega]), show (tdT x.stay x.pointValues x.points) = (tdT x.stay x.pointValues q) from by (rw [show q = x.points by omega]), show (tdT x.stay x.baseHidden x.points) = (tdT x.stay x.baseHidden q) from by (rw [show q = x.points by omega]), show (tdT x.stay x.pointTimes x.points) = (tdT x.stay x.pointTimes q) from by (rw [show q = x.points by omega]), show (tdT x.stay x.hidden x.points) = (tdT x.stay x.hidden q) from by (rw [show q = x.points by omega]), show (tdT x.stay x.places x.points) = (tdT x.stay x.places q) from by (rw [show q = x.points by omega]), show (cnt x.points x.stay) = n from by (rw [i2, show q = x.points by omega])] <;> rfl
        exact rfV hx hb hr hlk hS () trivial (cvP e9 hP) (cvD e9 hD) (Nat.le_of_ble_eq_true rfl) (Nat.le_of_ble_eq_true rfl) d_M_tidy_112
      · have g1 := mt (nI_leI (a := x.points) (b := q) (by omega) (by omega)).mpr g1
        refine lv_aload_n hx hb d_M_tidy_12 rfl (lv_at hl 2 rfl) ?_
        refine gF (v := .ref (ad 20)) hx hb hown hE hK hP 0 rfl rfl layM 20 (by decide) w506 rfl d_M_tidy_13 ?_
        refine lv_iload_n hx hb d_M_tidy_16 rfl (lv_at hl 0 rfl) ?_
        refine nild (f := (tdT x.stay x.places q)) hx hb hK hP 9 1 rfl rfl (q) (by omega) (by decide) d_M_tidy_17 ?_
        refine tpi (y := (x.places q)) (tdT_at _ _ (Nat.le_refl q)) ?_
        refine lv_bipush (v := (-2)) hx hb d_M_tidy_18 (by decide) ?_
        refine lv_icmp_ne hx hb d_M_tidy_20 (tgt := 26) rfl (fun g2 => ?_) (fun g2 => ?_)
        · have g2 := g2
          refine lv_aload_n hx hb d_M_tidy_26 rfl (lv_at hl 2 rfl) ?_
          refine gF (v := .ref (ad 17)) hx hb hown hE hK hP 0 rfl rfl layM 17 (by decide) w503 rfl d_M_tidy_27 ?_
          refine lv_iload_n hx hb d_M_tidy_30 rfl (lv_at hl 1 rfl) ?_
          refine lv_aload_n hx hb d_M_tidy_31 rfl (lv_at hl 2 rfl) ?_
          refine gF (v := .ref (ad 17)) hx hb hown hE hK hP 0 rfl rfl layM 17 (by decide) w503 rfl d_M_tidy_32 ?_
          refine lv_iload_n hx hb d_M_tidy_35 rfl (lv_at hl 0 rfl) ?_
          refine nild (f := (fun z9 => nI ((tdT x.stay x.pointSeries q) z9))) hx hb hK hP 6 1 rfl rfl (q) (by omega) (by decide) d_M_tidy_36 ?_
          refine tpi (y := nI (x.pointSeries q)) (congrArg nI (tdT_at _ _ (Nat.le_refl q))) ?_
          refine nistN (v := x.pointSeries q) hx hb hK hP hD hS 6 1 rfl rfl (n) (by omega) (by decide) d_M_tidy_37 (fun H locs hP hD hS => ?_)
          have hP : va_P D vwCl (MW dA h ad (MS.s_baseHidden (MS.s_hidden (MS.s_places (MS.s_pointValues (MS.s_pointTimes (MS.s_pointSeries x (va_up (tdT x.stay x.pointSeries q) n (x.pointSeries q))) (tdT x.stay x.pointTimes q)) (tdT x.stay x.pointValues q)) (tdT x.stay x.places q)) (tdT x.stay x.hidden q)) (tdT x.stay x.baseHidden q))) H := hP
          have hD : va_D A (MW dA h ad (MS.s_baseHidden (MS.s_hidden (MS.s_places (MS.s_pointValues (MS.s_pointTimes (MS.s_pointSeries x (va_up (tdT x.stay x.pointSeries q) n (x.pointSeries q))) (tdT x.stay x.pointTimes q)) (tdT x.stay x.pointValues q)) (tdT x.stay x.places q)) (tdT x.stay x.hidden q)) (tdT x.stay x.baseHidden q))) := hD
          refine lv_aload_n hx hb d_M_tidy_38 rfl (lv_at hl 2 rfl) ?_
          refine gF (v := .ref (ad 18)) hx hb hown hE hK hP 0 rfl rfl layM 18 (by decide) w504 rfl d_M_tidy_39 ?_
          refine lv_iload_n hx hb d_M_tidy_42 rfl (lv_at hl 1 rfl) ?_
          refine lv_aload_n hx hb d_M_tidy_43 rfl (lv_at hl 2 rfl) ?_
          refine gF (v := .ref (ad 18)) hx hb hown hE hK hP 0 rfl rfl layM 18 (by decide) w504 rfl d_M_tidy_44 ?_
          refine lv_iload_n hx hb d_M_tidy_47 rfl (lv_at hl 0 rfl) ?_
          refine nlld (f := (tdT x.stay x.pointTimes q)) hx hb hK hP 7 2 rfl rfl (q) (by omega) (by decide) d_M_tidy_48 ?_
          refine tpl (y := (x.pointTimes q)) (tdT_at _ _ (Nat.le_refl q)) ?_
          refine nlst hx hb hK hP hD hS 7 2 rfl rfl (n) (by omega) (by decide) d_M_tidy_49 (fun H locs hP hD hS => ?_)
          have hP : va_P D vwCl (MW dA h ad (MS.s_baseHidden (MS.s_hidden (MS.s_places (MS.s_pointValues (MS.s_pointTimes (MS.s_pointSeries x (va_up (tdT x.stay x.pointSeries q) n (x.pointSeries q))) (va_up (tdT x.stay x.pointTimes q) n (x.pointTimes q))) (tdT x.stay x.pointValues q)) (tdT x.stay x.places q)) (tdT x.stay x.hidden q)) (tdT x.stay x.baseHidden q))) H := hP
          have hD : va_D A (MW dA h ad (MS.s_baseHidden (MS.s_hidden (MS.s_places (MS.s_pointValues (MS.s_pointTimes (MS.s_pointSeries x (va_up (tdT x.stay x.pointSeries q) n (x.pointSeries q))) (va_up (tdT x.stay x.pointTimes q) n (x.pointTimes q))) (tdT x.stay x.pointValues q)) (tdT x.stay x.places q)) (tdT x.stay x.hidden q)) (tdT x.stay x.baseHidden q))) := hD
          refine lv_aload_n hx hb d_M_tidy_50 rfl (lv_at hl 2 rfl) ?_
          refine gF (v := .ref (ad 19)) hx hb hown hE hK hP 0 rfl rfl layM 19 (by decide) w505 rfl d_M_tidy_51 ?_
          refine lv_iload_n hx hb d_M_tidy_54 rfl (lv_at hl 1 rfl) ?_
          refine lv_aload_n hx hb d_M_tidy_55 rfl (lv_at hl 2 rfl) ?_
          refine gF (v := .ref (ad 19)) hx hb hown hE hK hP 0 rfl rfl layM 19 (by decide) w505 rfl d_M_tidy_56 ?_
          refine lv_iload_n hx hb d_M_tidy_59 rfl (lv_at hl 0 rfl) ?_
          refine nlld (f := (tdT x.stay x.pointValues q)) hx hb hK hP 8 2 rfl rfl (q) (by omega) (by decide) d_M_tidy_60 ?_
          refine tpl (y := (x.pointValues q)) (tdT_at _ _ (Nat.le_refl q)) ?_
          refine nlst hx hb hK hP hD hS 8 2 rfl rfl (n) (by omega) (by decide) d_M_tidy_61 (fun H locs hP hD hS => ?_)
          have hP : va_P D vwCl (MW dA h ad (MS.s_baseHidden (MS.s_hidden (MS.s_places (MS.s_pointValues (MS.s_pointTimes (MS.s_pointSeries x (va_up (tdT x.stay x.pointSeries q) n (x.pointSeries q))) (va_up (tdT x.stay x.pointTimes q) n (x.pointTimes q))) (va_up (tdT x.stay x.pointValues q) n (x.pointValues q))) (tdT x.stay x.places q)) (tdT x.stay x.hidden q)) (tdT x.stay x.baseHidden q))) H := hP
          have hD : va_D A (MW dA h ad (MS.s_baseHidden (MS.s_hidden (MS.s_places (MS.s_pointValues (MS.s_pointTimes (MS.s_pointSeries x (va_up (tdT x.stay x.pointSeries q) n (x.pointSeries q))) (va_up (tdT x.stay x.pointTimes q) n (x.pointTimes q))) (va_up (tdT x.stay x.pointValues q) n (x.pointValues q))) (tdT x.stay x.places q)) (tdT x.stay x.hidden q)) (tdT x.stay x.baseHidden q))) := hD
          refine lv_aload_n hx hb d_M_tidy_62 rfl (lv_at hl 2 rfl) ?_
          refine gF (v := .ref (ad 20)) hx hb hown hE hK hP 0 rfl rfl layM 20 (by decide) w506 rfl d_M_tidy_63 ?_
          refine lv_iload_n hx hb d_M_tidy_66 rfl (lv_at hl 1 rfl) ?_
          refine lv_aload_n hx hb d_M_tidy_67 rfl (lv_at hl 2 rfl) ?_
          refine gF (v := .ref (ad 20)) hx hb hown hE hK hP 0 rfl rfl layM 20 (by decide) w506 rfl d_M_tidy_68 ?_
          refine lv_iload_n hx hb d_M_tidy_71 rfl (lv_at hl 0 rfl) ?_
          refine nild (f := (tdT x.stay x.places q)) hx hb hK hP 9 1 rfl rfl (q) (by omega) (by decide) d_M_tidy_72 ?_
          refine tpi (y := (x.places q)) (tdT_at _ _ (Nat.le_refl q)) ?_
          refine nist hx hb hK hP hD hS 9 1 rfl rfl (n) (by omega) (by decide) d_M_tidy_73 (fun H locs hP hD hS => ?_)
          have hP : va_P D vwCl (MW dA h ad (MS.s_baseHidden (MS.s_hidden (MS.s_places (MS.s_pointValues (MS.s_pointTimes (MS.s_pointSeries x (va_up (tdT x.stay x.pointSeries q) n (x.pointSeries q))) (va_up (tdT x.stay x.pointTimes q) n (x.pointTimes q))) (va_up (tdT x.stay x.pointValues q) n (x.pointValues q))) (va_up (tdT x.stay x.places q) n (x.places q))) (tdT x.stay x.hidden q)) (tdT x.stay x.baseHidden q))) H := hP
          have hD : va_D A (MW dA h ad (MS.s_baseHidden (MS.s_hidden (MS.s_places (MS.s_pointValues (MS.s_pointTimes (MS.s_pointSeries x (va_up (tdT x.stay x.pointSeries q) n (x.pointSeries q))) (va_up (tdT x.stay x.pointTimes q) n (x.pointTimes q))) (va_up (tdT x.stay x.pointValues q) n (x.pointValues q))) (va_up (tdT x.stay x.places q) n (x.places q))) (tdT x.stay x.hidden q)) (tdT x.stay x.baseHidden q))) := hD
          refine lv_aload_n hx hb d_M_tidy_74 rfl (lv_at hl 2 rfl) ?_
          refine gF (v := .ref (ad 21)) hx hb hown hE hK hP 0 rfl rfl layM 21 (by decide) w507 rfl d_M_tidy_75 ?_
          refine lv_iload_n hx hb d_M_tidy_78 rfl (lv_at hl 1 rfl) ?_
          refine lv_aload_n hx hb d_M_tidy_79 rfl (lv_at hl 2 rfl) ?_
          refine gF (v := .ref (ad 21)) hx hb hown hE hK hP 0 rfl rfl layM 21 (by decide) w507 rfl d_M_tidy_80 ?_
          refine lv_iload_n hx hb d_M_tidy_83 rfl (lv_at hl 0 rfl) ?_
          refine nild (f := (tdT x.stay x.hidden q)) hx hb hK hP 10 1 rfl rfl (q) (by omega) (by decide) d_M_tidy_84 ?_
          refine tpi (y := (x.hidden q)) (tdT_at _ _ (Nat.le_refl q)) ?_
          refine nist hx hb hK hP hD hS 10 1 rfl rfl (n) (by omega) (by decide) d_M_tidy_85 (fun H locs hP hD hS => ?_)
          have hP : va_P D vwCl (MW dA h ad (MS.s_baseHidden (MS.s_hidden (MS.s_places (MS.s_pointValues (MS.s_pointTimes (MS.s_pointSeries x (va_up (tdT x.stay x.pointSeries q) n (x.pointSeries q))) (va_up (tdT x.stay x.pointTimes q) n (x.pointTimes q))) (va_up (tdT x.stay x.pointValues q) n (x.pointValues q))) (va_up (tdT x.stay x.places q) n (x.places q))) (va_up (tdT x.stay x.hidden q) n (x.hidden q))) (tdT x.stay x.baseHidden q))) H := hP
          have hD : va_D A (MW dA h ad (MS.s_baseHidden (MS.s_hidden (MS.s_places (MS.s_pointValues (MS.s_pointTimes (MS.s_pointSeries x (va_up (tdT x.stay x.pointSeries q) n (x.pointSeries q))) (va_up (tdT x.stay x.pointTimes q) n (x.pointTimes q))) (va_up (tdT x.stay x.pointValues q) n (x.pointValues q))) (va_up (tdT x.stay x.places q) n (x.places q))) (va_up (tdT x.stay x.hidden q) n (x.hidden q))) (tdT x.stay x.baseHidden q))) := hD
          refine lv_aload_n hx hb d_M_tidy_86 rfl (lv_at hl 2 rfl) ?_
          refine gF (v := .ref (ad 22)) hx hb hown hE hK hP 0 rfl rfl layM 22 (by decide) w508 rfl d_M_tidy_87 ?_
          refine lv_iload_n hx hb d_M_tidy_90 rfl (lv_at hl 1 rfl) ?_
          refine lv_aload_n hx hb d_M_tidy_91 rfl (lv_at hl 2 rfl) ?_
          refine gF (v := .ref (ad 22)) hx hb hown hE hK hP 0 rfl rfl layM 22 (by decide) w508 rfl d_M_tidy_92 ?_
          refine lv_iload_n hx hb d_M_tidy_95 rfl (lv_at hl 0 rfl) ?_
          refine nild (f := (tdT x.stay x.baseHidden q)) hx hb hK hP 11 1 rfl rfl (q) (by omega) (by decide) d_M_tidy_96 ?_
          refine tpi (y := (x.baseHidden q)) (tdT_at _ _ (Nat.le_refl q)) ?_
          refine nist hx hb hK hP hD hS 11 1 rfl rfl (n) (by omega) (by decide) d_M_tidy_97 (fun H locs hP hD hS => ?_)
          have hP : va_P D vwCl (MW dA h ad (MS.s_baseHidden (MS.s_hidden (MS.s_places (MS.s_pointValues (MS.s_pointTimes (MS.s_pointSeries x (va_up (tdT x.stay x.pointSeries q) n (x.pointSeries q))) (va_up (tdT x.stay x.pointTimes q) n (x.pointTimes q))) (va_up (tdT x.stay x.pointValues q) n (x.pointValues q))) (va_up (tdT x.stay x.places q) n (x.places q))) (va_up (tdT x.stay x.hidden q) n (x.hidden q))) (va_up (tdT x.stay x.baseHidden q) n (x.baseHidden q)))) H := hP
          have hD : va_D A (MW dA h ad (MS.s_baseHidden (MS.s_hidden (MS.s_places (MS.s_pointValues (MS.s_pointTimes (MS.s_pointSeries x (va_up (tdT x.stay x.pointSeries q) n (x.pointSeries q))) (va_up (tdT x.stay x.pointTimes q) n (x.pointTimes q))) (va_up (tdT x.stay x.pointValues q) n (x.pointValues q))) (va_up (tdT x.stay x.places q) n (x.places q))) (va_up (tdT x.stay x.hidden q) n (x.hidden q))) (va_up (tdT x.stay x.baseHidden q) n (x.baseHidden q)))) := hD
          refine lv_iinc (k := 1) (v := nI (n + 1)) hx hb d_M_tidy_98 hl rfl (iincN (n) 1 1 (by decide)) (by decide) rfl (fun ls hl => ?_)
          have hl : lv_has ls 3 [(1, .int (nI (n + 1))), (2, .int (nI q)), (0, .ref h)] := hl
          refine lv_iinc (k := 1) (v := nI (q + 1)) hx hb d_M_tidy_101 hl rfl (iincN (q) 1 1 (by decide)) (by decide) rfl (fun ls hl => ?_)
          have hl : lv_has ls 3 [(2, .int (nI (q + 1))), (1, .int (nI (n + 1))), (0, .ref h)] := hl
          refine lv_goto hx hb d_M_tidy_104 (tgt := 4) rfl ?_
          have e9 : (MS.s_baseHidden (MS.s_hidden (MS.s_places (MS.s_pointValues (MS.s_pointTimes (MS.s_pointSeries x (va_up (tdT x.stay x.pointSeries q) n (x.pointSeries q))) (va_up (tdT x.stay x.pointTimes q) n (x.pointTimes q))) (va_up (tdT x.stay x.pointValues q) n (x.pointValues q))) (va_up (tdT x.stay x.places q) n (x.places q))) (va_up (tdT x.stay x.hidden q) n (x.hidden q))) (va_up (tdT x.stay x.baseHidden q) n (x.baseHidden q)) : MS) = MS.s_baseHidden (MS.s_hidden (MS.s_places (MS.s_pointValues (MS.s_pointTimes (MS.s_pointSeries x (tdT x.stay x.pointSeries (q + 1))) (tdT x.stay x.pointTimes (q + 1))) (tdT x.stay x.pointValues (q + 1))) (tdT x.stay x.places (q + 1))) (tdT x.stay x.hidden (q + 1))) (tdT x.stay x.baseHidden (q + 1)) := by rw [show (tdT x.stay x.pointSeries (q + 1)) = (va_up (tdT x.stay x.pointSeries q) n (x.pointSeries q)) from (by first | rfl | exact tdT_f (by simp [MS.stay, *]) | exact tdT_t (by simp [MS.stay, *]) rfl | (rw [i2]; exact tdT_t (by simp [MS.stay, *]) rfl)), show (tdT x.stay x.pointValues (q + 1)) = (va_up (tdT x.stay x.pointValues q) n (x.pointValues q)) from (by first | rfl | exact tdT_f (by simp [MS.stay, *]) | exact tdT_t (by simp [MS.stay, *]) rfl | (rw [i2]; exact tdT_t (by simp [MS.stay, *]) rfl)), show (tdT x.stay x.baseHidden (q + 1)) = (va_up (tdT x.stay x.baseHidden q) n (x.baseHidden q)) from (by first | rfl | exact tdT_f (by simp [MS.stay, *]) | exact tdT_t (by simp [MS.stay, *]) rfl | (rw [i2]; exact tdT_t (by simp [MS.stay, *]) rfl)), show (tdT x.stay x.pointTimes (q + 1)) = (va_up (tdT x.stay x.pointTimes q) n (x.pointTimes q)) from (by first | rfl | exact tdT_f (by simp [MS.stay, *]) | exact tdT_t (by simp [MS.stay, *]) rfl | (rw [i2]; exact tdT_t (by simp [MS.stay, *]) rfl)), show (tdT x.stay x.hidden (q + 1)) = (va_up (tdT x.stay x.hidden q) n (x.hidden q)) from (by first | rfl | exact tdT_f (by simp [MS.stay, *]) | exact tdT_t (by simp [MS.stay, *]) rfl | (rw [i2]; exact tdT_t (by simp [MS.stay, *]) rfl)), show (tdT x.stay x.places (q + 1)) = (va_up (tdT x.stay x.places q) n (x.places q)) from (by first | rfl | exact tdT_f (by simp [MS.stay, *]) | exact tdT_t (by simp [MS.stay, *]) rfl | (rw [i2]; exact tdT_t (by simp [MS.stay, *]) rfl))] <;> rfl
          exact ih4 _ (by omega) (q + 1) (n + 1) (by omega) (by simp [cnt, MS.stay, *]) rfl H _ ls (cvP e9 hP) (cvD e9 hD) hS (lv_sub hl [0, 1, 2] rfl)
        · have g2 := g2
          refine lv_goto hx hb d_M_tidy_23 (tgt := 101) rfl ?_
          refine lv_iinc (k := 0) (v := nI (q + 1)) hx hb d_M_tidy_101 hl rfl (iincN (q) 1 1 (by decide)) (by decide) rfl (fun ls hl => ?_)
          have hl : lv_has ls 3 [(2, .int (nI (q + 1))), (1, .int (nI n)), (0, .ref h)] := hl
          refine lv_goto hx hb d_M_tidy_104 (tgt := 4) rfl ?_
          have e9 : (MS.s_baseHidden (MS.s_hidden (MS.s_places (MS.s_pointValues (MS.s_pointTimes (MS.s_pointSeries x (tdT x.stay x.pointSeries q)) (tdT x.stay x.pointTimes q)) (tdT x.stay x.pointValues q)) (tdT x.stay x.places q)) (tdT x.stay x.hidden q)) (tdT x.stay x.baseHidden q) : MS) = MS.s_baseHidden (MS.s_hidden (MS.s_places (MS.s_pointValues (MS.s_pointTimes (MS.s_pointSeries x (tdT x.stay x.pointSeries (q + 1))) (tdT x.stay x.pointTimes (q + 1))) (tdT x.stay x.pointValues (q + 1))) (tdT x.stay x.places (q + 1))) (tdT x.stay x.hidden (q + 1))) (tdT x.stay x.baseHidden (q + 1)) := by rw [show (tdT x.stay x.pointSeries (q + 1)) = (tdT x.stay x.pointSeries q) from (by first | rfl | exact tdT_f (by simp [MS.stay, *]) | exact tdT_t (by simp [MS.stay, *]) rfl | (rw [i2]; exact tdT_t (by simp [MS.stay, *]) rfl)), show (tdT x.stay x.pointValues (q + 1)) = (tdT x.stay x.pointValues q) from (by first | rfl | exact tdT_f (by simp [MS.stay, *]) | exact tdT_t (by simp [MS.stay, *]) rfl | (rw [i2]; exact tdT_t (by simp [MS.stay, *]) rfl)), show (tdT x.stay x.baseHidden (q + 1)) = (tdT x.stay x.baseHidden q) from (by first | rfl | exact tdT_f (by simp [MS.stay, *]) | exact tdT_t (by simp [MS.stay, *]) rfl | (rw [i2]; exact tdT_t (by simp [MS.stay, *]) rfl)), show (tdT x.stay x.pointTimes (q + 1)) = (tdT x.stay x.pointTimes q) from (by first | rfl | exact tdT_f (by simp [MS.stay, *]) | exact tdT_t (by simp [MS.stay, *]) rfl | (rw [i2]; exact tdT_t (by simp [MS.stay, *]) rfl)), show (tdT x.stay x.hidden (q + 1)) = (tdT x.stay x.hidden q) from (by first | rfl | exact tdT_f (by simp [MS.stay, *]) | exact tdT_t (by simp [MS.stay, *]) rfl | (rw [i2]; exact tdT_t (by simp [MS.stay, *]) rfl)), show (tdT x.stay x.places (q + 1)) = (tdT x.stay x.places q) from (by first | rfl | exact tdT_f (by simp [MS.stay, *]) | exact tdT_t (by simp [MS.stay, *]) rfl | (rw [i2]; exact tdT_t (by simp [MS.stay, *]) rfl))] <;> rfl
          exact ih4 _ (by omega) (q + 1) n (by omega) (by simp [cnt, MS.stay, *]) rfl H _ ls (cvP e9 hP) (cvD e9 hD) hS (lv_sub hl [0, 1, 2] rfl)
  have e9 : (x : MS) = MS.s_baseHidden (MS.s_hidden (MS.s_places (MS.s_pointValues (MS.s_pointTimes (MS.s_pointSeries x (tdT x.stay x.pointSeries 0)) (tdT x.stay x.pointTimes 0)) (tdT x.stay x.pointValues 0)) (tdT x.stay x.places 0)) (tdT x.stay x.hidden 0)) (tdT x.stay x.baseHidden 0) := by rw [show (tdT x.stay x.pointSeries 0) = x.pointSeries from (by first | rfl | exact tdT_f (by simp [MS.stay, *]) | exact tdT_t (by simp [MS.stay, *]) rfl | (rw [i2]; exact tdT_t (by simp [MS.stay, *]) rfl)), show (tdT x.stay x.pointValues 0) = x.pointValues from (by first | rfl | exact tdT_f (by simp [MS.stay, *]) | exact tdT_t (by simp [MS.stay, *]) rfl | (rw [i2]; exact tdT_t (by simp [MS.stay, *]) rfl)), show (tdT x.stay x.baseHidden 0) = x.baseHidden from (by first | rfl | exact tdT_f (by simp [MS.stay, *]) | exact tdT_t (by simp [MS.stay, *]) rfl | (rw [i2]; exact tdT_t (by simp [MS.stay, *]) rfl)), show (tdT x.stay x.pointTimes 0) = x.pointTimes from (by first | rfl | exact tdT_f (by simp [MS.stay, *]) | exact tdT_t (by simp [MS.stay, *]) rfl | (rw [i2]; exact tdT_t (by simp [MS.stay, *]) rfl)), show (tdT x.stay x.hidden 0) = x.hidden from (by first | rfl | exact tdT_f (by simp [MS.stay, *]) | exact tdT_t (by simp [MS.stay, *]) rfl | (rw [i2]; exact tdT_t (by simp [MS.stay, *]) rfl)), show (tdT x.stay x.places 0) = x.places from (by first | rfl | exact tdT_f (by simp [MS.stay, *]) | exact tdT_t (by simp [MS.stay, *]) rfl | (rw [i2]; exact tdT_t (by simp [MS.stay, *]) rfl))] <;> rfl
  exact L4 _ 0 0 (by omega) rfl rfl H _ ls (cvP e9 hP) (cvD e9 hD) hS (lv_sub hl [0, 1, 2] rfl)
theorem d_M_free_27 : decode prog_14_method_9_code 27 = .ok (.iload_n 1, 1) := by decide +kernel
theorem d_M_free_28 : decode prog_14_method_9_code 28 = .ok (.aload_n 0, 1) := by decide +kernel
theorem d_M_free_29 : decode prog_14_method_9_code 29 = .ok (.getfield 64, 3) := by decide +kernel
theorem d_M_free_32 : decode prog_14_method_9_code 32 = .ok (.iload_n 2, 1) := by decide +kernel
theorem d_M_free_33 : decode prog_14_method_9_code 33 = .ok (.iaload, 1) := by decide +kernel
theorem d_M_free_34 : decode prog_14_method_9_code 34 = .ok (.isub, 1) := by decide +kernel
theorem d_M_free_35 : decode prog_14_method_9_code 35 = .ok (.istore_n 1, 1) := by decide +kernel
theorem d_M_free_36 : decode prog_14_method_9_code 36 = .ok (.iinc 2 1, 3) := by decide +kernel
theorem d_M_free_39 : decode prog_14_method_9_code 39 = .ok (.goto (-20), 3) := by decide +kernel
set_option maxHeartbeats 4000000 in
set_option maxRecDepth 100000 in
theorem k_free (l : Launch) (D : va_G) (dA : Nat → ClassId) (sz : Nat) (h : Nat) (ad : Nat → Nat) (x : MS) (h1 : x.parcelCount ≤ 40) (h2 : 2 + x.journal + x.catalogBlocks + sumN x.parcelCount x.parcelBlocks ≤ x.blocks) (h3 : x.blocks ≤ 256) : Met l ⟨"SeriesVaultModel", "free", "()I"⟩ [Cond.code ⟨"SeriesVaultModel", "free", "()I"⟩ prog_14_method_9_code 3 (some FieldType.int)] { frames := 1, cells := 0, slots := 0, locals := 0 } (pC D dA [.ref h] (MW dA h ad x) sz) (va_Qi (fun (r9 : Int32) (u9 : Unit) => r9 = nI x.freeN) (fun (u9 : Unit) t9 => bW D (va_A (MW dA h ad x) sz) (MW dA h ad x) t9) (va_A (MW dA h ad x) sz)) 0 0 (va_A (MW dA h ad x) sz) := by
  refine mkC (y := ⟨"SeriesVaultModel", "free", "()I"⟩) (cc := prog_14_method_9_code) (maxL := 3) (av := [.ref h]) (ws := MW dA h ad x) (sz := sz) (Qc := fun A => va_Qi (fun (r9 : Int32) (u9 : Unit) => r9 = nI x.freeN) (fun (u9 : Unit) t9 => bW D A (MW dA h ad x) t9) A) (by decide) (Nat.le_of_ble_eq_true rfl) ?_
  intro A p e s m below meth c ls hsz hB
  obtain ⟨hx, hb, hr, hml, hown, hin, hlk, hE, hK, hP, hD, hS, hA, hN, hl⟩ := hB
  have hown : s.vm.findClass "SeriesVaultModel" = some m.cls := hown
  have hl : lv_has ls 3 [(0, .ref h)] := hl
  obtain ⟨H, hH⟩ : ∃ z, z = s.heap := ⟨_, rfl⟩
  have hP : va_P D vwCl (MW dA h ad x) H := by rw [hH]; exact hP
  have hS : va_S A s.heap H [] := by rw [hH]; exact hS
  rw [← hH]
  refine lv_aload_n hx hb d_M_free_0 rfl (lv_at hl 0 rfl) ?_
  refine gF (v := .int (nI x.blocks)) hx hb hown hE hK hP 0 rfl rfl layM 5 (by decide) w416 rfl d_M_free_1 ?_
  refine lv_iconst (v := 2) hx hb d_M_free_4 (by decide) ?_
  refine lv_isub hx hb d_M_free_5 (tpi (y := nI (x.blocks - 2)) (pk_sub (a := x.blocks) (b := 2) (by omega)) ?_)
  refine lv_aload_n hx hb d_M_free_6 rfl (lv_at hl 0 rfl) ?_
  refine gF (v := .int (nI x.journal)) hx hb hown hE hK hP 0 rfl rfl layM 6 (by decide) w417 rfl d_M_free_7 ?_
  refine lv_isub hx hb d_M_free_10 (tpi (y := nI ((x.blocks - 2) - x.journal)) (pk_sub (a := x.blocks - 2) (b := x.journal) (by omega)) ?_)
  refine lv_aload_n hx hb d_M_free_11 rfl (lv_at hl 0 rfl) ?_
  refine gF (v := .int (nI x.catalogBlocks)) hx hb hown hE hK hP 0 rfl rfl layM 16 (by decide) w419 rfl d_M_free_12 ?_
  refine lv_isub hx hb d_M_free_15 (tpi (y := nI (((x.blocks - 2) - x.journal) - x.catalogBlocks)) (pk_sub (a := (x.blocks - 2) - x.journal) (b := x.catalogBlocks) (by omega)) ?_)
  refine lv_istore_n hx hb d_M_free_16 rfl hl (by decide) rfl (fun ls hl => ?_)
  have hl : lv_has ls 3 [(1, .int (nI (((x.blocks - 2) - x.journal) - x.catalogBlocks))), (0, .ref h)] := hl
  refine lv_iconst (v := 0) hx hb d_M_free_17 (by decide) ?_
  refine lv_istore_n hx hb d_M_free_18 rfl hl (by decide) rfl (fun ls hl => ?_)
  have hl : lv_has ls 3 [(2, .int 0), (1, .int (nI (((x.blocks - 2) - x.journal) - x.catalogBlocks))), (0, .ref h)] := hl
  have L19 : ∀ (k9 : Nat) (k : Nat) (n : Nat) (i1 : k ≤ x.parcelCount) (i3 : n + sumN k x.parcelBlocks = x.blocks - 2 - x.journal - x.catalogBlocks) (hk9 : x.parcelCount - k = k9), ∀ (H : Heap) (locs : List Loc) (ls : Array Slot) (hP : va_P D vwCl (MW dA h ad x) H) (hD : va_D A (MW dA h ad x)) (hS : va_S A s.heap H locs) (hl : lv_has ls 3 [(2, .int (nI k)), (1, .int (nI n)), (0, .ref h)]), W p l e ({ frames := 1, cells := 0, slots := 0, locals := 0 } : Room) s m ([.ref h] : List Value).toArray below meth c H locs 0 0 (MQ below (va_Qi (fun (r9 : Int32) (u9 : Unit) => r9 = nI x.freeN) (fun (u9 : Unit) t9 => bW D A (MW dA h ad x) t9) A) ([.ref h] : List Value).toArray s 0 0 A) (F0 m 19 ls []) := by
    intro k9
    induction k9 using Nat.strongRecOn with
    | ind k9 ih19 =>
      intro k n i1 i3 hk9 H locs ls hP hD hS hl
      refine lv_iload_n hx hb d_M_free_19 rfl (lv_at hl 0 rfl) ?_
      refine lv_aload_n hx hb d_M_free_20 rfl (lv_at hl 2 rfl) ?_
      refine gF (v := .int (nI x.parcelCount)) hx hb hown hE hK hP 0 rfl rfl layM 28 (by decide) w344 rfl d_M_free_21 ?_
      refine lv_icmp_ge hx hb d_M_free_24 (tgt := 42) rfl (fun g1 => ?_) (fun g1 => ?_)
      · have g1 := (nI_leI (a := x.parcelCount) (b := k) (by omega) (by omega)).mp g1
        refine lv_iload_n hx hb d_M_free_42 rfl (lv_at hl 1 rfl) ?_
        exact rfI hx hb hr hlk hS () (congrArg nI (by rw [show k = x.parcelCount by omega] at i3; unfold MS.freeN; omega)) hP hD (Nat.le_of_ble_eq_true rfl) (Nat.le_of_ble_eq_true rfl) d_M_free_43
      · have g1 := mt (nI_leI (a := x.parcelCount) (b := k) (by omega) (by omega)).mpr g1
        refine lv_iload_n hx hb d_M_free_27 rfl (lv_at hl 1 rfl) ?_
        refine lv_aload_n hx hb d_M_free_28 rfl (lv_at hl 2 rfl) ?_
        refine gF (v := .ref (ad 27)) hx hb hown hE hK hP 0 rfl rfl layM 27 (by decide) w510 rfl d_M_free_29 ?_
        refine lv_iload_n hx hb d_M_free_32 rfl (lv_at hl 0 rfl) ?_
        refine nild (f := (fun z9 => nI (x.parcelBlocks z9))) hx hb hK hP 13 1 rfl rfl (k) (by omega) (by decide) d_M_free_33 ?_
        have i4 := sumN_lt x.parcelBlocks (show k < x.parcelCount by omega)
        refine lv_isub hx hb d_M_free_34 (tpi (y := nI (n - (x.parcelBlocks k))) (pk_sub (a := n) (b := x.parcelBlocks k) (by omega)) ?_)
        refine lv_istore_n hx hb d_M_free_35 rfl hl (by decide) rfl (fun ls hl => ?_)
        have hl : lv_has ls 3 [(1, .int (nI (n - (x.parcelBlocks k)))), (2, .int (nI k)), (0, .ref h)] := hl
        refine lv_iinc (k := 1) (v := nI (k + 1)) hx hb d_M_free_36 hl rfl (iincN (k) 1 1 (by decide)) (by decide) rfl (fun ls hl => ?_)
        have hl : lv_has ls 3 [(2, .int (nI (k + 1))), (1, .int (nI (n - (x.parcelBlocks k)))), (0, .ref h)] := hl
        refine lv_goto hx hb d_M_free_39 (tgt := 19) rfl ?_
        exact ih19 _ (by omega) (k + 1) (n - (x.parcelBlocks k)) (by omega) (by show _ + (sumN k x.parcelBlocks + x.parcelBlocks k) = _; omega) rfl H _ ls hP hD hS (lv_sub hl [0, 1, 2] rfl)
  exact L19 _ 0 (((x.blocks - 2) - x.journal) - x.catalogBlocks) (by omega) (by show _ + 0 = _; omega) rfl H _ ls hP hD hS (lv_sub hl [0, 1, 2] rfl)
theorem d_M_scars_35 : decode prog_14_method_15_code 35 = .ok (.istore_n 3, 1) := by decide +kernel
theorem d_M_scars_87 : decode prog_14_method_15_code 87 = .ok (.iload_n 1, 1) := by decide +kernel
theorem d_M_scars_88 : decode prog_14_method_15_code 88 = .ok (.iload_n 3, 1) := by decide +kernel
theorem d_M_scars_89 : decode prog_14_method_15_code 89 = .ok (.ifCond .eq 7, 3) := by decide +kernel
theorem d_M_scars_96 : decode prog_14_method_15_code 96 = .ok (.iconst 0, 1) := by decide +kernel
theorem d_M_scars_97 : decode prog_14_method_15_code 97 = .ok (.iadd, 1) := by decide +kernel
theorem d_M_scars_98 : decode prog_14_method_15_code 98 = .ok (.istore_n 1, 1) := by decide +kernel
theorem d_M_scars_99 : decode prog_14_method_15_code 99 = .ok (.iinc 2 1, 3) := by decide +kernel
theorem d_M_scars_102 : decode prog_14_method_15_code 102 = .ok (.goto (-98), 3) := by decide +kernel
theorem d_M_scars_92 : decode prog_14_method_15_code 92 = .ok (.iconst 1, 1) := by decide +kernel
theorem d_M_scars_93 : decode prog_14_method_15_code 93 = .ok (.goto 4, 3) := by decide +kernel
theorem d_M_scars_36 : decode prog_14_method_15_code 36 = .ok (.iconst 0, 1) := by decide +kernel
theorem d_M_scars_37 : decode prog_14_method_15_code 37 = .ok (.istore 4, 2) := by decide +kernel
theorem d_M_scars_39 : decode prog_14_method_15_code 39 = .ok (.iload 4, 2) := by decide +kernel
theorem d_M_scars_41 : decode prog_14_method_15_code 41 = .ok (.iload_n 2, 1) := by decide +kernel
theorem d_M_scars_42 : decode prog_14_method_15_code 42 = .ok (.if_icmp .ge 45, 3) := by decide +kernel
theorem d_M_scars_45 : decode prog_14_method_15_code 45 = .ok (.iload_n 3, 1) := by decide +kernel
theorem d_M_scars_46 : decode prog_14_method_15_code 46 = .ok (.ifCond .eq 41, 3) := by decide +kernel
theorem d_M_scars_49 : decode prog_14_method_15_code 49 = .ok (.aload_n 0, 1) := by decide +kernel
theorem d_M_scars_50 : decode prog_14_method_15_code 50 = .ok (.getfield 52, 3) := by decide +kernel
theorem d_M_scars_53 : decode prog_14_method_15_code 53 = .ok (.iload 4, 2) := by decide +kernel
theorem d_M_scars_55 : decode prog_14_method_15_code 55 = .ok (.iaload, 1) := by decide +kernel
theorem d_M_scars_56 : decode prog_14_method_15_code 56 = .ok (.ifCond .lt 19, 3) := by decide +kernel
theorem d_M_scars_75 : decode prog_14_method_15_code 75 = .ok (.iconst 1, 1) := by decide +kernel
theorem d_M_scars_76 : decode prog_14_method_15_code 76 = .ok (.goto 4, 3) := by decide +kernel
theorem d_M_scars_80 : decode prog_14_method_15_code 80 = .ok (.istore_n 3, 1) := by decide +kernel
theorem d_M_scars_81 : decode prog_14_method_15_code 81 = .ok (.iinc 4 1, 3) := by decide +kernel
theorem d_M_scars_84 : decode prog_14_method_15_code 84 = .ok (.goto (-45), 3) := by decide +kernel
theorem d_M_scars_59 : decode prog_14_method_15_code 59 = .ok (.aload_n 0, 1) := by decide +kernel
theorem d_M_scars_60 : decode prog_14_method_15_code 60 = .ok (.getfield 55, 3) := by decide +kernel
theorem d_M_scars_63 : decode prog_14_method_15_code 63 = .ok (.iload 4, 2) := by decide +kernel
theorem d_M_scars_65 : decode prog_14_method_15_code 65 = .ok (.iaload, 1) := by decide +kernel
theorem d_M_scars_66 : decode prog_14_method_15_code 66 = .ok (.aload_n 0, 1) := by decide +kernel
theorem d_M_scars_67 : decode prog_14_method_15_code 67 = .ok (.getfield 55, 3) := by decide +kernel
theorem d_M_scars_70 : decode prog_14_method_15_code 70 = .ok (.iload_n 2, 1) := by decide +kernel
theorem d_M_scars_71 : decode prog_14_method_15_code 71 = .ok (.iaload, 1) := by decide +kernel
theorem d_M_scars_72 : decode prog_14_method_15_code 72 = .ok (.if_icmp .eq 7, 3) := by decide +kernel
theorem d_M_scars_79 : decode prog_14_method_15_code 79 = .ok (.iconst 0, 1) := by decide +kernel
theorem d_M_scars_12 : decode prog_14_method_15_code 12 = .ok (.aload_n 0, 1) := by decide +kernel
theorem d_M_scars_13 : decode prog_14_method_15_code 13 = .ok (.getfield 52, 3) := by decide +kernel
theorem d_M_scars_16 : decode prog_14_method_15_code 16 = .ok (.iload_n 2, 1) := by decide +kernel
theorem d_M_scars_17 : decode prog_14_method_15_code 17 = .ok (.iaload, 1) := by decide +kernel
theorem d_M_scars_18 : decode prog_14_method_15_code 18 = .ok (.ifCond .lt 16, 3) := by decide +kernel
theorem d_M_scars_34 : decode prog_14_method_15_code 34 = .ok (.iconst 0, 1) := by decide +kernel
theorem d_M_scars_21 : decode prog_14_method_15_code 21 = .ok (.aload_n 0, 1) := by decide +kernel
theorem d_M_scars_22 : decode prog_14_method_15_code 22 = .ok (.getfield 55, 3) := by decide +kernel
theorem d_M_scars_25 : decode prog_14_method_15_code 25 = .ok (.iload_n 2, 1) := by decide +kernel
theorem d_M_scars_26 : decode prog_14_method_15_code 26 = .ok (.iaload, 1) := by decide +kernel
theorem d_M_scars_27 : decode prog_14_method_15_code 27 = .ok (.ifCond .lt 7, 3) := by decide +kernel
theorem d_M_scars_30 : decode prog_14_method_15_code 30 = .ok (.iconst 1, 1) := by decide +kernel
theorem d_M_scars_31 : decode prog_14_method_15_code 31 = .ok (.goto 4, 3) := by decide +kernel
set_option maxHeartbeats 4000000 in
set_option maxRecDepth 100000 in
theorem k_scars (l : Launch) (D : va_G) (dA : Nat → ClassId) (sz : Nat) (h : Nat) (ad : Nat → Nat) (x : MS) (h1 : x.points ≤ 12000) : Met l ⟨"SeriesVaultModel", "scars", "()I"⟩ [Cond.code ⟨"SeriesVaultModel", "scars", "()I"⟩ prog_14_method_15_code 5 (some FieldType.int)] { frames := 1, cells := 0, slots := 0, locals := 0 } (pC D dA [.ref h] (MW dA h ad x) sz) (va_Qi (fun (r9 : Int32) (u9 : Unit) => r9 = nI (cnt x.points x.firstOf)) (fun (u9 : Unit) t9 => bW D (va_A (MW dA h ad x) sz) (MW dA h ad x) t9) (va_A (MW dA h ad x) sz)) 0 0 (va_A (MW dA h ad x) sz) := by
  refine mkC (y := ⟨"SeriesVaultModel", "scars", "()I"⟩) (cc := prog_14_method_15_code) (maxL := 5) (av := [.ref h]) (ws := MW dA h ad x) (sz := sz) (Qc := fun A => va_Qi (fun (r9 : Int32) (u9 : Unit) => r9 = nI (cnt x.points x.firstOf)) (fun (u9 : Unit) t9 => bW D A (MW dA h ad x) t9) A) (by decide) (Nat.le_of_ble_eq_true rfl) ?_
  intro A p e s m below meth c ls hsz hB
  obtain ⟨hx, hb, hr, hml, hown, hin, hlk, hE, hK, hP, hD, hS, hA, hN, hl⟩ := hB
  have hown : s.vm.findClass "SeriesVaultModel" = some m.cls := hown
  have hl : lv_has ls 5 [(0, .ref h)] := hl
  obtain ⟨H, hH⟩ : ∃ z, z = s.heap := ⟨_, rfl⟩
  have hP : va_P D vwCl (MW dA h ad x) H := by rw [hH]; exact hP
  have hS : va_S A s.heap H [] := by rw [hH]; exact hS
  rw [← hH]
  refine lv_iconst (v := 0) hx hb d_M_scars_0 (by decide) ?_
  refine lv_istore_n hx hb d_M_scars_1 rfl hl (by decide) rfl (fun ls hl => ?_)
  have hl : lv_has ls 5 [(1, .int 0), (0, .ref h)] := hl
  refine lv_iconst (v := 0) hx hb d_M_scars_2 (by decide) ?_
  refine lv_istore_n hx hb d_M_scars_3 rfl hl (by decide) rfl (fun ls hl => ?_)
  have hl : lv_has ls 5 [(2, .int 0), (1, .int 0), (0, .ref h)] := hl
  have L4 : ∀ (k9 : Nat) (q : Nat) (n : Nat) (i1 : q ≤ x.points) (i2 : n = cnt q x.firstOf) (hk9 : x.points - q = k9), ∀ (H : Heap) (locs : List Loc) (ls : Array Slot) (hP : va_P D vwCl (MW dA h ad x) H) (hD : va_D A (MW dA h ad x)) (hS : va_S A s.heap H locs) (hl : lv_has ls 5 [(2, .int (nI q)), (1, .int (nI n)), (0, .ref h)]), W p l e ({ frames := 1, cells := 0, slots := 0, locals := 0 } : Room) s m ([.ref h] : List Value).toArray below meth c H locs 0 0 (MQ below (va_Qi (fun (r9 : Int32) (u9 : Unit) => r9 = nI (cnt x.points x.firstOf)) (fun (u9 : Unit) t9 => bW D A (MW dA h ad x) t9) A) ([.ref h] : List Value).toArray s 0 0 A) (F0 m 4 ls []) := by
    intro k9
    induction k9 using Nat.strongRecOn with
    | ind k9 ih4 =>
      intro q n i1 i2 hk9 H locs ls hP hD hS hl
      refine lv_iload_n hx hb d_M_scars_4 rfl (lv_at hl 0 rfl) ?_
      refine lv_aload_n hx hb d_M_scars_5 rfl (lv_at hl 2 rfl) ?_
      refine gF (v := .int (nI x.points)) hx hb hown hE hK hP 0 rfl rfl layM 23 (by decide) w420 rfl d_M_scars_6 ?_
      refine lv_icmp_ge hx hb d_M_scars_9 (tgt := 105) rfl (fun g1 => ?_) (fun g1 => ?_)
      · have g1 := (nI_leI (a := x.points) (b := q) (by omega) (by omega)).mp g1
        refine lv_iload_n hx hb d_M_scars_105 rfl (lv_at hl 1 rfl) ?_
        exact rfI hx hb hr hlk hS () (by rw [i2, show q = x.points by omega]) hP hD (Nat.le_of_ble_eq_true rfl) (Nat.le_of_ble_eq_true rfl) d_M_scars_106
      · have g1 := mt (nI_leI (a := x.points) (b := q) (by omega) (by omega)).mpr g1
        have J35 : ∀ (v : Bool) (j0 : x.scB q = v), ∀ (H : Heap) (locs : List Loc) (ls : Array Slot) (hP : va_P D vwCl (MW dA h ad x) H) (hD : va_D A (MW dA h ad x)) (hS : va_S A s.heap H locs) (hl : lv_has ls 5 [(2, .int (nI q)), (1, .int (nI n)), (0, .ref h)]), W p l e ({ frames := 1, cells := 0, slots := 0, locals := 0 } : Room) s m ([.ref h] : List Value).toArray below meth c H locs 0 0 (MQ below (va_Qi (fun (r9 : Int32) (u9 : Unit) => r9 = nI (cnt x.points x.firstOf)) (fun (u9 : Unit) t9 => bW D A (MW dA h ad x) t9) A) ([.ref h] : List Value).toArray s 0 0 A) (F0 m 35 ls [.int (bI v)]) := by
          intro v j0 H locs ls hP hD hS hl
          refine lv_istore_n hx hb d_M_scars_35 rfl hl (by decide) rfl (fun ls hl => ?_)
          have hl : lv_has ls 5 [(3, .int (bI v)), (2, .int (nI q)), (1, .int (nI n)), (0, .ref h)] := hl
          have J87 : ∀ (v : Bool) (j3 : x.firstOf q = v), ∀ (H : Heap) (locs : List Loc) (ls : Array Slot) (hP : va_P D vwCl (MW dA h ad x) H) (hD : va_D A (MW dA h ad x)) (hS : va_S A s.heap H locs) (hl : lv_has ls 5 [(3, .int (bI v)), (2, .int (nI q)), (1, .int (nI n)), (0, .ref h)]), W p l e ({ frames := 1, cells := 0, slots := 0, locals := 0 } : Room) s m ([.ref h] : List Value).toArray below meth c H locs 0 0 (MQ below (va_Qi (fun (r9 : Int32) (u9 : Unit) => r9 = nI (cnt x.points x.firstOf)) (fun (u9 : Unit) t9 => bW D A (MW dA h ad x) t9) A) ([.ref h] : List Value).toArray s 0 0 A) (F0 m 87 ls []) := by
            intro v j3 H locs ls hP hD hS hl
            refine lv_iload_n hx hb d_M_scars_87 rfl (lv_at hl 2 rfl) ?_
            refine lv_iload_n hx hb d_M_scars_88 rfl (lv_at hl 0 rfl) ?_
            refine lv_if_eq hx hb d_M_scars_89 (tgt := 96) rfl (fun g2 => ?_) (fun g2 => ?_)
            · have g2 := bI_0 g2
              refine lv_iconst (v := 0) hx hb d_M_scars_96 (by decide) ?_
              refine lv_iadd hx hb d_M_scars_97 (tpi (y := nI (n)) (nI_add (n) (0)) ?_)
              refine lv_istore_n hx hb d_M_scars_98 rfl hl (by decide) rfl (fun ls hl => ?_)
              have hl : lv_has ls 5 [(1, .int (nI (n))), (3, .int (bI v)), (2, .int (nI q)), (0, .ref h)] := hl
              refine lv_iinc (k := 2) (v := nI (q + 1)) hx hb d_M_scars_99 hl rfl (iincN (q) 1 1 (by decide)) (by decide) rfl (fun ls hl => ?_)
              have hl : lv_has ls 5 [(2, .int (nI (q + 1))), (1, .int (nI (n))), (3, .int (bI v)), (0, .ref h)] := hl
              refine lv_goto hx hb d_M_scars_102 (tgt := 4) rfl ?_
              exact ih4 _ (by omega) (q + 1) n (by omega) (by simp [cnt, *]) rfl H _ ls hP hD hS (lv_sub hl [0, 1, 3] rfl)
            · have g2 := bI_n0 g2
              refine lv_iconst (v := 1) hx hb d_M_scars_92 (by decide) ?_
              refine lv_goto hx hb d_M_scars_93 (tgt := 97) rfl ?_
              refine lv_iadd hx hb d_M_scars_97 (tpi (y := nI (n + 1)) (nI_add (n) (1)) ?_)
              refine lv_istore_n hx hb d_M_scars_98 rfl hl (by decide) rfl (fun ls hl => ?_)
              have hl : lv_has ls 5 [(1, .int (nI (n + 1))), (3, .int (bI v)), (2, .int (nI q)), (0, .ref h)] := hl
              refine lv_iinc (k := 2) (v := nI (q + 1)) hx hb d_M_scars_99 hl rfl (iincN (q) 1 1 (by decide)) (by decide) rfl (fun ls hl => ?_)
              have hl : lv_has ls 5 [(2, .int (nI (q + 1))), (1, .int (nI (n + 1))), (3, .int (bI v)), (0, .ref h)] := hl
              refine lv_goto hx hb d_M_scars_102 (tgt := 4) rfl ?_
              exact ih4 _ (by omega) (q + 1) (n + 1) (by omega) (by simp [cnt, *]) rfl H _ ls hP hD hS (lv_sub hl [0, 1, 3] rfl)
          refine lv_iconst (v := 0) hx hb d_M_scars_36 (by decide) ?_
          refine lv_istore hx hb d_M_scars_37 hl (by decide) rfl (fun ls hl => ?_)
          have hl : lv_has ls 5 [(4, .int 0), (3, .int (bI v)), (2, .int (nI q)), (1, .int (nI n)), (0, .ref h)] := hl
          have L39 : ∀ (k9 : Nat) (r : Nat) (v : Bool) (j1 : r ≤ q) (j2 : (x.scB q && allB r (x.scA q)) = v) (hk9 : q - r = k9), ∀ (H : Heap) (locs : List Loc) (ls : Array Slot) (hP : va_P D vwCl (MW dA h ad x) H) (hD : va_D A (MW dA h ad x)) (hS : va_S A s.heap H locs) (hl : lv_has ls 5 [(4, .int (nI r)), (3, .int (bI v)), (2, .int (nI q)), (1, .int (nI n)), (0, .ref h)]), W p l e ({ frames := 1, cells := 0, slots := 0, locals := 0 } : Room) s m ([.ref h] : List Value).toArray below meth c H locs 0 0 (MQ below (va_Qi (fun (r9 : Int32) (u9 : Unit) => r9 = nI (cnt x.points x.firstOf)) (fun (u9 : Unit) t9 => bW D A (MW dA h ad x) t9) A) ([.ref h] : List Value).toArray s 0 0 A) (F0 m 39 ls []) := by
            intro k9
            induction k9 using Nat.strongRecOn with
            | ind k9 ih39 =>
              intro r v j1 j2 hk9 H locs ls hP hD hS hl
              refine lv_iload hx hb d_M_scars_39 (lv_at hl 0 rfl) ?_
              refine lv_iload_n hx hb d_M_scars_41 rfl (lv_at hl 2 rfl) ?_
              refine lv_icmp_ge hx hb d_M_scars_42 (tgt := 87) rfl (fun g3 => ?_) (fun g3 => ?_)
              · have g3 := (nI_leI (a := q) (b := r) (by omega) (by omega)).mp g3
                exact J87 v (scE j1 j2 (by first | (exact Or.inl (by omega)) | (exact Or.inr (by assumption)))) H _ ls hP hD hS (lv_sub hl [1, 2, 3, 4] rfl)
              · have g3 := mt (nI_leI (a := q) (b := r) (by omega) (by omega)).mpr g3
                refine lv_iload_n hx hb d_M_scars_45 rfl (lv_at hl 1 rfl) ?_
                refine lv_if_eq hx hb d_M_scars_46 (tgt := 87) rfl (fun g4 => ?_) (fun g4 => ?_)
                · have g4 := bI_0 g4
                  exact J87 v (scE j1 j2 (by first | (exact Or.inl (by omega)) | (exact Or.inr (by assumption)))) H _ ls hP hD hS (lv_sub hl [1, 2, 3, 4] rfl)
                · have g4 := bI_n0 g4
                  refine lv_aload_n hx hb d_M_scars_49 rfl (lv_at hl 4 rfl) ?_
                  refine gF (v := .ref (ad 20)) hx hb hown hE hK hP 0 rfl rfl layM 20 (by decide) w506 rfl d_M_scars_50 ?_
                  refine lv_iload hx hb d_M_scars_53 (lv_at hl 0 rfl) ?_
                  refine nild (f := x.places) hx hb hK hP 9 1 rfl rfl (r) (by omega) (by decide) d_M_scars_55 ?_
                  refine lv_if_lt hx hb d_M_scars_56 (tgt := 75) rfl (fun g5 => ?_) (fun g5 => ?_)
                  · have g5 := g5
                    refine lv_iconst (v := 1) hx hb d_M_scars_75 (by decide) ?_
                    refine lv_goto hx hb d_M_scars_76 (tgt := 80) rfl ?_
                    refine lv_istore_n hx hb d_M_scars_80 rfl hl (by decide) rfl (fun ls hl => ?_)
                    have hl : lv_has ls 5 [(3, .int 1), (4, .int (nI r)), (2, .int (nI q)), (1, .int (nI n)), (0, .ref h)] := hl
                    refine lv_iinc (k := 1) (v := nI (r + 1)) hx hb d_M_scars_81 hl rfl (iincN (r) 1 1 (by decide)) (by decide) rfl (fun ls hl => ?_)
                    have hl : lv_has ls 5 [(4, .int (nI (r + 1))), (3, .int 1), (2, .int (nI q)), (1, .int (nI n)), (0, .ref h)] := hl
                    refine lv_goto hx hb d_M_scars_84 (tgt := 39) rfl ?_
                    exact ih39 _ (by omega) (r + 1) true (by omega) (by rw [show allB (r + 1) (x.scA q) = (allB r (x.scA q) && x.scA q r) from rfl, ← Bool.and_assoc, j2]; simp [MS.scA, *]) rfl H _ ls hP hD hS (lv_sub hl [0, 1, 2, 3, 4] rfl)
                  · have g5 := g5
                    refine lv_aload_n hx hb d_M_scars_59 rfl (lv_at hl 4 rfl) ?_
                    refine gF (v := .ref (ad 21)) hx hb hown hE hK hP 0 rfl rfl layM 21 (by decide) w507 rfl d_M_scars_60 ?_
                    refine lv_iload hx hb d_M_scars_63 (lv_at hl 0 rfl) ?_
                    refine nild (f := x.hidden) hx hb hK hP 10 1 rfl rfl (r) (by omega) (by decide) d_M_scars_65 ?_
                    refine lv_aload_n hx hb d_M_scars_66 rfl (lv_at hl 4 rfl) ?_
                    refine gF (v := .ref (ad 21)) hx hb hown hE hK hP 0 rfl rfl layM 21 (by decide) w507 rfl d_M_scars_67 ?_
                    refine lv_iload_n hx hb d_M_scars_70 rfl (lv_at hl 2 rfl) ?_
                    refine nild (f := x.hidden) hx hb hK hP 10 1 rfl rfl (q) (by omega) (by decide) d_M_scars_71 ?_
                    refine lv_icmp_eq hx hb d_M_scars_72 (tgt := 79) rfl (fun g6 => ?_) (fun g6 => ?_)
                    · have g6 := g6
                      refine lv_iconst (v := 0) hx hb d_M_scars_79 (by decide) ?_
                      refine lv_istore_n hx hb d_M_scars_80 rfl hl (by decide) rfl (fun ls hl => ?_)
                      have hl : lv_has ls 5 [(3, .int 0), (4, .int (nI r)), (2, .int (nI q)), (1, .int (nI n)), (0, .ref h)] := hl
                      refine lv_iinc (k := 1) (v := nI (r + 1)) hx hb d_M_scars_81 hl rfl (iincN (r) 1 1 (by decide)) (by decide) rfl (fun ls hl => ?_)
                      have hl : lv_has ls 5 [(4, .int (nI (r + 1))), (3, .int 0), (2, .int (nI q)), (1, .int (nI n)), (0, .ref h)] := hl
                      refine lv_goto hx hb d_M_scars_84 (tgt := 39) rfl ?_
                      exact ih39 _ (by omega) (r + 1) false (by omega) (by rw [show allB (r + 1) (x.scA q) = (allB r (x.scA q) && x.scA q r) from rfl, ← Bool.and_assoc, j2]; simp [MS.scA, *]) rfl H _ ls hP hD hS (lv_sub hl [0, 1, 2, 3, 4] rfl)
                    · have g6 := g6
                      refine lv_iconst (v := 1) hx hb d_M_scars_75 (by decide) ?_
                      refine lv_goto hx hb d_M_scars_76 (tgt := 80) rfl ?_
                      refine lv_istore_n hx hb d_M_scars_80 rfl hl (by decide) rfl (fun ls hl => ?_)
                      have hl : lv_has ls 5 [(3, .int 1), (4, .int (nI r)), (2, .int (nI q)), (1, .int (nI n)), (0, .ref h)] := hl
                      refine lv_iinc (k := 1) (v := nI (r + 1)) hx hb d_M_scars_81 hl rfl (iincN (r) 1 1 (by decide)) (by decide) rfl (fun ls hl => ?_)
                      have hl : lv_has ls 5 [(4, .int (nI (r + 1))), (3, .int 1), (2, .int (nI q)), (1, .int (nI n)), (0, .ref h)] := hl
                      refine lv_goto hx hb d_M_scars_84 (tgt := 39) rfl ?_
                      exact ih39 _ (by omega) (r + 1) true (by omega) (by rw [show allB (r + 1) (x.scA q) = (allB r (x.scA q) && x.scA q r) from rfl, ← Bool.and_assoc, j2]; simp [MS.scA, *]) rfl H _ ls hP hD hS (lv_sub hl [0, 1, 2, 3, 4] rfl)
          exact L39 _ 0 v (by omega) (by simp [allB, *]) rfl H _ ls hP hD hS (lv_sub hl [0, 1, 2, 3, 4] rfl)
        refine lv_aload_n hx hb d_M_scars_12 rfl (lv_at hl 2 rfl) ?_
        refine gF (v := .ref (ad 20)) hx hb hown hE hK hP 0 rfl rfl layM 20 (by decide) w506 rfl d_M_scars_13 ?_
        refine lv_iload_n hx hb d_M_scars_16 rfl (lv_at hl 0 rfl) ?_
        refine nild (f := x.places) hx hb hK hP 9 1 rfl rfl (q) (by omega) (by decide) d_M_scars_17 ?_
        refine lv_if_lt hx hb d_M_scars_18 (tgt := 34) rfl (fun g7 => ?_) (fun g7 => ?_)
        · have g7 := g7
          refine lv_iconst (v := 0) hx hb d_M_scars_34 (by decide) ?_
          exact J35 false (by simp [MS.scB, *]) H _ ls hP hD hS (lv_sub hl [0, 1, 2] rfl)
        · have g7 := g7
          refine lv_aload_n hx hb d_M_scars_21 rfl (lv_at hl 2 rfl) ?_
          refine gF (v := .ref (ad 21)) hx hb hown hE hK hP 0 rfl rfl layM 21 (by decide) w507 rfl d_M_scars_22 ?_
          refine lv_iload_n hx hb d_M_scars_25 rfl (lv_at hl 0 rfl) ?_
          refine nild (f := x.hidden) hx hb hK hP 10 1 rfl rfl (q) (by omega) (by decide) d_M_scars_26 ?_
          refine lv_if_lt hx hb d_M_scars_27 (tgt := 34) rfl (fun g8 => ?_) (fun g8 => ?_)
          · have g8 := g8
            refine lv_iconst (v := 0) hx hb d_M_scars_34 (by decide) ?_
            exact J35 false (by simp [MS.scB, *]) H _ ls hP hD hS (lv_sub hl [0, 1, 2] rfl)
          · have g8 := g8
            refine lv_iconst (v := 1) hx hb d_M_scars_30 (by decide) ?_
            refine lv_goto hx hb d_M_scars_31 (tgt := 35) rfl ?_
            exact J35 true (by simp [MS.scB, *]) H _ ls hP hD hS (lv_sub hl [0, 1, 2] rfl)
  exact L4 _ 0 0 (by omega) rfl rfl H _ ls hP hD hS (lv_sub hl [0, 1, 2] rfl)
end
section
def isWd (z : Int32) : Bool := !decide (z ≤ 32) && (!decide (127 ≤ z) && (!decide (z = 34) && (!decide (z = 61) && (!decide (z = 44) && (!decide (z = 40) && (!decide (z = 41) && (!decide (z = 123) && !decide (z = 125))))))))
/-- how many bytes of a word stand there, w at most -/
def wlen (f : Nat → Int32) (len : Nat) : Nat → Nat → Nat
  | 0, _ => 0
  | w + 1, q => if len ≤ q then 0 else if isWd (f q) then wlen f len w (q + 1) + 1 else 0
theorem wlen_le (f : Nat → Int32) (len w q : Nat) : wlen f len w q ≤ w := by
  induction w generalizing q with
  | zero => exact Nat.le_refl _
  | succ w ih =>
    unfold wlen
    split
    · omega
    · split
      · have := ih (q + 1); omega
      · omega
theorem wlen_0 {f : Nat → Int32} {len w q : Nat} (h : len ≤ q) : wlen f len w q = 0 := by
  cases w with
  | zero => rfl
  | succ w => unfold wlen; rw [if_pos h]
theorem wlen_f {f : Nat → Int32} {len w q : Nat} (h : isWd (f q) = false) : wlen f len w q = 0 := by
  cases w with
  | zero => rfl
  | succ w => unfold wlen; rw [h]; split <;> rfl
theorem wlen_t {f : Nat → Int32} {len w q : Nat} (hw : 0 < w) (h0 : ¬ len ≤ q) (h : isWd (f q) = true) : wlen f len w q = wlen f len (w - 1) (q + 1) + 1 := by
  obtain ⟨k, rfl⟩ : ∃ k, w = k + 1 := ⟨w - 1, by omega⟩
  show (if len ≤ q then 0 else if isWd (f q) = true then wlen f len k (q + 1) + 1 else 0) = _
  rw [if_neg h0, if_pos h]
  rfl
/-- two rows of bytes compared from place k on -/
def cmpG (f : Nat → Int32) (a n b m : Nat) : Nat → Nat → Int32
  | 0, _ => nI n - nI m
  | w + 1, k => if n ≤ k then nI n - nI m else if m ≤ k then nI n - nI m else if f (a + k) = f (b + k) then cmpG f a n b m w (k + 1) else f (a + k) - f (b + k)
theorem cmpG_n {f : Nat → Int32} {a n b m w k : Nat} (h : n ≤ k ∨ m ≤ k) : cmpG f a n b m w k = nI n - nI m := by
  cases w with
  | zero => rfl
  | succ w =>
    unfold cmpG
    by_cases h1 : n ≤ k
    · rw [if_pos h1]
    · rw [if_neg h1, if_pos (h.resolve_left h1)]
theorem cmpG_d {f : Nat → Int32} {a n b m w k : Nat} (hw : 0 < w) (h1 : ¬ n ≤ k) (h2 : ¬ m ≤ k) (h3 : ¬ f (a + k) = f (b + k)) : cmpG f a n b m w k = f (a + k) - f (b + k) := by
  obtain ⟨v, rfl⟩ : ∃ v, w = v + 1 := ⟨w - 1, by omega⟩
  show (if n ≤ k then _ else if m ≤ k then _ else if f (a + k) = f (b + k) then _ else _) = _
  rw [if_neg h1, if_neg h2, if_neg h3]
theorem cmpG_s {f : Nat → Int32} {a n b m w k : Nat} (hw : 0 < w) (h1 : ¬ n ≤ k) (h2 : ¬ m ≤ k) (h3 : f (a + k) = f (b + k)) : cmpG f a n b m w k = cmpG f a n b m (w - 1) (k + 1) := by
  obtain ⟨v, rfl⟩ : ∃ v, w = v + 1 := ⟨w - 1, by omega⟩
  show (if n ≤ k then _ else if m ≤ k then _ else if f (a + k) = f (b + k) then cmpG f a n b m v (k + 1) else _) = _
  rw [if_neg h1, if_neg h2, if_pos h3]
  rfl
def cmpT (f : Nat → Int32) (a n b m : Nat) : Int32 := cmpG f a n b m (n + 1) 0
def uniN (n : Nat) : Nat := 1 + (n + 31) / 32
/-- blocks of a catalog, and the room in the last one -/
def catS (tl : Nat → Nat) (n0 : Nat) : Nat → Nat × Nat
  | 0 => (n0, 126)
  | k + 1 => if (catS tl n0 k).2 < uniN (tl k) then ((catS tl n0 k).1 + 1, 126 - uniN (tl k)) else ((catS tl n0 k).1, (catS tl n0 k).2 - uniN (tl k))
def MS.catN (x : MS) : Nat := (catS x.textLengths (if 0 < x.seriesCount then 1 else 0) x.seriesCount).1
theorem catS_t {tl : Nat → Nat} {n0 k n r : Nat} (h : catS tl n0 k = (n, r)) (h2 : r < 1 + (tl k + 31) / 32) : catS tl n0 (k + 1) = (n + 1, 126 - (1 + (tl k + 31) / 32)) := by
  show (if (catS tl n0 k).2 < uniN (tl k) then _ else _) = _
  rw [h]
  exact if_pos h2
theorem catS_f {tl : Nat → Nat} {n0 k n r : Nat} (h : catS tl n0 k = (n, r)) (h2 : 1 + (tl k + 31) / 32 ≤ r) : catS tl n0 (k + 1) = (n, r - (1 + (tl k + 31) / 32)) := by
  show (if (catS tl n0 k).2 < uniN (tl k) then _ else _) = _
  rw [h]
  exact if_neg (Nat.not_lt.mpr h2)
def tbI (v : Int64) : Int32 := if v = 0 then 1 else if v < -64 ∨ 63 < v then (if v < -512 ∨ 511 < v then (if v < -4096 ∨ 4095 < v then 45 else 17) else 13) else 9
/-- places k to j moved down by one -/
def rmT {α : Type} (k : Nat) (f : Nat → α) (j : Nat) : Nat → α := fun z => if k ≤ z ∧ z < j then f (z + 1) else f z
theorem rmT_0 {α : Type} (k : Nat) (f : Nat → α) : rmT k f k = f := by
  funext z
  exact if_neg (by omega)
theorem rmT_at {α : Type} {k j q : Nat} (f : Nat → α) (h : j ≤ q) : rmT k f j q = f q := if_neg (by omega)
theorem rmT_s {α : Type} {k j : Nat} {f : Nat → α} (h : k ≤ j) {v : α} (hv : v = f (j + 1)) : rmT k f (j + 1) = va_up (rmT k f j) j v := by
  subst hv
  funext z
  show (if k ≤ z ∧ z < j + 1 then f (z + 1) else f z) = if z = j then f (j + 1) else (if k ≤ z ∧ z < j then f (z + 1) else f z)
  by_cases e : z = j
  · subst e; rw [if_pos rfl, if_pos (by omega)]
  · rw [if_neg e]
    by_cases z1 : k ≤ z ∧ z < j
    · rw [if_pos z1, if_pos (by omega)]
    · rw [if_neg z1, if_neg (by omega)]
def tbN (v : Int64) : Nat := if v = 0 then 1 else if v < -64 ∨ 63 < v then (if v < -512 ∨ 511 < v then (if v < -4096 ∨ 4095 < v then 45 else 17) else 13) else 9
theorem tbI_N (v : Int64) : tbI v = nI (tbN v) := by
  unfold tbI tbN
  (repeat' split) <;> rfl
theorem tbN_le (v : Int64) : tbN v ≤ 45 := by
  unfold tbN
  (repeat' split) <;> decide
def hiG (v : Int64) : Nat → Nat → Nat
  | 0, k => k
  | w + 1, k => if v >>> ((nI (63 - k)).toInt64 &&& 63) = 0 then hiG v w (k + 1) else k
def loG (v : Int64) : Nat → Nat → Nat
  | 0, k => k
  | w + 1, k => if v <<< ((nI (63 - k)).toInt64 &&& 63) = 0 then loG v w (k + 1) else k
/-- zero bits above, 31 at most; zero bits below -/
def hiN (v : Int64) : Nat := hiG v 31 0
def loN (v : Int64) : Nat := loG v 64 0
theorem hiG_s {v : Int64} {w k : Nat} (hw : 0 < w) (h : v >>> ((nI (63 - k)).toInt64 &&& 63) = 0) : hiG v w k = hiG v (w - 1) (k + 1) := by
  obtain ⟨j, rfl⟩ : ∃ j, w = j + 1 := ⟨w - 1, by omega⟩
  show (if _ then hiG v j (k + 1) else k) = _
  rw [if_pos h]
  rfl
theorem hiG_n {v : Int64} {w k : Nat} (h : ¬ v >>> ((nI (63 - k)).toInt64 &&& 63) = 0) : hiG v w k = k := by
  cases w with
  | zero => rfl
  | succ w => show (if _ then hiG v w (k + 1) else k) = _; rw [if_neg h]
theorem loG_s {v : Int64} {w k : Nat} (hw : 0 < w) (h : v <<< ((nI (63 - k)).toInt64 &&& 63) = 0) : loG v w k = loG v (w - 1) (k + 1) := by
  obtain ⟨j, rfl⟩ : ∃ j, w = j + 1 := ⟨w - 1, by omega⟩
  show (if _ then loG v j (k + 1) else k) = _
  rw [if_pos h]
  rfl
theorem loG_n {v : Int64} {w k : Nat} (h : ¬ v <<< ((nI (63 - k)).toInt64 &&& 63) = 0) : loG v w k = k := by
  cases w with
  | zero => rfl
  | succ w => show (if _ then loG v w (k + 1) else k) = _; rw [if_neg h]
theorem hiG_p (v : Int64) : ∀ (w k : Nat), k ≤ hiG v w k ∧ hiG v w k ≤ k + w ∧ ∀ j, k ≤ j → j < hiG v w k → v >>> ((nI (63 - j)).toInt64 &&& 63) = 0
  | 0, k => ⟨Nat.le_refl _, Nat.le_refl _, fun j h1 h2 => absurd h2 (Nat.not_lt.mpr h1)⟩
  | w + 1, k => by
    by_cases h : v >>> ((nI (63 - k)).toInt64 &&& 63) = 0
    · obtain ⟨a, b, c⟩ := hiG_p v w (k + 1)
      rw [hiG_s (Nat.succ_pos w) h]
      show k ≤ hiG v w (k + 1) ∧ hiG v w (k + 1) ≤ k + (w + 1) ∧ ∀ j, k ≤ j → j < hiG v w (k + 1) → _
      refine ⟨by omega, by omega, fun j h1 h2 => ?_⟩
      by_cases e : j = k
      · subst e; exact h
      · exact c j (by omega) h2
    · rw [hiG_n h]
      exact ⟨Nat.le_refl _, by omega, fun j h1 h2 => absurd h2 (Nat.not_lt.mpr h1)⟩
theorem loG_p (v : Int64) : ∀ (w k : Nat), k ≤ loG v w k ∧ loG v w k ≤ k + w ∧ ∀ j, k ≤ j → j < loG v w k → v <<< ((nI (63 - j)).toInt64 &&& 63) = 0
  | 0, k => ⟨Nat.le_refl _, Nat.le_refl _, fun j h1 h2 => absurd h2 (Nat.not_lt.mpr h1)⟩
  | w + 1, k => by
    by_cases h : v <<< ((nI (63 - k)).toInt64 &&& 63) = 0
    · obtain ⟨a, b, c⟩ := loG_p v w (k + 1)
      rw [loG_s (Nat.succ_pos w) h]
      show k ≤ loG v w (k + 1) ∧ loG v w (k + 1) ≤ k + (w + 1) ∧ ∀ j, k ≤ j → j < loG v w (k + 1) → _
      refine ⟨by omega, by omega, fun j h1 h2 => ?_⟩
      by_cases e : j = k
      · subst e; exact h
      · exact c j (by omega) h2
    · rw [loG_n h]
      exact ⟨Nat.le_refl _, by omega, fun j h1 h2 => absurd h2 (Nat.not_lt.mpr h1)⟩
theorem sh_amt : ∀ j, j < 64 → ((((nI j).toInt64 &&& 63).toBitVec).smod 64).toNat = j := by decide +kernel
theorem shr_bv (v : Int64) {j : Nat} (h : j < 64) : (v >>> ((nI j).toInt64 &&& 63)).toBitVec = v.toBitVec.sshiftRight j := by
  rw [Int64.toBitVec_shiftRight]
  show v.toBitVec.sshiftRight ((((nI j).toInt64 &&& 63).toBitVec).smod 64).toNat = _
  rw [sh_amt j h]
theorem shl_bv (v : Int64) {j : Nat} (h : j < 64) : (v <<< ((nI j).toInt64 &&& 63)).toBitVec = v.toBitVec <<< j := by
  rw [Int64.toBitVec_shiftLeft]
  show v.toBitVec <<< ((((nI j).toInt64 &&& 63).toBitVec).smod 64).toNat = _
  rw [sh_amt j h]
theorem dvd_aux (m a b : Nat) (h : m * 2 ^ a % 2 ^ (b + a) = 0) : 2 ^ b ∣ m := by
  have hd := Nat.dvd_of_mod_eq_zero h
  rw [Nat.pow_add] at hd
  exact Nat.dvd_of_mul_dvd_mul_right (Nat.two_pow_pos a) hd
theorem hilo {v : Int64} (hv : ¬ v = 0) : hiN v + loN v ≤ 64 := by
  obtain ⟨-, a2, a3⟩ := hiG_p v 31 0
  obtain ⟨-, b2, b3⟩ := loG_p v 64 0
  change hiN v ≤ 0 + 31 at a2
  change loN v ≤ 0 + 64 at b2
  rcases Nat.eq_zero_or_pos (hiN v) with h0 | h0
  · omega
  rcases Nat.eq_zero_or_pos (loN v) with l0 | l0
  · omega
  refine Nat.le_of_not_lt fun hlt => hv ?_
  have c1 := a3 (hiN v - 1) (Nat.zero_le _) (show hiN v - 1 < hiN v by omega)
  have c2 := b3 (loN v - 1) (Nat.zero_le _) (show loN v - 1 < loN v by omega)
  rw [show 63 - (hiN v - 1) = 64 - hiN v by omega] at c1
  rw [show 63 - (loN v - 1) = 64 - loN v by omega] at c2
  have d1 : v.toBitVec.sshiftRight (64 - hiN v) = 0#64 := by
    rw [← shr_bv v (show 64 - hiN v < 64 by omega), c1]
    rfl
  have d2 : v.toBitVec <<< (64 - loN v) = 0#64 := by
    rw [← shl_bv v (show 64 - loN v < 64 by omega), c2]
    rfl
  have e1 : v.toBitVec.toInt >>> (64 - hiN v) = 0 := by
    have := congrArg BitVec.toInt d1
    rw [BitVec.toInt_sshiftRight] at this
    exact this
  have e2 : v.toBitVec.toNat * 2 ^ (64 - loN v) % 2 ^ 64 = 0 := by
    have := congrArg BitVec.toNat d2
    rw [BitVec.toNat_shiftLeft, Nat.shiftLeft_eq] at this
    exact this
  rw [Int.shiftRight_eq_div_pow] at e1
  have p1 : (0 : Int) < (2 ^ (64 - hiN v) : Nat) := by exact_mod_cast Nat.two_pow_pos _
  have q1 : 0 ≤ v.toBitVec.toInt := by
    have := Int.emod_nonneg v.toBitVec.toInt (Int.ne_of_gt p1)
    have h2 := Int.emod_add_mul_ediv v.toBitVec.toInt ((2 ^ (64 - hiN v) : Nat) : Int)
    have e1' : v.toBitVec.toInt / ((2 ^ (64 - hiN v) : Nat) : Int) = 0 := by exact_mod_cast e1
    rw [e1', Int.mul_zero, Int.add_zero] at h2
    omega
  have q2 : v.toBitVec.toInt < ((2 ^ (64 - hiN v) : Nat) : Int) := by
    have := Int.emod_lt_of_pos v.toBitVec.toInt p1
    have h2 := Int.emod_add_mul_ediv v.toBitVec.toInt ((2 ^ (64 - hiN v) : Nat) : Int)
    have e1' : v.toBitVec.toInt / ((2 ^ (64 - hiN v) : Nat) : Int) = 0 := by exact_mod_cast e1
    rw [e1', Int.mul_zero, Int.add_zero] at h2
    omega
  have q3 : (v.toBitVec.toNat : Int) = v.toBitVec.toInt := by
    have hh := BitVec.toInt_eq_toNat_cond v.toBitVec
    have hl := v.toBitVec.isLt
    rw [hh] at q1 ⊢
    split
    · rfl
    · rename_i hc
      rw [if_neg hc] at q1
      omega
  have q4 : v.toBitVec.toNat < 2 ^ (64 - hiN v) := by
    have : (v.toBitVec.toNat : Int) < ((2 ^ (64 - hiN v) : Nat) : Int) := by rw [q3]; exact q2
    exact_mod_cast this
  have q5 : 2 ^ loN v ∣ v.toBitVec.toNat := dvd_aux _ (64 - loN v) (loN v) (by rw [show loN v + (64 - loN v) = 64 by omega]; exact e2)
  have q6 : v.toBitVec.toNat < 2 ^ loN v := Nat.lt_of_lt_of_le q4 (Nat.pow_le_pow_right (by decide) (by omega))
  have q7 : v.toBitVec.toNat = 0 := Nat.eq_zero_of_dvd_of_lt q5 q6
  apply Int64.toBitVec_inj.mp
  apply BitVec.eq_of_toNat_eq
  rw [q7]
  rfl
/-- the bits of a point behind others: the frame, its length, the sum -/
def b3 (n : Nat) (sp : Int64) (fz : Int32) (fb bt : Nat) (nx xx : Int64) : Int32 × Nat × Nat :=
  if n = 0 then (fz, fb, bt + 168) else if xx = 0 then (fz, fb, bt + tbN (if n = 1 then nx else nx - sp) + 1) else
  if fz < 0 ∨ nI (hiN xx) < fz ∨ nI (loN xx) < 64 - fz - nI fb then (nI (hiN xx), 64 - hiN xx - loN xx, bt + tbN (if n = 1 then nx else nx - sp) + (13 + (64 - hiN xx - loN xx))) else (fz, fb, bt + tbN (if n = 1 then nx else nx - sp) + (2 + fb))
section B3
variable {n fb bt hi lo : Nat} {sp nx xx v : Int64} {fz : Int32}
theorem b3_0 (hn : n = 0) : b3 n sp fz fb bt nx xx = (fz, fb, bt + 168) := if_pos hn
theorem b3_z (hn : ¬ n = 0) (hx : xx = 0) (hv : (if n = 1 then nx else nx - sp) = v) : b3 n sp fz fb bt nx xx = (fz, fb, bt + tbN v + 1) := by
  unfold b3
  rw [if_neg hn, if_pos hx, hv]
theorem b3_k (hn : ¬ n = 0) (hx : ¬ xx = 0) (hv : (if n = 1 then nx else nx - sp) = v) (hh : hiN xx = hi) (hl : loN xx = lo) (h1 : ¬ fz < 0) (h2 : ¬ nI hi < fz) (h3 : ¬ nI lo < 64 - fz - nI fb) : b3 n sp fz fb bt nx xx = (fz, fb, bt + tbN v + (2 + fb)) := by
  unfold b3
  rw [if_neg hn, if_neg hx, hv, hh, hl, if_neg (fun z => z.elim h1 (fun z => z.elim h2 h3))]
theorem b3_n (hn : ¬ n = 0) (hx : ¬ xx = 0) (hv : (if n = 1 then nx else nx - sp) = v) (hh : hiN xx = hi) (hl : loN xx = lo) (h : fz < 0 ∨ nI hi < fz ∨ nI lo < 64 - fz - nI fb) : b3 n sp fz fb bt nx xx = (nI hi, 64 - hi - lo, bt + tbN v + (13 + (64 - hi - lo))) := by
  unfold b3
  rw [if_neg hn, if_neg hx, hv, hh, hl, if_pos h]
end B3
def MS.sel (x : MS) (o1 o2 : Int32) (sn : Bool) (w q : Nat) : Bool := decide (x.pointSeries q = w) && ((decide (x.places q = o1) || decide (x.places q = o2)) && (!sn || x.seen q))
abbrev bT : Type := Nat × Int64 × Int64 × Int64 × Int32 × Nat × Nat
def bS1 (g : bT) (t v : Int64) : bT := (g.1 + 1, t, (if g.1 = 0 then 0 else t - g.2.1), v, b3 g.1 g.2.2.1 g.2.2.2.2.1 g.2.2.2.2.2.1 g.2.2.2.2.2.2 (t - g.2.1) (v ^^^ g.2.2.2.1))
/-- the bits of the chosen points of series w below place q, on top of b -/
def MS.bP (x : MS) (o1 o2 : Int32) (sn : Bool) (w b : Nat) : Nat → bT
  | 0 => (0, 0, 0, 0, (-1), 0, b)
  | q + 1 => if x.sel o1 o2 sn w q then bS1 (x.bP o1 o2 sn w b q) (x.pointTimes q) (x.pointValues q) else x.bP o1 o2 sn w b q
def MS.bA (x : MS) (o1 o2 : Int32) (sn : Bool) : Nat → Nat
  | 0 => 0
  | w + 1 => (x.bP o1 o2 sn w (x.bA o1 o2 sn w) x.points).2.2.2.2.2.2
theorem bP_f {x : MS} {o1 o2 : Int32} {sn : Bool} {w b q : Nat} {T : bT} (h : x.bP o1 o2 sn w b q = T) (hs : x.sel o1 o2 sn w q = false) : x.bP o1 o2 sn w b (q + 1) = T := by
  show (if x.sel o1 o2 sn w q then _ else _) = _
  rw [hs]
  exact h
theorem bP_t {x : MS} {o1 o2 : Int32} {sn : Bool} {w b q n fb bu fb2 bu2 : Nat} {tm sp vl sp2 : Int64} {fz fz2 : Int32} (h : x.bP o1 o2 sn w b q = (n, tm, sp, vl, fz, fb, bu)) (hs : x.sel o1 o2 sn w q = true) (hb : b3 n sp fz fb bu (x.pointTimes q - tm) (x.pointValues q ^^^ vl) = (fz2, fb2, bu2)) (hp : (if n = 0 then 0 else x.pointTimes q - tm) = sp2) :
    x.bP o1 o2 sn w b (q + 1) = (n + 1, x.pointTimes q, sp2, x.pointValues q, fz2, fb2, bu2) := by
  show (if x.sel o1 o2 sn w q then _ else _) = _
  rw [hs, if_pos rfl, h]
  show (n + 1, x.pointTimes q, (if n = 0 then 0 else x.pointTimes q - tm), x.pointValues q, b3 n sp fz fb bu (x.pointTimes q - tm) (x.pointValues q ^^^ vl)) = _
  rw [hb, hp]
theorem sel_ext {x y : MS} {o1 o2 : Int32} {sn : Bool} {w q : Nat} (h2 : x.pointSeries = y.pointSeries) (h3 : x.pointTimes = y.pointTimes) (h5 : x.places = y.places) (h6 : x.hidden = y.hidden) (h7 : x.horizon = y.horizon) : x.sel o1 o2 sn w q = y.sel o1 o2 sn w q := by
  unfold MS.sel MS.seen
  rw [h2, h3, h5, h6, h7]
theorem bP_ext {x y : MS} {o1 o2 : Int32} {sn : Bool} {w b : Nat} (h2 : x.pointSeries = y.pointSeries) (h3 : x.pointTimes = y.pointTimes) (h4 : x.pointValues = y.pointValues) (h5 : x.places = y.places) (h6 : x.hidden = y.hidden) (h7 : x.horizon = y.horizon) (q : Nat) : x.bP o1 o2 sn w b q = y.bP o1 o2 sn w b q := by
  induction q with
  | zero => rfl
  | succ q ih =>
    show (if x.sel o1 o2 sn w q then bS1 (x.bP o1 o2 sn w b q) (x.pointTimes q) (x.pointValues q) else x.bP o1 o2 sn w b q) = (if y.sel o1 o2 sn w q then bS1 (y.bP o1 o2 sn w b q) (y.pointTimes q) (y.pointValues q) else y.bP o1 o2 sn w b q)
    rw [ih, sel_ext h2 h3 h5 h6 h7, h3, h4]
theorem bA_ext {x y : MS} {o1 o2 : Int32} {sn : Bool} {w : Nat} (h1 : x.points = y.points) (h2 : x.pointSeries = y.pointSeries) (h3 : x.pointTimes = y.pointTimes) (h4 : x.pointValues = y.pointValues) (h5 : x.places = y.places) (h6 : x.hidden = y.hidden) (h7 : x.horizon = y.horizon) : x.bA o1 o2 sn w = y.bA o1 o2 sn w := by
  induction w with
  | zero => rfl
  | succ w ih =>
    show (x.bP o1 o2 sn w (x.bA o1 o2 sn w) x.points).2.2.2.2.2.2 = (y.bP o1 o2 sn w (y.bA o1 o2 sn w) y.points).2.2.2.2.2.2
    rw [ih, bP_ext h2 h3 h4 h5 h6 h7, h1]
theorem d_M_seriesFault_7 : decode prog_14_method_30_code 7 = .ok (.iconst 1, 1) := by decide +kernel
theorem d_M_seriesFault_8 : decode prog_14_method_30_code 8 = .ok (.goto 20, 3) := by decide +kernel
set_option maxHeartbeats 4000000 in
set_option maxRecDepth 100000 in
theorem k_seriesFault_1 (l : Launch) (D : va_G) (dA : Nat → ClassId) (sz : Nat) (h : Nat) (ad : Nat → Nat) (x : MS) (z : Int32) (ho : x.on = false) : Met l ⟨"SeriesVaultModel", "seriesFault", "(I)I"⟩ [Cond.code ⟨"SeriesVaultModel", "seriesFault", "(I)I"⟩ prog_14_method_30_code 2 (some FieldType.int)] { frames := 1, cells := 0, slots := 0, locals := 0 } (pC D dA [.ref h, .int z] (MW dA h ad x) sz) (va_Qi (fun (r9 : Int32) (u9 : Unit) => r9 = 1) (fun (u9 : Unit) t9 => bW D (va_A (MW dA h ad x) sz) (MW dA h ad x) t9) (va_A (MW dA h ad x) sz)) 0 0 (va_A (MW dA h ad x) sz) := by
  refine mkC (y := ⟨"SeriesVaultModel", "seriesFault", "(I)I"⟩) (cc := prog_14_method_30_code) (maxL := 2) (av := [.ref h, .int z]) (ws := MW dA h ad x) (sz := sz) (Qc := fun A => va_Qi (fun (r9 : Int32) (u9 : Unit) => r9 = 1) (fun (u9 : Unit) t9 => bW D A (MW dA h ad x) t9) A) (by decide) (Nat.le_of_ble_eq_true rfl) ?_
  intro A p e s m below meth c ls hsz hB
  obtain ⟨hx, hb, hr, hml, hown, hin, hlk, hE, hK, hP, hD, hS, hA, hN, hl⟩ := hB
  have hown : s.vm.findClass "SeriesVaultModel" = some m.cls := hown
  have hl : lv_has ls 2 [(0, .ref h), (1, .int z)] := hl
  obtain ⟨H, hH⟩ : ∃ z, z = s.heap := ⟨_, rfl⟩
  have hP : va_P D vwCl (MW dA h ad x) H := by rw [hH]; exact hP
  have hS : va_S A s.heap H [] := by rw [hH]; exact hS
  rw [← hH]
  refine lv_aload_n hx hb d_M_seriesFault_0 rfl (lv_at hl 0 rfl) ?_
  refine gF (v := .int (bI x.on)) hx hb hown hE hK hP 0 rfl rfl layM 7 (by decide) w324 rfl d_M_seriesFault_1 ?_
  refine lv_if_ne hx hb d_M_seriesFault_4 (tgt := 11) rfl (fun h9 => absurd (by rw [ho]; decide) h9) (fun _ => ?_)
  refine lv_iconst (v := 1) hx hb d_M_seriesFault_7 (by decide) ?_
  refine lv_goto hx hb d_M_seriesFault_8 (tgt := 28) rfl ?_
  exact rfI hx hb hr hlk hS () rfl hP hD (Nat.le_of_ble_eq_true rfl) (Nat.le_of_ble_eq_true rfl) d_M_seriesFault_28
set_option maxHeartbeats 4000000 in
set_option maxRecDepth 100000 in
theorem k_seriesFault_2 (l : Launch) (D : va_G) (dA : Nat → ClassId) (sz : Nat) (h : Nat) (ad : Nat → Nat) (x : MS) (z : Int32) (ho : x.on = true) (h0 : z < 0 ∨ nI x.seriesCount ≤ z) : Met l ⟨"SeriesVaultModel", "seriesFault", "(I)I"⟩ [Cond.code ⟨"SeriesVaultModel", "seriesFault", "(I)I"⟩ prog_14_method_30_code 2 (some FieldType.int)] { frames := 1, cells := 0, slots := 0, locals := 0 } (pC D dA [.ref h, .int z] (MW dA h ad x) sz) (va_Qi (fun (r9 : Int32) (u9 : Unit) => r9 = 2) (fun (u9 : Unit) t9 => bW D (va_A (MW dA h ad x) sz) (MW dA h ad x) t9) (va_A (MW dA h ad x) sz)) 0 0 (va_A (MW dA h ad x) sz) := by
  refine mkC (y := ⟨"SeriesVaultModel", "seriesFault", "(I)I"⟩) (cc := prog_14_method_30_code) (maxL := 2) (av := [.ref h, .int z]) (ws := MW dA h ad x) (sz := sz) (Qc := fun A => va_Qi (fun (r9 : Int32) (u9 : Unit) => r9 = 2) (fun (u9 : Unit) t9 => bW D A (MW dA h ad x) t9) A) (by decide) (Nat.le_of_ble_eq_true rfl) ?_
  intro A p e s m below meth c ls hsz hB
  obtain ⟨hx, hb, hr, hml, hown, hin, hlk, hE, hK, hP, hD, hS, hA, hN, hl⟩ := hB
  have hown : s.vm.findClass "SeriesVaultModel" = some m.cls := hown
  have hl : lv_has ls 2 [(0, .ref h), (1, .int z)] := hl
  obtain ⟨H, hH⟩ : ∃ z, z = s.heap := ⟨_, rfl⟩
  have hP : va_P D vwCl (MW dA h ad x) H := by rw [hH]; exact hP
  have hS : va_S A s.heap H [] := by rw [hH]; exact hS
  rw [← hH]
  refine lv_aload_n hx hb d_M_seriesFault_0 rfl (lv_at hl 0 rfl) ?_
  refine gF (v := .int (bI x.on)) hx hb hown hE hK hP 0 rfl rfl layM 7 (by decide) w324 rfl d_M_seriesFault_1 ?_
  refine lv_if_ne hx hb d_M_seriesFault_4 (tgt := 11) rfl (fun _ => ?_) (fun h9 => absurd h9 (by rw [ho]; decide))
  refine lv_iload_n hx hb d_M_seriesFault_11 rfl (lv_at hl 1 rfl) ?_
  refine lv_if_lt hx hb d_M_seriesFault_12 (tgt := 23) rfl (fun g1 => ?_) (fun g1 => ?_)
  · have g1 := g1
    refine lv_iconst (v := 2) hx hb d_M_seriesFault_23 (by decide) ?_
    refine lv_goto hx hb d_M_seriesFault_24 (tgt := 28) rfl ?_
    exact rfI hx hb hr hlk hS () rfl hP hD (Nat.le_of_ble_eq_true rfl) (Nat.le_of_ble_eq_true rfl) d_M_seriesFault_28
  · have g1 := g1
    refine lv_iload_n hx hb d_M_seriesFault_15 rfl (lv_at hl 1 rfl) ?_
    refine lv_aload_n hx hb d_M_seriesFault_16 rfl (lv_at hl 0 rfl) ?_
    refine gF (v := .int (nI x.seriesCount)) hx hb hown hE hK hP 0 rfl rfl layM 12 (by decide) w332 rfl d_M_seriesFault_17 ?_
    refine lv_icmp_lt hx hb d_M_seriesFault_20 (tgt := 27) rfl (fun h9 => absurd h9 (Int32.not_lt.mpr (h0.resolve_left g1))) (fun _ => ?_)
    refine lv_iconst (v := 2) hx hb d_M_seriesFault_23 (by decide) ?_
    refine lv_goto hx hb d_M_seriesFault_24 (tgt := 28) rfl ?_
    exact rfI hx hb hr hlk hS () rfl hP hD (Nat.le_of_ble_eq_true rfl) (Nat.le_of_ble_eq_true rfl) d_M_seriesFault_28
theorem d_M_seriesFault_27 : decode prog_14_method_30_code 27 = .ok (.iconst 0, 1) := by decide +kernel
set_option maxHeartbeats 4000000 in
set_option maxRecDepth 100000 in
theorem k_seriesFault_0 (l : Launch) (D : va_G) (dA : Nat → ClassId) (sz : Nat) (h : Nat) (ad : Nat → Nat) (x : MS) (w : Nat) (ho : x.on = true) (hw : w < x.seriesCount) (hc : x.seriesCount ≤ 256) : Met l ⟨"SeriesVaultModel", "seriesFault", "(I)I"⟩ [Cond.code ⟨"SeriesVaultModel", "seriesFault", "(I)I"⟩ prog_14_method_30_code 2 (some FieldType.int)] { frames := 1, cells := 0, slots := 0, locals := 0 } (pC D dA [.ref h, .int (nI w)] (MW dA h ad x) sz) (va_Qi (fun (r9 : Int32) (u9 : Unit) => r9 = 0) (fun (u9 : Unit) t9 => bW D (va_A (MW dA h ad x) sz) (MW dA h ad x) t9) (va_A (MW dA h ad x) sz)) 0 0 (va_A (MW dA h ad x) sz) := by
  refine mkC (y := ⟨"SeriesVaultModel", "seriesFault", "(I)I"⟩) (cc := prog_14_method_30_code) (maxL := 2) (av := [.ref h, .int (nI w)]) (ws := MW dA h ad x) (sz := sz) (Qc := fun A => va_Qi (fun (r9 : Int32) (u9 : Unit) => r9 = 0) (fun (u9 : Unit) t9 => bW D A (MW dA h ad x) t9) A) (by decide) (Nat.le_of_ble_eq_true rfl) ?_
  intro A p e s m below meth c ls hsz hB
  obtain ⟨hx, hb, hr, hml, hown, hin, hlk, hE, hK, hP, hD, hS, hA, hN, hl⟩ := hB
  have hown : s.vm.findClass "SeriesVaultModel" = some m.cls := hown
  have hl : lv_has ls 2 [(0, .ref h), (1, .int (nI w))] := hl
  obtain ⟨H, hH⟩ : ∃ z, z = s.heap := ⟨_, rfl⟩
  have hP : va_P D vwCl (MW dA h ad x) H := by rw [hH]; exact hP
  have hS : va_S A s.heap H [] := by rw [hH]; exact hS
  rw [← hH]
  refine lv_aload_n hx hb d_M_seriesFault_0 rfl (lv_at hl 0 rfl) ?_
  refine gF (v := .int (bI x.on)) hx hb hown hE hK hP 0 rfl rfl layM 7 (by decide) w324 rfl d_M_seriesFault_1 ?_
  refine lv_if_ne hx hb d_M_seriesFault_4 (tgt := 11) rfl (fun _ => ?_) (fun h9 => absurd h9 (by rw [ho]; decide))
  refine lv_iload_n hx hb d_M_seriesFault_11 rfl (lv_at hl 1 rfl) ?_
  refine lv_if_lt hx hb d_M_seriesFault_12 (tgt := 23) rfl (fun h9 => absurd h9 (nI_pos (n := w) (by omega))) (fun _ => ?_)
  refine lv_iload_n hx hb d_M_seriesFault_15 rfl (lv_at hl 1 rfl) ?_
  refine lv_aload_n hx hb d_M_seriesFault_16 rfl (lv_at hl 0 rfl) ?_
  refine gF (v := .int (nI x.seriesCount)) hx hb hown hE hK hP 0 rfl rfl layM 12 (by decide) w332 rfl d_M_seriesFault_17 ?_
  refine lv_icmp_lt hx hb d_M_seriesFault_20 (tgt := 27) rfl (fun _ => ?_) (fun h9 => absurd ((nI_ltI (a := w) (b := x.seriesCount) (by omega) (by omega)).mpr hw) h9)
  refine lv_iconst (v := 0) hx hb d_M_seriesFault_27 (by decide) ?_
  exact rfI hx hb hr hlk hS () rfl hP hD (Nat.le_of_ble_eq_true rfl) (Nat.le_of_ble_eq_true rfl) d_M_seriesFault_28
set_option maxHeartbeats 4000000 in
set_option maxRecDepth 100000 in
theorem k_letter_1 (l : Launch) (D : va_G) (dA : Nat → ClassId) (sz : Nat) (h : Nat) (ad : Nat → Nat) (x : MS) (z : Int32) (k : Int32) (ho : x.on = false) : Met l ⟨"SeriesVaultModel", "letter", "(II)I"⟩ [Cond.code ⟨"SeriesVaultModel", "letter", "(II)I"⟩ prog_14_method_31_code 3 (some FieldType.int)] { frames := 2, cells := 0, slots := 0, locals := 21 } (pC D dA [.ref h, .int z, .int k] (MW dA h ad x) sz) (va_Qi (fun (r9 : Int32) (u9 : Unit) => r9 = 0) (fun (u9 : Unit) t9 => bW D (va_A (MW dA h ad x) sz) (MW dA h ad (MS.s_cod x 1)) t9) (va_A (MW dA h ad x) sz)) 0 0 (va_A (MW dA h ad x) sz) := by
  refine mkC (y := ⟨"SeriesVaultModel", "letter", "(II)I"⟩) (cc := prog_14_method_31_code) (maxL := 3) (av := [.ref h, .int z, .int k]) (ws := MW dA h ad x) (sz := sz) (Qc := fun A => va_Qi (fun (r9 : Int32) (u9 : Unit) => r9 = 0) (fun (u9 : Unit) t9 => bW D A (MW dA h ad (MS.s_cod x 1)) t9) A) (by decide) (Nat.le_of_ble_eq_true rfl) ?_
  intro A p e s m below meth c ls hsz hB
  obtain ⟨hx, hb, hr, hml, hown, hin, hlk, hE, hK, hP, hD, hS, hA, hN, hl⟩ := hB
  have hown : s.vm.findClass "SeriesVaultModel" = some m.cls := hown
  have hl : lv_has ls 3 [(0, .ref h), (1, .int z), (2, .int k)] := hl
  obtain ⟨H, hH⟩ : ∃ z, z = s.heap := ⟨_, rfl⟩
  have hP : va_P D vwCl (MW dA h ad x) H := by rw [hH]; exact hP
  have hS : va_S A s.heap H [] := by rw [hH]; exact hS
  rw [← hH]
  refine lv_aload_n hx hb d_M_letter_0 rfl (lv_at hl 0 rfl) ?_
  refine lv_aload_n hx hb d_M_letter_1 rfl (lv_at hl 0 rfl) ?_
  refine lv_iload_n hx hb d_M_letter_2 rfl (lv_at hl 1 rfl) ?_
  refine jfI (rnV (As := [.int z]) (rest := [.ref h]) hx hb hml hown hE hK (hN _ _ hS) hP hD (k_seriesFault_1 l D dA H.size h ad x z ho) (q0 := 0) rfl rfl w334 w333 w335 w336 w328 rfl rfl ⟨⟨by decide, by decide⟩, rfl⟩ ⟨(Nat.le_of_ble_eq_true rfl), (Nat.le_of_ble_eq_true rfl)⟩ rfl hl.1 rfl (Nat.le_of_ble_eq_true rfl) d_M_letter_3 ⟨(Nat.le_of_ble_eq_true rfl), (Nat.le_of_ble_eq_true rfl)⟩) hP hD hS hA (fun r1 u2 H locs hp9 hP hD hS => ?_)
  have hP : va_P D vwCl (MW dA h ad x) H := hP
  have hD : va_D A (MW dA h ad x) := hD
  replace hp9 : 1 = r1 := Eq.symm hp9
  subst hp9
  refine pF (v := .int 1) hx hb hown hE hK hP hD hS 0 rfl rfl layM tyM tokM nmM 0 (by decide) w319 rfl rfl rfl (Nat.le_of_ble_eq_true rfl) d_M_letter_6 (fun H locs hP hD hS => ?_)
  have hP : va_P D vwCl (MW dA h ad (MS.s_cod x 1)) H := hP
  have hD : va_D A (MW dA h ad (MS.s_cod x 1)) := hD
  refine lv_aload_n hx hb d_M_letter_9 rfl (lv_at hl 0 rfl) ?_
  refine gF (v := .int 1) hx hb hown hE hK hP 0 rfl rfl layM 0 (by decide) w319 rfl d_M_letter_10 ?_
  refine lv_if_le hx hb d_M_letter_13 (tgt := 20) rfl (fun h9 => absurd h9 (by decide)) (fun _ => ?_)
  refine lv_iconst (v := 0) hx hb d_M_letter_16 (by decide) ?_
  refine lv_goto hx hb d_M_letter_17 (tgt := 50) rfl ?_
  exact rfI hx hb hr hlk hS () rfl hP hD (Nat.le_of_ble_eq_true rfl) (Nat.le_of_ble_eq_true rfl) d_M_letter_50
set_option maxHeartbeats 4000000 in
set_option maxRecDepth 100000 in
theorem k_letter_2 (l : Launch) (D : va_G) (dA : Nat → ClassId) (sz : Nat) (h : Nat) (ad : Nat → Nat) (x : MS) (z : Int32) (k : Int32) (ho : x.on = true) (h0 : z < 0 ∨ nI x.seriesCount ≤ z) : Met l ⟨"SeriesVaultModel", "letter", "(II)I"⟩ [Cond.code ⟨"SeriesVaultModel", "letter", "(II)I"⟩ prog_14_method_31_code 3 (some FieldType.int)] { frames := 2, cells := 0, slots := 0, locals := 21 } (pC D dA [.ref h, .int z, .int k] (MW dA h ad x) sz) (va_Qi (fun (r9 : Int32) (u9 : Unit) => r9 = 0) (fun (u9 : Unit) t9 => bW D (va_A (MW dA h ad x) sz) (MW dA h ad (MS.s_cod x 2)) t9) (va_A (MW dA h ad x) sz)) 0 0 (va_A (MW dA h ad x) sz) := by
  refine mkC (y := ⟨"SeriesVaultModel", "letter", "(II)I"⟩) (cc := prog_14_method_31_code) (maxL := 3) (av := [.ref h, .int z, .int k]) (ws := MW dA h ad x) (sz := sz) (Qc := fun A => va_Qi (fun (r9 : Int32) (u9 : Unit) => r9 = 0) (fun (u9 : Unit) t9 => bW D A (MW dA h ad (MS.s_cod x 2)) t9) A) (by decide) (Nat.le_of_ble_eq_true rfl) ?_
  intro A p e s m below meth c ls hsz hB
  obtain ⟨hx, hb, hr, hml, hown, hin, hlk, hE, hK, hP, hD, hS, hA, hN, hl⟩ := hB
  have hown : s.vm.findClass "SeriesVaultModel" = some m.cls := hown
  have hl : lv_has ls 3 [(0, .ref h), (1, .int z), (2, .int k)] := hl
  obtain ⟨H, hH⟩ : ∃ z, z = s.heap := ⟨_, rfl⟩
  have hP : va_P D vwCl (MW dA h ad x) H := by rw [hH]; exact hP
  have hS : va_S A s.heap H [] := by rw [hH]; exact hS
  rw [← hH]
  refine lv_aload_n hx hb d_M_letter_0 rfl (lv_at hl 0 rfl) ?_
  refine lv_aload_n hx hb d_M_letter_1 rfl (lv_at hl 0 rfl) ?_
  refine lv_iload_n hx hb d_M_letter_2 rfl (lv_at hl 1 rfl) ?_
  refine jfI (rnV (As := [.int z]) (rest := [.ref h]) hx hb hml hown hE hK (hN _ _ hS) hP hD (k_seriesFault_2 l D dA H.size h ad x z ho h0) (q0 := 0) rfl rfl w334 w333 w335 w336 w328 rfl rfl ⟨⟨by decide, by decide⟩, rfl⟩ ⟨(Nat.le_of_ble_eq_true rfl), (Nat.le_of_ble_eq_true rfl)⟩ rfl hl.1 rfl (Nat.le_of_ble_eq_true rfl) d_M_letter_3 ⟨(Nat.le_of_ble_eq_true rfl), (Nat.le_of_ble_eq_true rfl)⟩) hP hD hS hA (fun r1 u2 H locs hp9 hP hD hS => ?_)
  have hP : va_P D vwCl (MW dA h ad x) H := hP
  have hD : va_D A (MW dA h ad x) := hD
  replace hp9 : 2 = r1 := Eq.symm hp9
  subst hp9
  refine pF (v := .int 2) hx hb hown hE hK hP hD hS 0 rfl rfl layM tyM tokM nmM 0 (by decide) w319 rfl rfl rfl (Nat.le_of_ble_eq_true rfl) d_M_letter_6 (fun H locs hP hD hS => ?_)
  have hP : va_P D vwCl (MW dA h ad (MS.s_cod x 2)) H := hP
  have hD : va_D A (MW dA h ad (MS.s_cod x 2)) := hD
  refine lv_aload_n hx hb d_M_letter_9 rfl (lv_at hl 0 rfl) ?_
  refine gF (v := .int 2) hx hb hown hE hK hP 0 rfl rfl layM 0 (by decide) w319 rfl d_M_letter_10 ?_
  refine lv_if_le hx hb d_M_letter_13 (tgt := 20) rfl (fun h9 => absurd h9 (by decide)) (fun _ => ?_)
  refine lv_iconst (v := 0) hx hb d_M_letter_16 (by decide) ?_
  refine lv_goto hx hb d_M_letter_17 (tgt := 50) rfl ?_
  exact rfI hx hb hr hlk hS () rfl hP hD (Nat.le_of_ble_eq_true rfl) (Nat.le_of_ble_eq_true rfl) d_M_letter_50
set_option maxHeartbeats 4000000 in
set_option maxRecDepth 100000 in
theorem k_last_1 (l : Launch) (D : va_G) (dA : Nat → ClassId) (sz : Nat) (h : Nat) (ad : Nat → Nat) (x : MS) (z : Int32) (ho : x.on = false) : Met l ⟨"SeriesVaultModel", "last", "(I)J"⟩ [Cond.code ⟨"SeriesVaultModel", "last", "(I)J"⟩ prog_14_method_32_code 2 (some FieldType.long)] { frames := 2, cells := 0, slots := 0, locals := 21 } (pC D dA [.ref h, .int z] (MW dA h ad x) sz) (va_Ql (fun (r9 : Int64) (u9 : Unit) => r9 = 0) (fun (u9 : Unit) t9 => bW D (va_A (MW dA h ad x) sz) (MW dA h ad (MS.s_cod x 1)) t9) (va_A (MW dA h ad x) sz)) 0 0 (va_A (MW dA h ad x) sz) := by
  refine mkC (y := ⟨"SeriesVaultModel", "last", "(I)J"⟩) (cc := prog_14_method_32_code) (maxL := 2) (av := [.ref h, .int z]) (ws := MW dA h ad x) (sz := sz) (Qc := fun A => va_Ql (fun (r9 : Int64) (u9 : Unit) => r9 = 0) (fun (u9 : Unit) t9 => bW D A (MW dA h ad (MS.s_cod x 1)) t9) A) (by decide) (Nat.le_of_ble_eq_true rfl) ?_
  intro A p e s m below meth c ls hsz hB
  obtain ⟨hx, hb, hr, hml, hown, hin, hlk, hE, hK, hP, hD, hS, hA, hN, hl⟩ := hB
  have hown : s.vm.findClass "SeriesVaultModel" = some m.cls := hown
  have hl : lv_has ls 2 [(0, .ref h), (1, .int z)] := hl
  obtain ⟨H, hH⟩ : ∃ z, z = s.heap := ⟨_, rfl⟩
  have hP : va_P D vwCl (MW dA h ad x) H := by rw [hH]; exact hP
  have hS : va_S A s.heap H [] := by rw [hH]; exact hS
  rw [← hH]
  refine lv_aload_n hx hb d_M_last_0 rfl (lv_at hl 0 rfl) ?_
  refine lv_aload_n hx hb d_M_last_1 rfl (lv_at hl 0 rfl) ?_
  refine lv_iload_n hx hb d_M_last_2 rfl (lv_at hl 1 rfl) ?_
  refine jfI (rnV (As := [.int z]) (rest := [.ref h]) hx hb hml hown hE hK (hN _ _ hS) hP hD (k_seriesFault_1 l D dA H.size h ad x z ho) (q0 := 0) rfl rfl w334 w333 w335 w336 w328 rfl rfl ⟨⟨by decide, by decide⟩, rfl⟩ ⟨(Nat.le_of_ble_eq_true rfl), (Nat.le_of_ble_eq_true rfl)⟩ rfl hl.1 rfl (Nat.le_of_ble_eq_true rfl) d_M_last_3 ⟨(Nat.le_of_ble_eq_true rfl), (Nat.le_of_ble_eq_true rfl)⟩) hP hD hS hA (fun r1 u2 H locs hp9 hP hD hS => ?_)
  have hP : va_P D vwCl (MW dA h ad x) H := hP
  have hD : va_D A (MW dA h ad x) := hD
  replace hp9 : 1 = r1 := Eq.symm hp9
  subst hp9
  refine pF (v := .int 1) hx hb hown hE hK hP hD hS 0 rfl rfl layM tyM tokM nmM 0 (by decide) w319 rfl rfl rfl (Nat.le_of_ble_eq_true rfl) d_M_last_6 (fun H locs hP hD hS => ?_)
  have hP : va_P D vwCl (MW dA h ad (MS.s_cod x 1)) H := hP
  have hD : va_D A (MW dA h ad (MS.s_cod x 1)) := hD
  refine lv_aload_n hx hb d_M_last_9 rfl (lv_at hl 0 rfl) ?_
  refine gF (v := .int 1) hx hb hown hE hK hP 0 rfl rfl layM 0 (by decide) w319 rfl d_M_last_10 ?_
  refine lv_if_le hx hb d_M_last_13 (tgt := 20) rfl (fun h9 => absurd h9 (by decide)) (fun _ => ?_)
  refine lv_lconst (v := 0) hx hb d_M_last_16 (by decide) ?_
  refine lv_goto hx hb d_M_last_17 (tgt := 26) rfl ?_
  exact rfL hx hb hr hlk hS () rfl hP hD (Nat.le_of_ble_eq_true rfl) (Nat.le_of_ble_eq_true rfl) d_M_last_26
set_option maxHeartbeats 4000000 in
set_option maxRecDepth 100000 in
theorem k_last_2 (l : Launch) (D : va_G) (dA : Nat → ClassId) (sz : Nat) (h : Nat) (ad : Nat → Nat) (x : MS) (z : Int32) (ho : x.on = true) (h0 : z < 0 ∨ nI x.seriesCount ≤ z) : Met l ⟨"SeriesVaultModel", "last", "(I)J"⟩ [Cond.code ⟨"SeriesVaultModel", "last", "(I)J"⟩ prog_14_method_32_code 2 (some FieldType.long)] { frames := 2, cells := 0, slots := 0, locals := 21 } (pC D dA [.ref h, .int z] (MW dA h ad x) sz) (va_Ql (fun (r9 : Int64) (u9 : Unit) => r9 = 0) (fun (u9 : Unit) t9 => bW D (va_A (MW dA h ad x) sz) (MW dA h ad (MS.s_cod x 2)) t9) (va_A (MW dA h ad x) sz)) 0 0 (va_A (MW dA h ad x) sz) := by
  refine mkC (y := ⟨"SeriesVaultModel", "last", "(I)J"⟩) (cc := prog_14_method_32_code) (maxL := 2) (av := [.ref h, .int z]) (ws := MW dA h ad x) (sz := sz) (Qc := fun A => va_Ql (fun (r9 : Int64) (u9 : Unit) => r9 = 0) (fun (u9 : Unit) t9 => bW D A (MW dA h ad (MS.s_cod x 2)) t9) A) (by decide) (Nat.le_of_ble_eq_true rfl) ?_
  intro A p e s m below meth c ls hsz hB
  obtain ⟨hx, hb, hr, hml, hown, hin, hlk, hE, hK, hP, hD, hS, hA, hN, hl⟩ := hB
  have hown : s.vm.findClass "SeriesVaultModel" = some m.cls := hown
  have hl : lv_has ls 2 [(0, .ref h), (1, .int z)] := hl
  obtain ⟨H, hH⟩ : ∃ z, z = s.heap := ⟨_, rfl⟩
  have hP : va_P D vwCl (MW dA h ad x) H := by rw [hH]; exact hP
  have hS : va_S A s.heap H [] := by rw [hH]; exact hS
  rw [← hH]
  refine lv_aload_n hx hb d_M_last_0 rfl (lv_at hl 0 rfl) ?_
  refine lv_aload_n hx hb d_M_last_1 rfl (lv_at hl 0 rfl) ?_
  refine lv_iload_n hx hb d_M_last_2 rfl (lv_at hl 1 rfl) ?_
  refine jfI (rnV (As := [.int z]) (rest := [.ref h]) hx hb hml hown hE hK (hN _ _ hS) hP hD (k_seriesFault_2 l D dA H.size h ad x z ho h0) (q0 := 0) rfl rfl w334 w333 w335 w336 w328 rfl rfl ⟨⟨by decide, by decide⟩, rfl⟩ ⟨(Nat.le_of_ble_eq_true rfl), (Nat.le_of_ble_eq_true rfl)⟩ rfl hl.1 rfl (Nat.le_of_ble_eq_true rfl) d_M_last_3 ⟨(Nat.le_of_ble_eq_true rfl), (Nat.le_of_ble_eq_true rfl)⟩) hP hD hS hA (fun r1 u2 H locs hp9 hP hD hS => ?_)
  have hP : va_P D vwCl (MW dA h ad x) H := hP
  have hD : va_D A (MW dA h ad x) := hD
  replace hp9 : 2 = r1 := Eq.symm hp9
  subst hp9
  refine pF (v := .int 2) hx hb hown hE hK hP hD hS 0 rfl rfl layM tyM tokM nmM 0 (by decide) w319 rfl rfl rfl (Nat.le_of_ble_eq_true rfl) d_M_last_6 (fun H locs hP hD hS => ?_)
  have hP : va_P D vwCl (MW dA h ad (MS.s_cod x 2)) H := hP
  have hD : va_D A (MW dA h ad (MS.s_cod x 2)) := hD
  refine lv_aload_n hx hb d_M_last_9 rfl (lv_at hl 0 rfl) ?_
  refine gF (v := .int 2) hx hb hown hE hK hP 0 rfl rfl layM 0 (by decide) w319 rfl d_M_last_10 ?_
  refine lv_if_le hx hb d_M_last_13 (tgt := 20) rfl (fun h9 => absurd h9 (by decide)) (fun _ => ?_)
  refine lv_lconst (v := 0) hx hb d_M_last_16 (by decide) ?_
  refine lv_goto hx hb d_M_last_17 (tgt := 26) rfl ?_
  exact rfL hx hb hr hlk hS () rfl hP hD (Nat.le_of_ble_eq_true rfl) (Nat.le_of_ble_eq_true rfl) d_M_last_26
theorem d_M_last_20 : decode prog_14_method_32_code 20 = .ok (.aload_n 0, 1) := by decide +kernel
theorem d_M_last_21 : decode prog_14_method_32_code 21 = .ok (.getfield 36, 3) := by decide +kernel
theorem d_M_last_24 : decode prog_14_method_32_code 24 = .ok (.iload_n 1, 1) := by decide +kernel
theorem d_M_last_25 : decode prog_14_method_32_code 25 = .ok (.laload, 1) := by decide +kernel
set_option maxHeartbeats 4000000 in
set_option maxRecDepth 100000 in
theorem k_last_0 (l : Launch) (D : va_G) (dA : Nat → ClassId) (sz : Nat) (h : Nat) (ad : Nat → Nat) (x : MS) (w : Nat) (ho : x.on = true) (hw : w < x.seriesCount) (hc : x.seriesCount ≤ 256) : Met l ⟨"SeriesVaultModel", "last", "(I)J"⟩ [Cond.code ⟨"SeriesVaultModel", "last", "(I)J"⟩ prog_14_method_32_code 2 (some FieldType.long)] { frames := 2, cells := 0, slots := 0, locals := 21 } (pC D dA [.ref h, .int (nI w)] (MW dA h ad x) sz) (va_Ql (fun (r9 : Int64) (u9 : Unit) => r9 = x.lasts w) (fun (u9 : Unit) t9 => bW D (va_A (MW dA h ad x) sz) (MW dA h ad (MS.s_cod x 0)) t9) (va_A (MW dA h ad x) sz)) 0 0 (va_A (MW dA h ad x) sz) := by
  refine mkC (y := ⟨"SeriesVaultModel", "last", "(I)J"⟩) (cc := prog_14_method_32_code) (maxL := 2) (av := [.ref h, .int (nI w)]) (ws := MW dA h ad x) (sz := sz) (Qc := fun A => va_Ql (fun (r9 : Int64) (u9 : Unit) => r9 = x.lasts w) (fun (u9 : Unit) t9 => bW D A (MW dA h ad (MS.s_cod x 0)) t9) A) (by decide) (Nat.le_of_ble_eq_true rfl) ?_
  intro A p e s m below meth c ls hsz hB
  obtain ⟨hx, hb, hr, hml, hown, hin, hlk, hE, hK, hP, hD, hS, hA, hN, hl⟩ := hB
  have hown : s.vm.findClass "SeriesVaultModel" = some m.cls := hown
  have hl : lv_has ls 2 [(0, .ref h), (1, .int (nI w))] := hl
  obtain ⟨H, hH⟩ : ∃ z, z = s.heap := ⟨_, rfl⟩
  have hP : va_P D vwCl (MW dA h ad x) H := by rw [hH]; exact hP
  have hS : va_S A s.heap H [] := by rw [hH]; exact hS
  rw [← hH]
  refine lv_aload_n hx hb d_M_last_0 rfl (lv_at hl 0 rfl) ?_
  refine lv_aload_n hx hb d_M_last_1 rfl (lv_at hl 0 rfl) ?_
  refine lv_iload_n hx hb d_M_last_2 rfl (lv_at hl 1 rfl) ?_
  refine jfI (rnV (As := [.int (nI w)]) (rest := [.ref h]) hx hb hml hown hE hK (hN _ _ hS) hP hD (k_seriesFault_0 l D dA H.size h ad x w ho hw hc) (q0 := 0) rfl rfl w334 w333 w335 w336 w328 rfl rfl ⟨⟨by decide, by decide⟩, rfl⟩ ⟨(Nat.le_of_ble_eq_true rfl), (Nat.le_of_ble_eq_true rfl)⟩ rfl hl.1 rfl (Nat.le_of_ble_eq_true rfl) d_M_last_3 ⟨(Nat.le_of_ble_eq_true rfl), (Nat.le_of_ble_eq_true rfl)⟩) hP hD hS hA (fun r1 u2 H locs hp9 hP hD hS => ?_)
  have hP : va_P D vwCl (MW dA h ad x) H := hP
  have hD : va_D A (MW dA h ad x) := hD
  replace hp9 : 0 = r1 := Eq.symm hp9
  subst hp9
  refine pF (v := .int 0) hx hb hown hE hK hP hD hS 0 rfl rfl layM tyM tokM nmM 0 (by decide) w319 rfl rfl rfl (Nat.le_of_ble_eq_true rfl) d_M_last_6 (fun H locs hP hD hS => ?_)
  have hP : va_P D vwCl (MW dA h ad (MS.s_cod x 0)) H := hP
  have hD : va_D A (MW dA h ad (MS.s_cod x 0)) := hD
  refine lv_aload_n hx hb d_M_last_9 rfl (lv_at hl 0 rfl) ?_
  refine gF (v := .int 0) hx hb hown hE hK hP 0 rfl rfl layM 0 (by decide) w319 rfl d_M_last_10 ?_
  refine lv_if_le hx hb d_M_last_13 (tgt := 20) rfl (fun _ => ?_) (fun h9 => absurd (by decide) h9)
  refine lv_aload_n hx hb d_M_last_20 rfl (lv_at hl 0 rfl) ?_
  refine gF (v := .ref (ad 13)) hx hb hown hE hK hP 0 rfl rfl layM 13 (by decide) w501 rfl d_M_last_21 ?_
  refine lv_iload_n hx hb d_M_last_24 rfl (lv_at hl 1 rfl) ?_
  refine nlld (f := x.lasts) hx hb hK hP 4 2 rfl rfl (w) (by omega) (by decide) d_M_last_25 ?_
  exact rfL hx hb hr hlk hS () rfl hP hD (Nat.le_of_ble_eq_true rfl) (Nat.le_of_ble_eq_true rfl) d_M_last_26
theorem d_M_letter_20 : decode prog_14_method_31_code 20 = .ok (.iload_n 2, 1) := by decide +kernel
theorem d_M_letter_21 : decode prog_14_method_31_code 21 = .ok (.ifCond .lt 13, 3) := by decide +kernel
theorem d_M_letter_34 : decode prog_14_method_31_code 34 = .ok (.iconst (-1), 1) := by decide +kernel
theorem d_M_letter_35 : decode prog_14_method_31_code 35 = .ok (.goto 15, 3) := by decide +kernel
theorem d_M_letter_24 : decode prog_14_method_31_code 24 = .ok (.iload_n 2, 1) := by decide +kernel
theorem d_M_letter_25 : decode prog_14_method_31_code 25 = .ok (.aload_n 0, 1) := by decide +kernel
theorem d_M_letter_26 : decode prog_14_method_31_code 26 = .ok (.getfield 32, 3) := by decide +kernel
theorem d_M_letter_29 : decode prog_14_method_31_code 29 = .ok (.iload_n 1, 1) := by decide +kernel
theorem d_M_letter_30 : decode prog_14_method_31_code 30 = .ok (.iaload, 1) := by decide +kernel
theorem d_M_letter_31 : decode prog_14_method_31_code 31 = .ok (.if_icmp .lt 7, 3) := by decide +kernel
set_option maxHeartbeats 4000000 in
set_option maxRecDepth 100000 in
theorem k_letter_n (l : Launch) (D : va_G) (dA : Nat → ClassId) (sz : Nat) (h : Nat) (ad : Nat → Nat) (x : MS) (w : Nat) (k : Int32) (ho : x.on = true) (hw : w < x.seriesCount) (hc : x.seriesCount ≤ 256) (h0 : k < 0 ∨ nI (x.textLengths w) ≤ k) : Met l ⟨"SeriesVaultModel", "letter", "(II)I"⟩ [Cond.code ⟨"SeriesVaultModel", "letter", "(II)I"⟩ prog_14_method_31_code 3 (some FieldType.int)] { frames := 2, cells := 0, slots := 0, locals := 21 } (pC D dA [.ref h, .int (nI w), .int k] (MW dA h ad x) sz) (va_Qi (fun (r9 : Int32) (u9 : Unit) => r9 = (-1)) (fun (u9 : Unit) t9 => bW D (va_A (MW dA h ad x) sz) (MW dA h ad (MS.s_cod x 0)) t9) (va_A (MW dA h ad x) sz)) 0 0 (va_A (MW dA h ad x) sz) := by
  refine mkC (y := ⟨"SeriesVaultModel", "letter", "(II)I"⟩) (cc := prog_14_method_31_code) (maxL := 3) (av := [.ref h, .int (nI w), .int k]) (ws := MW dA h ad x) (sz := sz) (Qc := fun A => va_Qi (fun (r9 : Int32) (u9 : Unit) => r9 = (-1)) (fun (u9 : Unit) t9 => bW D A (MW dA h ad (MS.s_cod x 0)) t9) A) (by decide) (Nat.le_of_ble_eq_true rfl) ?_
  intro A p e s m below meth c ls hsz hB
  obtain ⟨hx, hb, hr, hml, hown, hin, hlk, hE, hK, hP, hD, hS, hA, hN, hl⟩ := hB
  have hown : s.vm.findClass "SeriesVaultModel" = some m.cls := hown
  have hl : lv_has ls 3 [(0, .ref h), (1, .int (nI w)), (2, .int k)] := hl
  obtain ⟨H, hH⟩ : ∃ z, z = s.heap := ⟨_, rfl⟩
  have hP : va_P D vwCl (MW dA h ad x) H := by rw [hH]; exact hP
  have hS : va_S A s.heap H [] := by rw [hH]; exact hS
  rw [← hH]
  refine lv_aload_n hx hb d_M_letter_0 rfl (lv_at hl 0 rfl) ?_
  refine lv_aload_n hx hb d_M_letter_1 rfl (lv_at hl 0 rfl) ?_
  refine lv_iload_n hx hb d_M_letter_2 rfl (lv_at hl 1 rfl) ?_
  refine jfI (rnV (As := [.int (nI w)]) (rest := [.ref h]) hx hb hml hown hE hK (hN _ _ hS) hP hD (k_seriesFault_0 l D dA H.size h ad x w ho hw hc) (q0 := 0) rfl rfl w334 w333 w335 w336 w328 rfl rfl ⟨⟨by decide, by decide⟩, rfl⟩ ⟨(Nat.le_of_ble_eq_true rfl), (Nat.le_of_ble_eq_true rfl)⟩ rfl hl.1 rfl (Nat.le_of_ble_eq_true rfl) d_M_letter_3 ⟨(Nat.le_of_ble_eq_true rfl), (Nat.le_of_ble_eq_true rfl)⟩) hP hD hS hA (fun r1 u2 H locs hp9 hP hD hS => ?_)
  have hP : va_P D vwCl (MW dA h ad x) H := hP
  have hD : va_D A (MW dA h ad x) := hD
  replace hp9 : 0 = r1 := Eq.symm hp9
  subst hp9
  refine pF (v := .int 0) hx hb hown hE hK hP hD hS 0 rfl rfl layM tyM tokM nmM 0 (by decide) w319 rfl rfl rfl (Nat.le_of_ble_eq_true rfl) d_M_letter_6 (fun H locs hP hD hS => ?_)
  have hP : va_P D vwCl (MW dA h ad (MS.s_cod x 0)) H := hP
  have hD : va_D A (MW dA h ad (MS.s_cod x 0)) := hD
  refine lv_aload_n hx hb d_M_letter_9 rfl (lv_at hl 0 rfl) ?_
  refine gF (v := .int 0) hx hb hown hE hK hP 0 rfl rfl layM 0 (by decide) w319 rfl d_M_letter_10 ?_
  refine lv_if_le hx hb d_M_letter_13 (tgt := 20) rfl (fun _ => ?_) (fun h9 => absurd (by decide) h9)
  refine lv_iload_n hx hb d_M_letter_20 rfl (lv_at hl 2 rfl) ?_
  refine lv_if_lt hx hb d_M_letter_21 (tgt := 34) rfl (fun g3 => ?_) (fun g3 => ?_)
  · have g3 := g3
    refine lv_iconst (v := (-1)) hx hb d_M_letter_34 (by decide) ?_
    refine lv_goto hx hb d_M_letter_35 (tgt := 50) rfl ?_
    exact rfI hx hb hr hlk hS () rfl hP hD (Nat.le_of_ble_eq_true rfl) (Nat.le_of_ble_eq_true rfl) d_M_letter_50
  · have g3 := g3
    refine lv_iload_n hx hb d_M_letter_24 rfl (lv_at hl 2 rfl) ?_
    refine lv_aload_n hx hb d_M_letter_25 rfl (lv_at hl 0 rfl) ?_
    refine gF (v := .ref (ad 11)) hx hb hown hE hK hP 0 rfl rfl layM 11 (by decide) w500 rfl d_M_letter_26 ?_
    refine lv_iload_n hx hb d_M_letter_29 rfl (lv_at hl 1 rfl) ?_
    refine nild (f := (fun z9 => nI (x.textLengths z9))) hx hb hK hP 3 1 rfl rfl (w) (by omega) (by decide) d_M_letter_30 ?_
    refine lv_icmp_lt hx hb d_M_letter_31 (tgt := 38) rfl (fun h9 => absurd h9 (Int32.not_lt.mpr (h0.resolve_left (by assumption)))) (fun _ => ?_)
    refine lv_iconst (v := (-1)) hx hb d_M_letter_34 (by decide) ?_
    refine lv_goto hx hb d_M_letter_35 (tgt := 50) rfl ?_
    exact rfI hx hb hr hlk hS () rfl hP hD (Nat.le_of_ble_eq_true rfl) (Nat.le_of_ble_eq_true rfl) d_M_letter_50
theorem d_M_letter_38 : decode prog_14_method_31_code 38 = .ok (.aload_n 0, 1) := by decide +kernel
theorem d_M_letter_39 : decode prog_14_method_31_code 39 = .ok (.getfield 29, 3) := by decide +kernel
theorem d_M_letter_42 : decode prog_14_method_31_code 42 = .ok (.sipush 304, 3) := by decide +kernel
theorem d_M_letter_45 : decode prog_14_method_31_code 45 = .ok (.iload_n 1, 1) := by decide +kernel
theorem d_M_letter_46 : decode prog_14_method_31_code 46 = .ok (.imul, 1) := by decide +kernel
theorem d_M_letter_47 : decode prog_14_method_31_code 47 = .ok (.iload_n 2, 1) := by decide +kernel
theorem d_M_letter_48 : decode prog_14_method_31_code 48 = .ok (.iadd, 1) := by decide +kernel
theorem d_M_letter_49 : decode prog_14_method_31_code 49 = .ok (.baload, 1) := by decide +kernel
set_option maxHeartbeats 4000000 in
set_option maxRecDepth 100000 in
theorem k_letter_0 (l : Launch) (D : va_G) (dA : Nat → ClassId) (sz : Nat) (h : Nat) (ad : Nat → Nat) (x : MS) (w : Nat) (j : Nat) (ho : x.on = true) (hw : w < x.seriesCount) (hc : x.seriesCount ≤ 256) (hj : j < x.textLengths w) (ht : x.textLengths w ≤ 304) : Met l ⟨"SeriesVaultModel", "letter", "(II)I"⟩ [Cond.code ⟨"SeriesVaultModel", "letter", "(II)I"⟩ prog_14_method_31_code 3 (some FieldType.int)] { frames := 2, cells := 0, slots := 0, locals := 21 } (pC D dA [.ref h, .int (nI w), .int (nI j)] (MW dA h ad x) sz) (va_Qi (fun (r9 : Int32) (u9 : Unit) => r9 = x.texts (304 * w + j)) (fun (u9 : Unit) t9 => bW D (va_A (MW dA h ad x) sz) (MW dA h ad (MS.s_cod x 0)) t9) (va_A (MW dA h ad x) sz)) 0 0 (va_A (MW dA h ad x) sz) := by
  refine mkC (y := ⟨"SeriesVaultModel", "letter", "(II)I"⟩) (cc := prog_14_method_31_code) (maxL := 3) (av := [.ref h, .int (nI w), .int (nI j)]) (ws := MW dA h ad x) (sz := sz) (Qc := fun A => va_Qi (fun (r9 : Int32) (u9 : Unit) => r9 = x.texts (304 * w + j)) (fun (u9 : Unit) t9 => bW D A (MW dA h ad (MS.s_cod x 0)) t9) A) (by decide) (Nat.le_of_ble_eq_true rfl) ?_
  intro A p e s m below meth c ls hsz hB
  obtain ⟨hx, hb, hr, hml, hown, hin, hlk, hE, hK, hP, hD, hS, hA, hN, hl⟩ := hB
  have hown : s.vm.findClass "SeriesVaultModel" = some m.cls := hown
  have hl : lv_has ls 3 [(0, .ref h), (1, .int (nI w)), (2, .int (nI j))] := hl
  obtain ⟨H, hH⟩ : ∃ z, z = s.heap := ⟨_, rfl⟩
  have hP : va_P D vwCl (MW dA h ad x) H := by rw [hH]; exact hP
  have hS : va_S A s.heap H [] := by rw [hH]; exact hS
  rw [← hH]
  refine lv_aload_n hx hb d_M_letter_0 rfl (lv_at hl 0 rfl) ?_
  refine lv_aload_n hx hb d_M_letter_1 rfl (lv_at hl 0 rfl) ?_
  refine lv_iload_n hx hb d_M_letter_2 rfl (lv_at hl 1 rfl) ?_
  refine jfI (rnV (As := [.int (nI w)]) (rest := [.ref h]) hx hb hml hown hE hK (hN _ _ hS) hP hD (k_seriesFault_0 l D dA H.size h ad x w ho hw hc) (q0 := 0) rfl rfl w334 w333 w335 w336 w328 rfl rfl ⟨⟨by decide, by decide⟩, rfl⟩ ⟨(Nat.le_of_ble_eq_true rfl), (Nat.le_of_ble_eq_true rfl)⟩ rfl hl.1 rfl (Nat.le_of_ble_eq_true rfl) d_M_letter_3 ⟨(Nat.le_of_ble_eq_true rfl), (Nat.le_of_ble_eq_true rfl)⟩) hP hD hS hA (fun r1 u2 H locs hp9 hP hD hS => ?_)
  have hP : va_P D vwCl (MW dA h ad x) H := hP
  have hD : va_D A (MW dA h ad x) := hD
  replace hp9 : 0 = r1 := Eq.symm hp9
  subst hp9
  refine pF (v := .int 0) hx hb hown hE hK hP hD hS 0 rfl rfl layM tyM tokM nmM 0 (by decide) w319 rfl rfl rfl (Nat.le_of_ble_eq_true rfl) d_M_letter_6 (fun H locs hP hD hS => ?_)
  have hP : va_P D vwCl (MW dA h ad (MS.s_cod x 0)) H := hP
  have hD : va_D A (MW dA h ad (MS.s_cod x 0)) := hD
  refine lv_aload_n hx hb d_M_letter_9 rfl (lv_at hl 0 rfl) ?_
  refine gF (v := .int 0) hx hb hown hE hK hP 0 rfl rfl layM 0 (by decide) w319 rfl d_M_letter_10 ?_
  refine lv_if_le hx hb d_M_letter_13 (tgt := 20) rfl (fun _ => ?_) (fun h9 => absurd (by decide) h9)
  refine lv_iload_n hx hb d_M_letter_20 rfl (lv_at hl 2 rfl) ?_
  refine lv_if_lt hx hb d_M_letter_21 (tgt := 34) rfl (fun h9 => absurd h9 (nI_pos (n := j) (by omega))) (fun _ => ?_)
  refine lv_iload_n hx hb d_M_letter_24 rfl (lv_at hl 2 rfl) ?_
  refine lv_aload_n hx hb d_M_letter_25 rfl (lv_at hl 0 rfl) ?_
  refine gF (v := .ref (ad 11)) hx hb hown hE hK hP 0 rfl rfl layM 11 (by decide) w500 rfl d_M_letter_26 ?_
  refine lv_iload_n hx hb d_M_letter_29 rfl (lv_at hl 1 rfl) ?_
  refine nild (f := (fun z9 => nI (x.textLengths z9))) hx hb hK hP 3 1 rfl rfl (w) (by omega) (by decide) d_M_letter_30 ?_
  refine lv_icmp_lt hx hb d_M_letter_31 (tgt := 38) rfl (fun _ => ?_) (fun h9 => absurd ((nI_ltI (a := j) (b := x.textLengths w) (by omega) (by omega)).mpr hj) h9)
  refine lv_aload_n hx hb d_M_letter_38 rfl (lv_at hl 0 rfl) ?_
  refine gF (v := .ref (ad 10)) hx hb hown hE hK hP 0 rfl rfl layM 10 (by decide) w499 rfl d_M_letter_39 ?_
  refine lv_sipush (v := 304) hx hb d_M_letter_42 (by decide) ?_
  refine lv_iload_n hx hb d_M_letter_45 rfl (lv_at hl 1 rfl) ?_
  refine lv_imul hx hb d_M_letter_46 (tpi (y := nI (304 * w)) (pk_mul (304) (w)) ?_)
  refine lv_iload_n hx hb d_M_letter_47 rfl (lv_at hl 2 rfl) ?_
  refine lv_iadd hx hb d_M_letter_48 (tpi (y := nI ((304 * w) + j)) (nI_add (304 * w) (j)) ?_)
  refine nbld (f := x.texts) hx hb hK hP 2 0 rfl rfl ((304 * w) + j) (by omega) (by decide) d_M_letter_49 ?_
  exact rfI hx hb hr hlk hS () rfl hP hD (Nat.le_of_ble_eq_true rfl) (Nat.le_of_ble_eq_true rfl) d_M_letter_50
theorem d_M_why_0 : decode prog_14_method_33_code 0 = .ok (.lload_n 2, 1) := by decide +kernel
theorem d_M_why_1 : decode prog_14_method_33_code 1 = .ok (.lconst 0, 1) := by decide +kernel
theorem d_M_why_2 : decode prog_14_method_33_code 2 = .ok (.lcmp, 1) := by decide +kernel
theorem d_M_why_3 : decode prog_14_method_33_code 3 = .ok (.ifCond .lt 31, 3) := by decide +kernel
theorem d_M_why_34 : decode prog_14_method_33_code 34 = .ok (.iconst 3, 1) := by decide +kernel
theorem d_M_why_35 : decode prog_14_method_33_code 35 = .ok (.goto 16, 3) := by decide +kernel
theorem d_M_why_51 : decode prog_14_method_33_code 51 = .ok (.ireturn, 1) := by decide +kernel
theorem d_M_why_6 : decode prog_14_method_33_code 6 = .ok (.lload_n 2, 1) := by decide +kernel
theorem d_M_why_7 : decode prog_14_method_33_code 7 = .ok (.ldc2_w 261, 3) := by decide +kernel
theorem d_M_why_10 : decode prog_14_method_33_code 10 = .ok (.lcmp, 1) := by decide +kernel
theorem d_M_why_11 : decode prog_14_method_33_code 11 = .ok (.ifCond .gt 23, 3) := by decide +kernel
theorem d_M_why_14 : decode prog_14_method_33_code 14 = .ok (.lload_n 2, 1) := by decide +kernel
theorem d_M_why_15 : decode prog_14_method_33_code 15 = .ok (.aload_n 0, 1) := by decide +kernel
theorem d_M_why_16 : decode prog_14_method_33_code 16 = .ok (.getfield 36, 3) := by decide +kernel
theorem d_M_why_19 : decode prog_14_method_33_code 19 = .ok (.iload_n 1, 1) := by decide +kernel
theorem d_M_why_20 : decode prog_14_method_33_code 20 = .ok (.laload, 1) := by decide +kernel
theorem d_M_why_21 : decode prog_14_method_33_code 21 = .ok (.lcmp, 1) := by decide +kernel
theorem d_M_why_22 : decode prog_14_method_33_code 22 = .ok (.ifCond .le 12, 3) := by decide +kernel
theorem d_M_why_25 : decode prog_14_method_33_code 25 = .ok (.lload_n 2, 1) := by decide +kernel
theorem d_M_why_26 : decode prog_14_method_33_code 26 = .ok (.aload_n 0, 1) := by decide +kernel
theorem d_M_why_27 : decode prog_14_method_33_code 27 = .ok (.getfield 172, 3) := by decide +kernel
theorem d_M_why_30 : decode prog_14_method_33_code 30 = .ok (.lcmp, 1) := by decide +kernel
theorem d_M_why_31 : decode prog_14_method_33_code 31 = .ok (.ifCond .ge 7, 3) := by decide +kernel
set_option maxHeartbeats 4000000 in
set_option maxRecDepth 100000 in
theorem k_why_3 (l : Launch) (D : va_G) (dA : Nat → ClassId) (sz : Nat) (h : Nat) (ad : Nat → Nat) (x : MS) (w : Nat) (a : Int64) (hw : w < 256) (h0 : a < 0 ∨ 1099511627775 < a ∨ a ≤ x.lasts w ∨ a < x.horizon) : Met l ⟨"SeriesVaultModel", "why", "(IJ)I"⟩ [Cond.code ⟨"SeriesVaultModel", "why", "(IJ)I"⟩ prog_14_method_33_code 4 (some FieldType.int)] { frames := 1, cells := 0, slots := 0, locals := 0 } (pC D dA [.ref h, .int (nI w), .long a] (MW dA h ad x) sz) (va_Qi (fun (r9 : Int32) (u9 : Unit) => r9 = 3) (fun (u9 : Unit) t9 => bW D (va_A (MW dA h ad x) sz) (MW dA h ad x) t9) (va_A (MW dA h ad x) sz)) 0 0 (va_A (MW dA h ad x) sz) := by
  refine mkC (y := ⟨"SeriesVaultModel", "why", "(IJ)I"⟩) (cc := prog_14_method_33_code) (maxL := 4) (av := [.ref h, .int (nI w), .long a]) (ws := MW dA h ad x) (sz := sz) (Qc := fun A => va_Qi (fun (r9 : Int32) (u9 : Unit) => r9 = 3) (fun (u9 : Unit) t9 => bW D A (MW dA h ad x) t9) A) (by decide) (Nat.le_of_ble_eq_true rfl) ?_
  intro A p e s m below meth c ls hsz hB
  obtain ⟨hx, hb, hr, hml, hown, hin, hlk, hE, hK, hP, hD, hS, hA, hN, hl⟩ := hB
  have hown : s.vm.findClass "SeriesVaultModel" = some m.cls := hown
  have hl : lv_has ls 4 [(0, .ref h), (1, .int (nI w)), (2, .long a)] := hl
  obtain ⟨H, hH⟩ : ∃ z, z = s.heap := ⟨_, rfl⟩
  have hP : va_P D vwCl (MW dA h ad x) H := by rw [hH]; exact hP
  have hS : va_S A s.heap H [] := by rw [hH]; exact hS
  rw [← hH]
  refine lv_lload_n hx hb d_M_why_0 rfl (lv_at hl 2 rfl) ?_
  refine lv_lconst (v := 0) hx hb d_M_why_1 (by decide) ?_
  refine W.lcmp hx hb d_M_why_2 ?_
  refine lv_if_lt hx hb d_M_why_3 (tgt := 34) rfl (fun g1 => ?_) (fun g1 => ?_)
  · have g1 := (lg_cmp_lt _ _).mp g1
    refine lv_iconst (v := 3) hx hb d_M_why_34 (by decide) ?_
    refine lv_goto hx hb d_M_why_35 (tgt := 51) rfl ?_
    exact rfI hx hb hr hlk hS () rfl hP hD (Nat.le_of_ble_eq_true rfl) (Nat.le_of_ble_eq_true rfl) d_M_why_51
  · have g1 := mt (lg_cmp_lt _ _).mpr g1
    refine lv_lload_n hx hb d_M_why_6 rfl (lv_at hl 2 rfl) ?_
    refine lv_ldc2 (v := 1099511627775) hx hb hown (hE.t w450 rfl) d_M_why_7 ?_
    refine W.lcmp hx hb d_M_why_10 ?_
    refine lv_if_gt hx hb d_M_why_11 (tgt := 34) rfl (fun g2 => ?_) (fun g2 => ?_)
    · have g2 := (lg_cmp_gt _ _).mp g2
      refine lv_iconst (v := 3) hx hb d_M_why_34 (by decide) ?_
      refine lv_goto hx hb d_M_why_35 (tgt := 51) rfl ?_
      exact rfI hx hb hr hlk hS () rfl hP hD (Nat.le_of_ble_eq_true rfl) (Nat.le_of_ble_eq_true rfl) d_M_why_51
    · have g2 := mt (lg_cmp_gt _ _).mpr g2
      refine lv_lload_n hx hb d_M_why_14 rfl (lv_at hl 2 rfl) ?_
      refine lv_aload_n hx hb d_M_why_15 rfl (lv_at hl 0 rfl) ?_
      refine gF (v := .ref (ad 13)) hx hb hown hE hK hP 0 rfl rfl layM 13 (by decide) w501 rfl d_M_why_16 ?_
      refine lv_iload_n hx hb d_M_why_19 rfl (lv_at hl 1 rfl) ?_
      refine nlld (f := x.lasts) hx hb hK hP 4 2 rfl rfl (w) (by omega) (by decide) d_M_why_20 ?_
      refine W.lcmp hx hb d_M_why_21 ?_
      refine lv_if_le hx hb d_M_why_22 (tgt := 34) rfl (fun g3 => ?_) (fun g3 => ?_)
      · have g3 := (lg_cmp_le _ _).mp g3
        refine lv_iconst (v := 3) hx hb d_M_why_34 (by decide) ?_
        refine lv_goto hx hb d_M_why_35 (tgt := 51) rfl ?_
        exact rfI hx hb hr hlk hS () rfl hP hD (Nat.le_of_ble_eq_true rfl) (Nat.le_of_ble_eq_true rfl) d_M_why_51
      · have g3 := mt (lg_cmp_le _ _).mpr g3
        refine lv_lload_n hx hb d_M_why_25 rfl (lv_at hl 2 rfl) ?_
        refine lv_aload_n hx hb d_M_why_26 rfl (lv_at hl 0 rfl) ?_
        refine gF (v := .long x.horizon) hx hb hown hE hK hP 0 rfl rfl layM 24 (by decide) w421 rfl d_M_why_27 ?_
        refine W.lcmp hx hb d_M_why_30 ?_
        refine lv_if_ge hx hb d_M_why_31 (tgt := 38) rfl (fun h9 => absurd h9 (mt (lg_cmp_ge _ _).mp (Int64.not_le.mpr (((h0.resolve_left g1).resolve_left g2).resolve_left g3)))) (fun _ => ?_)
        refine lv_iconst (v := 3) hx hb d_M_why_34 (by decide) ?_
        refine lv_goto hx hb d_M_why_35 (tgt := 51) rfl ?_
        exact rfI hx hb hr hlk hS () rfl hP hD (Nat.le_of_ble_eq_true rfl) (Nat.le_of_ble_eq_true rfl) d_M_why_51
theorem d_M_why_38 : decode prog_14_method_33_code 38 = .ok (.aload_n 0, 1) := by decide +kernel
theorem d_M_why_39 : decode prog_14_method_33_code 39 = .ok (.iconst 1, 1) := by decide +kernel
theorem d_M_why_40 : decode prog_14_method_33_code 40 = .ok (.invokevirtual 247, 3) := by decide +kernel
theorem d_M_why_43 : decode prog_14_method_33_code 43 = .ok (.ifCond .eq 7, 3) := by decide +kernel
theorem d_M_why_50 : decode prog_14_method_33_code 50 = .ok (.iconst 4, 1) := by decide +kernel
theorem w866 : Cond.methodLink "SeriesVaultModel" 247 ⟨"SeriesVaultModel", "hasRoom", "(I)Z"⟩ ∈ aW := aw_of (tb_9 (List.mem_of_getElem? (i := 226) rfl)) rfl
theorem w867 : Cond.code ⟨"SeriesVaultModel", "hasRoom", "(I)Z"⟩ prog_14_method_10_code 2 (some FieldType.boolean) ∈ aW := aw_of (tb_9 (List.mem_of_getElem? (i := 229) rfl)) rfl
theorem w868 : Cond.instanceMethod ⟨"SeriesVaultModel", "hasRoom", "(I)Z"⟩ ∈ aW := aw_of (tb_9 (List.mem_of_getElem? (i := 228) rfl)) rfl
theorem w869 : Cond.selects "SeriesVaultModel" ⟨"SeriesVaultModel", "hasRoom", "(I)Z"⟩ ⟨"SeriesVaultModel", "hasRoom", "(I)Z"⟩ ∈ aW := aw_pr (List.mem_map.mpr ⟨_, pv_5 (List.mem_of_getElem? (i := 9) rfl), rfl⟩) rfl
set_option maxHeartbeats 4000000 in
set_option maxRecDepth 100000 in
theorem k_why_4 (l : Launch) (D : va_G) (dA : Nat → ClassId) (sz : Nat) (h : Nat) (ad : Nat → Nat) (x : MS) (w : Nat) (a : Int64) (hw : w < 256) (t1 : ¬ a < 0) (t2 : ¬ 1099511627775 < a) (t3 : ¬ a ≤ x.lasts w) (t4 : x.horizon ≤ a) (u1 : x.used ≤ 126) (u2 : x.block < 2 ^ 20) (u3 : x.journal ≤ 256) (hro : x.room 1 = false) : Met l ⟨"SeriesVaultModel", "why", "(IJ)I"⟩ [Cond.code ⟨"SeriesVaultModel", "why", "(IJ)I"⟩ prog_14_method_33_code 4 (some FieldType.int)] { frames := 2, cells := 0, slots := 0, locals := 21 } (pC D dA [.ref h, .int (nI w), .long a] (MW dA h ad x) sz) (va_Qi (fun (r9 : Int32) (u9 : Unit) => r9 = 4) (fun (u9 : Unit) t9 => bW D (va_A (MW dA h ad x) sz) (MW dA h ad x) t9) (va_A (MW dA h ad x) sz)) 0 0 (va_A (MW dA h ad x) sz) := by
  refine mkC (y := ⟨"SeriesVaultModel", "why", "(IJ)I"⟩) (cc := prog_14_method_33_code) (maxL := 4) (av := [.ref h, .int (nI w), .long a]) (ws := MW dA h ad x) (sz := sz) (Qc := fun A => va_Qi (fun (r9 : Int32) (u9 : Unit) => r9 = 4) (fun (u9 : Unit) t9 => bW D A (MW dA h ad x) t9) A) (by decide) (Nat.le_of_ble_eq_true rfl) ?_
  intro A p e s m below meth c ls hsz hB
  obtain ⟨hx, hb, hr, hml, hown, hin, hlk, hE, hK, hP, hD, hS, hA, hN, hl⟩ := hB
  have hown : s.vm.findClass "SeriesVaultModel" = some m.cls := hown
  have hl : lv_has ls 4 [(0, .ref h), (1, .int (nI w)), (2, .long a)] := hl
  obtain ⟨H, hH⟩ : ∃ z, z = s.heap := ⟨_, rfl⟩
  have hP : va_P D vwCl (MW dA h ad x) H := by rw [hH]; exact hP
  have hS : va_S A s.heap H [] := by rw [hH]; exact hS
  rw [← hH]
  refine lv_lload_n hx hb d_M_why_0 rfl (lv_at hl 2 rfl) ?_
  refine lv_lconst (v := 0) hx hb d_M_why_1 (by decide) ?_
  refine W.lcmp hx hb d_M_why_2 ?_
  refine lv_if_lt hx hb d_M_why_3 (tgt := 34) rfl (fun h9 => absurd h9 (mt (lg_cmp_lt _ _).mp t1)) (fun _ => ?_)
  refine lv_lload_n hx hb d_M_why_6 rfl (lv_at hl 2 rfl) ?_
  refine lv_ldc2 (v := 1099511627775) hx hb hown (hE.t w450 rfl) d_M_why_7 ?_
  refine W.lcmp hx hb d_M_why_10 ?_
  refine lv_if_gt hx hb d_M_why_11 (tgt := 34) rfl (fun h9 => absurd h9 (mt (lg_cmp_gt _ _).mp t2)) (fun _ => ?_)
  refine lv_lload_n hx hb d_M_why_14 rfl (lv_at hl 2 rfl) ?_
  refine lv_aload_n hx hb d_M_why_15 rfl (lv_at hl 0 rfl) ?_
  refine gF (v := .ref (ad 13)) hx hb hown hE hK hP 0 rfl rfl layM 13 (by decide) w501 rfl d_M_why_16 ?_
  refine lv_iload_n hx hb d_M_why_19 rfl (lv_at hl 1 rfl) ?_
  refine nlld (f := x.lasts) hx hb hK hP 4 2 rfl rfl (w) (by omega) (by decide) d_M_why_20 ?_
  refine W.lcmp hx hb d_M_why_21 ?_
  refine lv_if_le hx hb d_M_why_22 (tgt := 34) rfl (fun h9 => absurd h9 (mt (lg_cmp_le _ _).mp t3)) (fun _ => ?_)
  refine lv_lload_n hx hb d_M_why_25 rfl (lv_at hl 2 rfl) ?_
  refine lv_aload_n hx hb d_M_why_26 rfl (lv_at hl 0 rfl) ?_
  refine gF (v := .long x.horizon) hx hb hown hE hK hP 0 rfl rfl layM 24 (by decide) w421 rfl d_M_why_27 ?_
  refine W.lcmp hx hb d_M_why_30 ?_
  refine lv_if_ge hx hb d_M_why_31 (tgt := 38) rfl (fun _ => ?_) (fun h9 => absurd ((lg_cmp_ge _ _).mpr t4) h9)
  refine lv_aload_n hx hb d_M_why_38 rfl (lv_at hl 0 rfl) ?_
  refine lv_iconst (v := 1) hx hb d_M_why_39 (by decide) ?_
  refine jfI (rnV (As := [.int 1]) (rest := []) hx hb hml hown hE hK (hN _ _ hS) hP hD (k_hasRoom l D dA H.size h ad x 1 (show x.used + 1 < 2 ^ 31 from by omega) (show x.block + 1 < 2 ^ 31 from by omega) (show x.journal < 2 ^ 31 from by omega)) (q0 := 0) rfl rfl w867 w866 w868 w869 w328 rfl rfl ⟨⟨by decide, by decide⟩, rfl⟩ ⟨(Nat.le_of_ble_eq_true rfl), (Nat.le_of_ble_eq_true rfl)⟩ rfl hl.1 rfl (Nat.le_of_ble_eq_true rfl) d_M_why_40 ⟨(Nat.le_of_ble_eq_true rfl), (Nat.le_of_ble_eq_true rfl)⟩) hP hD hS hA (fun r1 u2 H locs hp9 hP hD hS => ?_)
  have hP : va_P D vwCl (MW dA h ad x) H := hP
  have hD : va_D A (MW dA h ad x) := hD
  replace hp9 : bI (x.room 1) = r1 := Eq.symm hp9
  subst hp9
  refine lv_if_eq hx hb d_M_why_43 (tgt := 50) rfl (fun _ => ?_) (fun h9 => absurd (by rw [hro]; decide) h9)
  refine lv_iconst (v := 4) hx hb d_M_why_50 (by decide) ?_
  exact rfI hx hb hr hlk hS () rfl hP hD (Nat.le_of_ble_eq_true rfl) (Nat.le_of_ble_eq_true rfl) d_M_why_51
theorem d_M_why_46 : decode prog_14_method_33_code 46 = .ok (.iconst 0, 1) := by decide +kernel
theorem d_M_why_47 : decode prog_14_method_33_code 47 = .ok (.goto 4, 3) := by decide +kernel
set_option maxHeartbeats 4000000 in
set_option maxRecDepth 100000 in
theorem k_why_0 (l : Launch) (D : va_G) (dA : Nat → ClassId) (sz : Nat) (h : Nat) (ad : Nat → Nat) (x : MS) (w : Nat) (a : Int64) (hw : w < 256) (t1 : ¬ a < 0) (t2 : ¬ 1099511627775 < a) (t3 : ¬ a ≤ x.lasts w) (t4 : x.horizon ≤ a) (u1 : x.used ≤ 126) (u2 : x.block < 2 ^ 20) (u3 : x.journal ≤ 256) (hro : x.room 1 = true) : Met l ⟨"SeriesVaultModel", "why", "(IJ)I"⟩ [Cond.code ⟨"SeriesVaultModel", "why", "(IJ)I"⟩ prog_14_method_33_code 4 (some FieldType.int)] { frames := 2, cells := 0, slots := 0, locals := 21 } (pC D dA [.ref h, .int (nI w), .long a] (MW dA h ad x) sz) (va_Qi (fun (r9 : Int32) (u9 : Unit) => r9 = 0) (fun (u9 : Unit) t9 => bW D (va_A (MW dA h ad x) sz) (MW dA h ad x) t9) (va_A (MW dA h ad x) sz)) 0 0 (va_A (MW dA h ad x) sz) := by
  refine mkC (y := ⟨"SeriesVaultModel", "why", "(IJ)I"⟩) (cc := prog_14_method_33_code) (maxL := 4) (av := [.ref h, .int (nI w), .long a]) (ws := MW dA h ad x) (sz := sz) (Qc := fun A => va_Qi (fun (r9 : Int32) (u9 : Unit) => r9 = 0) (fun (u9 : Unit) t9 => bW D A (MW dA h ad x) t9) A) (by decide) (Nat.le_of_ble_eq_true rfl) ?_
  intro A p e s m below meth c ls hsz hB
  obtain ⟨hx, hb, hr, hml, hown, hin, hlk, hE, hK, hP, hD, hS, hA, hN, hl⟩ := hB
  have hown : s.vm.findClass "SeriesVaultModel" = some m.cls := hown
  have hl : lv_has ls 4 [(0, .ref h), (1, .int (nI w)), (2, .long a)] := hl
  obtain ⟨H, hH⟩ : ∃ z, z = s.heap := ⟨_, rfl⟩
  have hP : va_P D vwCl (MW dA h ad x) H := by rw [hH]; exact hP
  have hS : va_S A s.heap H [] := by rw [hH]; exact hS
  rw [← hH]
  refine lv_lload_n hx hb d_M_why_0 rfl (lv_at hl 2 rfl) ?_
  refine lv_lconst (v := 0) hx hb d_M_why_1 (by decide) ?_
  refine W.lcmp hx hb d_M_why_2 ?_
  refine lv_if_lt hx hb d_M_why_3 (tgt := 34) rfl (fun h9 => absurd h9 (mt (lg_cmp_lt _ _).mp t1)) (fun _ => ?_)
  refine lv_lload_n hx hb d_M_why_6 rfl (lv_at hl 2 rfl) ?_
  refine lv_ldc2 (v := 1099511627775) hx hb hown (hE.t w450 rfl) d_M_why_7 ?_
  refine W.lcmp hx hb d_M_why_10 ?_
  refine lv_if_gt hx hb d_M_why_11 (tgt := 34) rfl (fun h9 => absurd h9 (mt (lg_cmp_gt _ _).mp t2)) (fun _ => ?_)
  refine lv_lload_n hx hb d_M_why_14 rfl (lv_at hl 2 rfl) ?_
  refine lv_aload_n hx hb d_M_why_15 rfl (lv_at hl 0 rfl) ?_
  refine gF (v := .ref (ad 13)) hx hb hown hE hK hP 0 rfl rfl layM 13 (by decide) w501 rfl d_M_why_16 ?_
  refine lv_iload_n hx hb d_M_why_19 rfl (lv_at hl 1 rfl) ?_
  refine nlld (f := x.lasts) hx hb hK hP 4 2 rfl rfl (w) (by omega) (by decide) d_M_why_20 ?_
  refine W.lcmp hx hb d_M_why_21 ?_
  refine lv_if_le hx hb d_M_why_22 (tgt := 34) rfl (fun h9 => absurd h9 (mt (lg_cmp_le _ _).mp t3)) (fun _ => ?_)
  refine lv_lload_n hx hb d_M_why_25 rfl (lv_at hl 2 rfl) ?_
  refine lv_aload_n hx hb d_M_why_26 rfl (lv_at hl 0 rfl) ?_
  refine gF (v := .long x.horizon) hx hb hown hE hK hP 0 rfl rfl layM 24 (by decide) w421 rfl d_M_why_27 ?_
  refine W.lcmp hx hb d_M_why_30 ?_
  refine lv_if_ge hx hb d_M_why_31 (tgt := 38) rfl (fun _ => ?_) (fun h9 => absurd ((lg_cmp_ge _ _).mpr t4) h9)
  refine lv_aload_n hx hb d_M_why_38 rfl (lv_at hl 0 rfl) ?_
  refine lv_iconst (v := 1) hx hb d_M_why_39 (by decide) ?_
  refine jfI (rnV (As := [.int 1]) (rest := []) hx hb hml hown hE hK (hN _ _ hS) hP hD (k_hasRoom l D dA H.size h ad x 1 (show x.used + 1 < 2 ^ 31 from by omega) (show x.block + 1 < 2 ^ 31 from by omega) (show x.journal < 2 ^ 31 from by omega)) (q0 := 0) rfl rfl w867 w866 w868 w869 w328 rfl rfl ⟨⟨by decide, by decide⟩, rfl⟩ ⟨(Nat.le_of_ble_eq_true rfl), (Nat.le_of_ble_eq_true rfl)⟩ rfl hl.1 rfl (Nat.le_of_ble_eq_true rfl) d_M_why_40 ⟨(Nat.le_of_ble_eq_true rfl), (Nat.le_of_ble_eq_true rfl)⟩) hP hD hS hA (fun r1 u2 H locs hp9 hP hD hS => ?_)
  have hP : va_P D vwCl (MW dA h ad x) H := hP
  have hD : va_D A (MW dA h ad x) := hD
  replace hp9 : bI (x.room 1) = r1 := Eq.symm hp9
  subst hp9
  refine lv_if_eq hx hb d_M_why_43 (tgt := 50) rfl (fun h9 => absurd h9 (by rw [hro]; decide)) (fun _ => ?_)
  refine lv_iconst (v := 0) hx hb d_M_why_46 (by decide) ?_
  refine lv_goto hx hb d_M_why_47 (tgt := 51) rfl ?_
  exact rfI hx hb hr hlk hS () rfl hP hD (Nat.le_of_ble_eq_true rfl) (Nat.le_of_ble_eq_true rfl) d_M_why_51
theorem d_M_number_7b5_0 : decode prog_14_method_35_code 0 = .ok (.lconst 0, 1) := by decide +kernel
theorem d_M_number_7b5_1 : decode prog_14_method_35_code 1 = .ok (.lstore_n 2, 1) := by decide +kernel
theorem d_M_number_7b5_2 : decode prog_14_method_35_code 2 = .ok (.iconst 0, 1) := by decide +kernel
theorem d_M_number_7b5_3 : decode prog_14_method_35_code 3 = .ok (.istore 4, 2) := by decide +kernel
theorem d_M_number_7b5_5 : decode prog_14_method_35_code 5 = .ok (.iload 4, 2) := by decide +kernel
theorem d_M_number_7b5_7 : decode prog_14_method_35_code 7 = .ok (.bipush 8, 2) := by decide +kernel
theorem d_M_number_7b5_9 : decode prog_14_method_35_code 9 = .ok (.if_icmp .ge 29, 3) := by decide +kernel
theorem d_M_number_7b5_38 : decode prog_14_method_35_code 38 = .ok (.lload_n 2, 1) := by decide +kernel
theorem d_M_number_7b5_39 : decode prog_14_method_35_code 39 = .ok (.lreturn, 1) := by decide +kernel
theorem d_M_number_7b5_12 : decode prog_14_method_35_code 12 = .ok (.lload_n 2, 1) := by decide +kernel
theorem d_M_number_7b5_13 : decode prog_14_method_35_code 13 = .ok (.bipush 8, 2) := by decide +kernel
theorem d_M_number_7b5_15 : decode prog_14_method_35_code 15 = .ok (.lshl, 1) := by decide +kernel
theorem d_M_number_7b5_16 : decode prog_14_method_35_code 16 = .ok (.aload_n 0, 1) := by decide +kernel
theorem d_M_number_7b5_17 : decode prog_14_method_35_code 17 = .ok (.getfield 8, 3) := by decide +kernel
theorem d_M_number_7b5_20 : decode prog_14_method_35_code 20 = .ok (.iload_n 1, 1) := by decide +kernel
theorem d_M_number_7b5_21 : decode prog_14_method_35_code 21 = .ok (.iload 4, 2) := by decide +kernel
theorem d_M_number_7b5_23 : decode prog_14_method_35_code 23 = .ok (.iadd, 1) := by decide +kernel
theorem d_M_number_7b5_24 : decode prog_14_method_35_code 24 = .ok (.baload, 1) := by decide +kernel
theorem d_M_number_7b5_25 : decode prog_14_method_35_code 25 = .ok (.sipush 255, 3) := by decide +kernel
theorem d_M_number_7b5_28 : decode prog_14_method_35_code 28 = .ok (.iand, 1) := by decide +kernel
theorem d_M_number_7b5_29 : decode prog_14_method_35_code 29 = .ok (.i2l, 1) := by decide +kernel
theorem d_M_number_7b5_30 : decode prog_14_method_35_code 30 = .ok (.lor, 1) := by decide +kernel
theorem d_M_number_7b5_31 : decode prog_14_method_35_code 31 = .ok (.lstore_n 2, 1) := by decide +kernel
theorem d_M_number_7b5_32 : decode prog_14_method_35_code 32 = .ok (.iinc 4 1, 3) := by decide +kernel
theorem d_M_number_7b5_35 : decode prog_14_method_35_code 35 = .ok (.goto (-30), 3) := by decide +kernel
set_option maxHeartbeats 4000000 in
set_option maxRecDepth 100000 in
theorem k_number (l : Launch) (D : va_G) (dA : Nat → ClassId) (sz : Nat) (h : Nat) (ad : Nat → Nat) (x : MS) (q : Nat) (hq : q + 8 ≤ 65536) : Met l ⟨"SeriesVaultModel", "number", "(I)J"⟩ [Cond.code ⟨"SeriesVaultModel", "number", "(I)J"⟩ prog_14_method_35_code 5 (some FieldType.long)] { frames := 1, cells := 0, slots := 0, locals := 0 } (pC D dA [.ref h, .int (nI q)] (MW dA h ad x) sz) (va_Ql (fun (r9 : Int64) (u9 : Unit) => r9 = numB x.tape q 8) (fun (u9 : Unit) t9 => bW D (va_A (MW dA h ad x) sz) (MW dA h ad x) t9) (va_A (MW dA h ad x) sz)) 0 0 (va_A (MW dA h ad x) sz) := by
  refine mkC (y := ⟨"SeriesVaultModel", "number", "(I)J"⟩) (cc := prog_14_method_35_code) (maxL := 5) (av := [.ref h, .int (nI q)]) (ws := MW dA h ad x) (sz := sz) (Qc := fun A => va_Ql (fun (r9 : Int64) (u9 : Unit) => r9 = numB x.tape q 8) (fun (u9 : Unit) t9 => bW D A (MW dA h ad x) t9) A) (by decide) (Nat.le_of_ble_eq_true rfl) ?_
  intro A p e s m below meth c ls hsz hB
  obtain ⟨hx, hb, hr, hml, hown, hin, hlk, hE, hK, hP, hD, hS, hA, hN, hl⟩ := hB
  have hown : s.vm.findClass "SeriesVaultModel" = some m.cls := hown
  have hl : lv_has ls 5 [(0, .ref h), (1, .int (nI q))] := hl
  obtain ⟨H, hH⟩ : ∃ z, z = s.heap := ⟨_, rfl⟩
  have hP : va_P D vwCl (MW dA h ad x) H := by rw [hH]; exact hP
  have hS : va_S A s.heap H [] := by rw [hH]; exact hS
  rw [← hH]
  refine lv_lconst (v := 0) hx hb d_M_number_7b5_0 (by decide) ?_
  refine lv_lstore_n hx hb d_M_number_7b5_1 rfl hl (by decide) rfl (fun ls hl => ?_)
  have hl : lv_has ls 5 [(2, .long 0), (0, .ref h), (1, .int (nI q))] := hl
  refine lv_iconst (v := 0) hx hb d_M_number_7b5_2 (by decide) ?_
  refine lv_istore hx hb d_M_number_7b5_3 hl (by decide) rfl (fun ls hl => ?_)
  have hl : lv_has ls 5 [(4, .int 0), (2, .long 0), (0, .ref h), (1, .int (nI q))] := hl
  have L5 : ∀ (k9 : Nat) (k : Nat) (i1 : k ≤ 8) (hk9 : 8 - k = k9), ∀ (H : Heap) (locs : List Loc) (ls : Array Slot) (hP : va_P D vwCl (MW dA h ad x) H) (hD : va_D A (MW dA h ad x)) (hS : va_S A s.heap H locs) (hl : lv_has ls 5 [(4, .int (nI k)), (2, .long (numB x.tape q k)), (1, .int (nI q)), (0, .ref h)]), W p l e ({ frames := 1, cells := 0, slots := 0, locals := 0 } : Room) s m ([.ref h, .int (nI q)] : List Value).toArray below meth c H locs 0 0 (MQ below (va_Ql (fun (r9 : Int64) (u9 : Unit) => r9 = numB x.tape q 8) (fun (u9 : Unit) t9 => bW D A (MW dA h ad x) t9) A) ([.ref h, .int (nI q)] : List Value).toArray s 0 0 A) (F0 m 5 ls []) := by
    intro k9
    induction k9 using Nat.strongRecOn with
    | ind k9 ih5 =>
      intro k i1 hk9 H locs ls hP hD hS hl
      refine lv_iload hx hb d_M_number_7b5_5 (lv_at hl 0 rfl) ?_
      refine lv_bipush (v := 8) hx hb d_M_number_7b5_7 (by decide) ?_
      refine lv_icmp_ge hx hb d_M_number_7b5_9 (tgt := 38) rfl (fun g1 => ?_) (fun g1 => ?_)
      · have g1 := (nI_leI (a := 8) (b := k) (by omega) (by omega)).mp g1
        refine lv_lload_n hx hb d_M_number_7b5_38 rfl (lv_at hl 1 rfl) ?_
        exact rfL hx hb hr hlk hS () (by rw [show k = 8 by omega]) hP hD (Nat.le_of_ble_eq_true rfl) (Nat.le_of_ble_eq_true rfl) d_M_number_7b5_39
      · have g1 := mt (nI_leI (a := 8) (b := k) (by omega) (by omega)).mpr g1
        refine lv_lload_n hx hb d_M_number_7b5_12 rfl (lv_at hl 1 rfl) ?_
        refine lv_bipush (v := 8) hx hb d_M_number_7b5_13 (by decide) ?_
        refine lv_lshl hx hb d_M_number_7b5_15 rfl ?_
        refine lv_aload_n hx hb d_M_number_7b5_16 rfl (lv_at hl 3 rfl) ?_
        refine gF (v := .ref (ad 1)) hx hb hown hE hK hP 0 rfl rfl layM 1 (by decide) w497 rfl d_M_number_7b5_17 ?_
        refine lv_iload_n hx hb d_M_number_7b5_20 rfl (lv_at hl 2 rfl) ?_
        refine lv_iload hx hb d_M_number_7b5_21 (lv_at hl 0 rfl) ?_
        refine lv_iadd hx hb d_M_number_7b5_23 (tpi (y := nI (q + k)) (nI_add (q) (k)) ?_)
        refine nbld (f := x.tape) hx hb hK hP 1 0 rfl rfl (q + k) (by omega) (by decide) d_M_number_7b5_24 ?_
        refine lv_sipush (v := 255) hx hb d_M_number_7b5_25 (by decide) ?_
        refine lv_iand hx hb d_M_number_7b5_28 ?_
        refine lv_i2l hx hb d_M_number_7b5_29 rfl ?_
        refine lv_lor hx hb d_M_number_7b5_30 ?_
        refine lv_lstore_n hx hb d_M_number_7b5_31 rfl hl (by decide) rfl (fun ls hl => ?_)
        have hl : lv_has ls 5 [(2, .long (((numB x.tape q k) <<< ((8 : Int32).toInt64 &&& 63)) ||| (((x.tape (q + k)) &&& 255).toInt64))), (4, .int (nI k)), (1, .int (nI q)), (0, .ref h)] := hl
        refine lv_iinc (k := 1) (v := nI (k + 1)) hx hb d_M_number_7b5_32 hl rfl (iincN (k) 1 1 (by decide)) (by decide) rfl (fun ls hl => ?_)
        have hl : lv_has ls 5 [(4, .int (nI (k + 1))), (2, .long (((numB x.tape q k) <<< ((8 : Int32).toInt64 &&& 63)) ||| (((x.tape (q + k)) &&& 255).toInt64))), (1, .int (nI q)), (0, .ref h)] := hl
        refine lv_goto hx hb d_M_number_7b5_35 (tgt := 5) rfl ?_
        exact ih5 _ (by omega) (k + 1) (by omega) rfl H _ ls hP hD hS (lv_sub hl [0, 1, 2, 3] rfl)
  exact L5 _ 0 (by omega) rfl H _ ls hP hD hS (lv_sub hl [0, 1, 3, 2] rfl)
theorem d_M_unitsOf_0 : decode prog_14_method_27_code 0 = .ok (.iconst 1, 1) := by decide +kernel
theorem d_M_unitsOf_1 : decode prog_14_method_27_code 1 = .ok (.iload_n 0, 1) := by decide +kernel
theorem d_M_unitsOf_2 : decode prog_14_method_27_code 2 = .ok (.bipush 31, 2) := by decide +kernel
theorem d_M_unitsOf_4 : decode prog_14_method_27_code 4 = .ok (.iadd, 1) := by decide +kernel
theorem d_M_unitsOf_5 : decode prog_14_method_27_code 5 = .ok (.bipush 32, 2) := by decide +kernel
theorem d_M_unitsOf_7 : decode prog_14_method_27_code 7 = .ok (.idiv, 1) := by decide +kernel
theorem d_M_unitsOf_8 : decode prog_14_method_27_code 8 = .ok (.iadd, 1) := by decide +kernel
theorem d_M_unitsOf_9 : decode prog_14_method_27_code 9 = .ok (.ireturn, 1) := by decide +kernel
set_option maxHeartbeats 4000000 in
set_option maxRecDepth 100000 in
theorem k_unitsOf (l : Launch) (D : va_G) (dA : Nat → ClassId) (sz : Nat) (n : Nat) (hn : n ≤ 65536) : Met l ⟨"SeriesVaultModel", "unitsOf", "(I)I"⟩ [Cond.code ⟨"SeriesVaultModel", "unitsOf", "(I)I"⟩ prog_14_method_27_code 1 (some FieldType.int)] { frames := 1, cells := 0, slots := 0, locals := 0 } (pC D dA [.int (nI n)] ([]) sz) (va_Qi (fun (r9 : Int32) (u9 : Unit) => r9 = nI (1 + (n + 31) / 32)) (fun (u9 : Unit) t9 => bW D (va_A ([]) sz) ([]) t9) (va_A ([]) sz)) 0 0 (va_A ([]) sz) := by
  refine mkC (y := ⟨"SeriesVaultModel", "unitsOf", "(I)I"⟩) (cc := prog_14_method_27_code) (maxL := 1) (av := [.int (nI n)]) (ws := []) (sz := sz) (Qc := fun A => va_Qi (fun (r9 : Int32) (u9 : Unit) => r9 = nI (1 + (n + 31) / 32)) (fun (u9 : Unit) t9 => bW D A ([]) t9) A) (by decide) (Nat.le_of_ble_eq_true rfl) ?_
  intro A p e s m below meth c ls hsz hB
  obtain ⟨hx, hb, hr, hml, hown, hin, hlk, hE, hK, hP, hD, hS, hA, hN, hl⟩ := hB
  have hown : s.vm.findClass "SeriesVaultModel" = some m.cls := hown
  have hl : lv_has ls 1 [(0, .int (nI n))] := hl
  obtain ⟨H, hH⟩ : ∃ z, z = s.heap := ⟨_, rfl⟩
  have hP : va_P D vwCl ([]) H := by rw [hH]; exact hP
  have hS : va_S A s.heap H [] := by rw [hH]; exact hS
  rw [← hH]
  refine lv_iconst (v := 1) hx hb d_M_unitsOf_0 (by decide) ?_
  refine lv_iload_n hx hb d_M_unitsOf_1 rfl (lv_at hl 0 rfl) ?_
  refine lv_bipush (v := 31) hx hb d_M_unitsOf_2 (by decide) ?_
  refine lv_iadd hx hb d_M_unitsOf_4 (tpi (y := nI (n + 31)) (nI_add (n) (31)) ?_)
  refine lv_bipush (v := 32) hx hb d_M_unitsOf_5 (by decide) ?_
  refine lv_idiv hx hb d_M_unitsOf_7 (by decide) (tpi (y := nI ((n + 31) / 32)) (pk_div (a := n + 31) (d := 32) (by omega) (by omega) (by omega)) ?_)
  refine lv_iadd hx hb d_M_unitsOf_8 (tpi (y := nI (1 + ((n + 31) / 32))) (nI_add (1) ((n + 31) / 32)) ?_)
  exact rfI hx hb hr hlk hS () rfl hP hD (Nat.le_of_ble_eq_true rfl) (Nat.le_of_ble_eq_true rfl) d_M_unitsOf_9
theorem d_M_isWord_0 : decode prog_14_method_20_code 0 = .ok (.iload_n 0, 1) := by decide +kernel
theorem d_M_isWord_1 : decode prog_14_method_20_code 1 = .ok (.bipush 32, 2) := by decide +kernel
theorem d_M_isWord_3 : decode prog_14_method_20_code 3 = .ok (.if_icmp .le 55, 3) := by decide +kernel
theorem d_M_isWord_58 : decode prog_14_method_20_code 58 = .ok (.iconst 0, 1) := by decide +kernel
theorem d_M_isWord_59 : decode prog_14_method_20_code 59 = .ok (.ireturn, 1) := by decide +kernel
theorem d_M_isWord_6 : decode prog_14_method_20_code 6 = .ok (.iload_n 0, 1) := by decide +kernel
theorem d_M_isWord_7 : decode prog_14_method_20_code 7 = .ok (.bipush 127, 2) := by decide +kernel
theorem d_M_isWord_9 : decode prog_14_method_20_code 9 = .ok (.if_icmp .ge 49, 3) := by decide +kernel
theorem d_M_isWord_12 : decode prog_14_method_20_code 12 = .ok (.iload_n 0, 1) := by decide +kernel
theorem d_M_isWord_13 : decode prog_14_method_20_code 13 = .ok (.bipush 34, 2) := by decide +kernel
theorem d_M_isWord_15 : decode prog_14_method_20_code 15 = .ok (.if_icmp .eq 43, 3) := by decide +kernel
theorem d_M_isWord_18 : decode prog_14_method_20_code 18 = .ok (.iload_n 0, 1) := by decide +kernel
theorem d_M_isWord_19 : decode prog_14_method_20_code 19 = .ok (.bipush 61, 2) := by decide +kernel
theorem d_M_isWord_21 : decode prog_14_method_20_code 21 = .ok (.if_icmp .eq 37, 3) := by decide +kernel
theorem d_M_isWord_24 : decode prog_14_method_20_code 24 = .ok (.iload_n 0, 1) := by decide +kernel
theorem d_M_isWord_25 : decode prog_14_method_20_code 25 = .ok (.bipush 44, 2) := by decide +kernel
theorem d_M_isWord_27 : decode prog_14_method_20_code 27 = .ok (.if_icmp .eq 31, 3) := by decide +kernel
theorem d_M_isWord_30 : decode prog_14_method_20_code 30 = .ok (.iload_n 0, 1) := by decide +kernel
theorem d_M_isWord_31 : decode prog_14_method_20_code 31 = .ok (.bipush 40, 2) := by decide +kernel
theorem d_M_isWord_33 : decode prog_14_method_20_code 33 = .ok (.if_icmp .eq 25, 3) := by decide +kernel
theorem d_M_isWord_36 : decode prog_14_method_20_code 36 = .ok (.iload_n 0, 1) := by decide +kernel
theorem d_M_isWord_37 : decode prog_14_method_20_code 37 = .ok (.bipush 41, 2) := by decide +kernel
theorem d_M_isWord_39 : decode prog_14_method_20_code 39 = .ok (.if_icmp .eq 19, 3) := by decide +kernel
theorem d_M_isWord_42 : decode prog_14_method_20_code 42 = .ok (.iload_n 0, 1) := by decide +kernel
theorem d_M_isWord_43 : decode prog_14_method_20_code 43 = .ok (.bipush 123, 2) := by decide +kernel
theorem d_M_isWord_45 : decode prog_14_method_20_code 45 = .ok (.if_icmp .eq 13, 3) := by decide +kernel
theorem d_M_isWord_48 : decode prog_14_method_20_code 48 = .ok (.iload_n 0, 1) := by decide +kernel
theorem d_M_isWord_49 : decode prog_14_method_20_code 49 = .ok (.bipush 125, 2) := by decide +kernel
theorem d_M_isWord_51 : decode prog_14_method_20_code 51 = .ok (.if_icmp .eq 7, 3) := by decide +kernel
theorem d_M_isWord_54 : decode prog_14_method_20_code 54 = .ok (.iconst 1, 1) := by decide +kernel
theorem d_M_isWord_55 : decode prog_14_method_20_code 55 = .ok (.goto 4, 3) := by decide +kernel
set_option maxHeartbeats 4000000 in
set_option maxRecDepth 100000 in
theorem k_isWord (l : Launch) (D : va_G) (dA : Nat → ClassId) (sz : Nat) (z : Int32) : Met l ⟨"SeriesVaultModel", "isWord", "(I)Z"⟩ [Cond.code ⟨"SeriesVaultModel", "isWord", "(I)Z"⟩ prog_14_method_20_code 1 (some FieldType.boolean)] { frames := 1, cells := 0, slots := 0, locals := 0 } (pC D dA [.int z] ([]) sz) (va_Qi (fun (r9 : Int32) (u9 : Unit) => r9 = bI (isWd z)) (fun (u9 : Unit) t9 => bW D (va_A ([]) sz) ([]) t9) (va_A ([]) sz)) 0 0 (va_A ([]) sz) := by
  refine mkC (y := ⟨"SeriesVaultModel", "isWord", "(I)Z"⟩) (cc := prog_14_method_20_code) (maxL := 1) (av := [.int z]) (ws := []) (sz := sz) (Qc := fun A => va_Qi (fun (r9 : Int32) (u9 : Unit) => r9 = bI (isWd z)) (fun (u9 : Unit) t9 => bW D A ([]) t9) A) (by decide) (Nat.le_of_ble_eq_true rfl) ?_
  intro A p e s m below meth c ls hsz hB
  obtain ⟨hx, hb, hr, hml, hown, hin, hlk, hE, hK, hP, hD, hS, hA, hN, hl⟩ := hB
  have hown : s.vm.findClass "SeriesVaultModel" = some m.cls := hown
  have hl : lv_has ls 1 [(0, .int z)] := hl
  obtain ⟨H, hH⟩ : ∃ z, z = s.heap := ⟨_, rfl⟩
  have hP : va_P D vwCl ([]) H := by rw [hH]; exact hP
  have hS : va_S A s.heap H [] := by rw [hH]; exact hS
  rw [← hH]
  refine lv_iload_n hx hb d_M_isWord_0 rfl (lv_at hl 0 rfl) ?_
  refine lv_bipush (v := 32) hx hb d_M_isWord_1 (by decide) ?_
  refine lv_icmp_le hx hb d_M_isWord_3 (tgt := 58) rfl (fun g1 => ?_) (fun g1 => ?_)
  · have g1 := g1
    refine lv_iconst (v := 0) hx hb d_M_isWord_58 (by decide) ?_
    exact rfZ hx hb hr (bI_nar false) hlk hS () (by simp [isWd, bI, *]) hP hD (Nat.le_of_ble_eq_true rfl) (Nat.le_of_ble_eq_true rfl) d_M_isWord_59
  · have g1 := g1
    refine lv_iload_n hx hb d_M_isWord_6 rfl (lv_at hl 0 rfl) ?_
    refine lv_bipush (v := 127) hx hb d_M_isWord_7 (by decide) ?_
    refine lv_icmp_ge hx hb d_M_isWord_9 (tgt := 58) rfl (fun g2 => ?_) (fun g2 => ?_)
    · have g2 := g2
      refine lv_iconst (v := 0) hx hb d_M_isWord_58 (by decide) ?_
      exact rfZ hx hb hr (bI_nar false) hlk hS () (by simp [isWd, bI, *]) hP hD (Nat.le_of_ble_eq_true rfl) (Nat.le_of_ble_eq_true rfl) d_M_isWord_59
    · have g2 := g2
      refine lv_iload_n hx hb d_M_isWord_12 rfl (lv_at hl 0 rfl) ?_
      refine lv_bipush (v := 34) hx hb d_M_isWord_13 (by decide) ?_
      refine lv_icmp_eq hx hb d_M_isWord_15 (tgt := 58) rfl (fun g3 => ?_) (fun g3 => ?_)
      · have g3 := g3
        refine lv_iconst (v := 0) hx hb d_M_isWord_58 (by decide) ?_
        exact rfZ hx hb hr (bI_nar false) hlk hS () (by simp [isWd, bI, *]) hP hD (Nat.le_of_ble_eq_true rfl) (Nat.le_of_ble_eq_true rfl) d_M_isWord_59
      · have g3 := g3
        refine lv_iload_n hx hb d_M_isWord_18 rfl (lv_at hl 0 rfl) ?_
        refine lv_bipush (v := 61) hx hb d_M_isWord_19 (by decide) ?_
        refine lv_icmp_eq hx hb d_M_isWord_21 (tgt := 58) rfl (fun g4 => ?_) (fun g4 => ?_)
        · have g4 := g4
          refine lv_iconst (v := 0) hx hb d_M_isWord_58 (by decide) ?_
          exact rfZ hx hb hr (bI_nar false) hlk hS () (by simp [isWd, bI, *]) hP hD (Nat.le_of_ble_eq_true rfl) (Nat.le_of_ble_eq_true rfl) d_M_isWord_59
        · have g4 := g4
          refine lv_iload_n hx hb d_M_isWord_24 rfl (lv_at hl 0 rfl) ?_
          refine lv_bipush (v := 44) hx hb d_M_isWord_25 (by decide) ?_
          refine lv_icmp_eq hx hb d_M_isWord_27 (tgt := 58) rfl (fun g5 => ?_) (fun g5 => ?_)
          · have g5 := g5
            refine lv_iconst (v := 0) hx hb d_M_isWord_58 (by decide) ?_
            exact rfZ hx hb hr (bI_nar false) hlk hS () (by simp [isWd, bI, *]) hP hD (Nat.le_of_ble_eq_true rfl) (Nat.le_of_ble_eq_true rfl) d_M_isWord_59
          · have g5 := g5
            refine lv_iload_n hx hb d_M_isWord_30 rfl (lv_at hl 0 rfl) ?_
            refine lv_bipush (v := 40) hx hb d_M_isWord_31 (by decide) ?_
            refine lv_icmp_eq hx hb d_M_isWord_33 (tgt := 58) rfl (fun g6 => ?_) (fun g6 => ?_)
            · have g6 := g6
              refine lv_iconst (v := 0) hx hb d_M_isWord_58 (by decide) ?_
              exact rfZ hx hb hr (bI_nar false) hlk hS () (by simp [isWd, bI, *]) hP hD (Nat.le_of_ble_eq_true rfl) (Nat.le_of_ble_eq_true rfl) d_M_isWord_59
            · have g6 := g6
              refine lv_iload_n hx hb d_M_isWord_36 rfl (lv_at hl 0 rfl) ?_
              refine lv_bipush (v := 41) hx hb d_M_isWord_37 (by decide) ?_
              refine lv_icmp_eq hx hb d_M_isWord_39 (tgt := 58) rfl (fun g7 => ?_) (fun g7 => ?_)
              · have g7 := g7
                refine lv_iconst (v := 0) hx hb d_M_isWord_58 (by decide) ?_
                exact rfZ hx hb hr (bI_nar false) hlk hS () (by simp [isWd, bI, *]) hP hD (Nat.le_of_ble_eq_true rfl) (Nat.le_of_ble_eq_true rfl) d_M_isWord_59
              · have g7 := g7
                refine lv_iload_n hx hb d_M_isWord_42 rfl (lv_at hl 0 rfl) ?_
                refine lv_bipush (v := 123) hx hb d_M_isWord_43 (by decide) ?_
                refine lv_icmp_eq hx hb d_M_isWord_45 (tgt := 58) rfl (fun g8 => ?_) (fun g8 => ?_)
                · have g8 := g8
                  refine lv_iconst (v := 0) hx hb d_M_isWord_58 (by decide) ?_
                  exact rfZ hx hb hr (bI_nar false) hlk hS () (by simp [isWd, bI, *]) hP hD (Nat.le_of_ble_eq_true rfl) (Nat.le_of_ble_eq_true rfl) d_M_isWord_59
                · have g8 := g8
                  refine lv_iload_n hx hb d_M_isWord_48 rfl (lv_at hl 0 rfl) ?_
                  refine lv_bipush (v := 125) hx hb d_M_isWord_49 (by decide) ?_
                  refine lv_icmp_eq hx hb d_M_isWord_51 (tgt := 58) rfl (fun g9 => ?_) (fun g9 => ?_)
                  · have g9 := g9
                    refine lv_iconst (v := 0) hx hb d_M_isWord_58 (by decide) ?_
                    exact rfZ hx hb hr (bI_nar false) hlk hS () (by simp [isWd, bI, *]) hP hD (Nat.le_of_ble_eq_true rfl) (Nat.le_of_ble_eq_true rfl) d_M_isWord_59
                  · have g9 := g9
                    refine lv_iconst (v := 1) hx hb d_M_isWord_54 (by decide) ?_
                    refine lv_goto hx hb d_M_isWord_55 (tgt := 59) rfl ?_
                    exact rfZ hx hb hr (bI_nar true) hlk hS () (by simp [isWd, bI, *]) hP hD (Nat.le_of_ble_eq_true rfl) (Nat.le_of_ble_eq_true rfl) d_M_isWord_59
set_option maxHeartbeats 4000000 in
set_option maxRecDepth 100000 in
theorem k_flaw_0 (l : Launch) (D : va_G) (dA : Nat → ClassId) (sz : Nat) (h : Nat) (ad : Nat → Nat) (x : MS) (k : Int32) (q : Int32) (hf : x.faultCode = 0) : Met l ⟨"SeriesVaultModel", "flaw", "(II)Z"⟩ [Cond.code ⟨"SeriesVaultModel", "flaw", "(II)Z"⟩ prog_14_method_21_code 3 (some FieldType.boolean)] { frames := 1, cells := 0, slots := 0, locals := 0 } (pC D dA [.ref h, .int k, .int q] (MW dA h ad x) sz) (va_Qi (fun (r9 : Int32) (u9 : Unit) => r9 = bI false) (fun (u9 : Unit) t9 => bW D (va_A (MW dA h ad x) sz) (MW dA h ad (MS.s_faultPlace (MS.s_faultCode x k) q)) t9) (va_A (MW dA h ad x) sz)) 0 0 (va_A (MW dA h ad x) sz) := by
  refine mkC (y := ⟨"SeriesVaultModel", "flaw", "(II)Z"⟩) (cc := prog_14_method_21_code) (maxL := 3) (av := [.ref h, .int k, .int q]) (ws := MW dA h ad x) (sz := sz) (Qc := fun A => va_Qi (fun (r9 : Int32) (u9 : Unit) => r9 = bI false) (fun (u9 : Unit) t9 => bW D A (MW dA h ad (MS.s_faultPlace (MS.s_faultCode x k) q)) t9) A) (by decide) (Nat.le_of_ble_eq_true rfl) ?_
  intro A p e s m below meth c ls hsz hB
  obtain ⟨hx, hb, hr, hml, hown, hin, hlk, hE, hK, hP, hD, hS, hA, hN, hl⟩ := hB
  have hown : s.vm.findClass "SeriesVaultModel" = some m.cls := hown
  have hl : lv_has ls 3 [(0, .ref h), (1, .int k), (2, .int q)] := hl
  obtain ⟨H, hH⟩ : ∃ z, z = s.heap := ⟨_, rfl⟩
  have hP : va_P D vwCl (MW dA h ad x) H := by rw [hH]; exact hP
  have hS : va_S A s.heap H [] := by rw [hH]; exact hS
  rw [← hH]
  refine lv_aload_n hx hb d_M_flaw_0 rfl (lv_at hl 0 rfl) ?_
  refine gF (v := .int x.faultCode) hx hb hown hE hK hP 0 rfl rfl layM 3 (by decide) w321 rfl d_M_flaw_1 ?_
  refine lv_if_ne hx hb d_M_flaw_4 (tgt := 17) rfl (fun h9 => absurd hf h9) (fun _ => ?_)
  refine lv_aload_n hx hb d_M_flaw_7 rfl (lv_at hl 0 rfl) ?_
  refine lv_iload_n hx hb d_M_flaw_8 rfl (lv_at hl 1 rfl) ?_
  refine pF (v := .int k) hx hb hown hE hK hP hD hS 0 rfl rfl layM tyM tokM nmM 3 (by decide) w321 rfl rfl rfl (Nat.le_of_ble_eq_true rfl) d_M_flaw_9 (fun H locs hP hD hS => ?_)
  have hP : va_P D vwCl (MW dA h ad (MS.s_faultCode x k)) H := hP
  have hD : va_D A (MW dA h ad (MS.s_faultCode x k)) := hD
  refine lv_aload_n hx hb d_M_flaw_12 rfl (lv_at hl 0 rfl) ?_
  refine lv_iload_n hx hb d_M_flaw_13 rfl (lv_at hl 2 rfl) ?_
  refine pF (v := .int q) hx hb hown hE hK hP hD hS 0 rfl rfl layM tyM tokM nmM 4 (by decide) w322 rfl rfl rfl (Nat.le_of_ble_eq_true rfl) d_M_flaw_14 (fun H locs hP hD hS => ?_)
  have hP : va_P D vwCl (MW dA h ad (MS.s_faultPlace (MS.s_faultCode x k) q)) H := hP
  have hD : va_D A (MW dA h ad (MS.s_faultPlace (MS.s_faultCode x k) q)) := hD
  refine lv_iconst (v := 0) hx hb d_M_flaw_17 (by decide) ?_
  exact rfZ hx hb hr (bI_nar false) hlk hS () rfl hP hD (Nat.le_of_ble_eq_true rfl) (Nat.le_of_ble_eq_true rfl) d_M_flaw_18
set_option maxHeartbeats 4000000 in
set_option maxRecDepth 100000 in
theorem k_flaw_1 (l : Launch) (D : va_G) (dA : Nat → ClassId) (sz : Nat) (h : Nat) (ad : Nat → Nat) (x : MS) (k : Int32) (q : Int32) (hf : ¬ x.faultCode = 0) : Met l ⟨"SeriesVaultModel", "flaw", "(II)Z"⟩ [Cond.code ⟨"SeriesVaultModel", "flaw", "(II)Z"⟩ prog_14_method_21_code 3 (some FieldType.boolean)] { frames := 1, cells := 0, slots := 0, locals := 0 } (pC D dA [.ref h, .int k, .int q] (MW dA h ad x) sz) (va_Qi (fun (r9 : Int32) (u9 : Unit) => r9 = bI false) (fun (u9 : Unit) t9 => bW D (va_A (MW dA h ad x) sz) (MW dA h ad x) t9) (va_A (MW dA h ad x) sz)) 0 0 (va_A (MW dA h ad x) sz) := by
  refine mkC (y := ⟨"SeriesVaultModel", "flaw", "(II)Z"⟩) (cc := prog_14_method_21_code) (maxL := 3) (av := [.ref h, .int k, .int q]) (ws := MW dA h ad x) (sz := sz) (Qc := fun A => va_Qi (fun (r9 : Int32) (u9 : Unit) => r9 = bI false) (fun (u9 : Unit) t9 => bW D A (MW dA h ad x) t9) A) (by decide) (Nat.le_of_ble_eq_true rfl) ?_
  intro A p e s m below meth c ls hsz hB
  obtain ⟨hx, hb, hr, hml, hown, hin, hlk, hE, hK, hP, hD, hS, hA, hN, hl⟩ := hB
  have hown : s.vm.findClass "SeriesVaultModel" = some m.cls := hown
  have hl : lv_has ls 3 [(0, .ref h), (1, .int k), (2, .int q)] := hl
  obtain ⟨H, hH⟩ : ∃ z, z = s.heap := ⟨_, rfl⟩
  have hP : va_P D vwCl (MW dA h ad x) H := by rw [hH]; exact hP
  have hS : va_S A s.heap H [] := by rw [hH]; exact hS
  rw [← hH]
  refine lv_aload_n hx hb d_M_flaw_0 rfl (lv_at hl 0 rfl) ?_
  refine gF (v := .int x.faultCode) hx hb hown hE hK hP 0 rfl rfl layM 3 (by decide) w321 rfl d_M_flaw_1 ?_
  refine lv_if_ne hx hb d_M_flaw_4 (tgt := 17) rfl (fun _ => ?_) (fun h9 => absurd h9 hf)
  refine lv_iconst (v := 0) hx hb d_M_flaw_17 (by decide) ?_
  exact rfZ hx hb hr (bI_nar false) hlk hS () rfl hP hD (Nat.le_of_ble_eq_true rfl) (Nat.le_of_ble_eq_true rfl) d_M_flaw_18
theorem d_M_wordLength_12 : decode prog_14_method_22_code 12 = .ok (.iload_n 2, 1) := by decide +kernel
theorem d_M_wordLength_13 : decode prog_14_method_22_code 13 = .ok (.bipush 25, 2) := by decide +kernel
theorem d_M_wordLength_15 : decode prog_14_method_22_code 15 = .ok (.if_icmp .ge 23, 3) := by decide +kernel
theorem d_M_wordLength_18 : decode prog_14_method_22_code 18 = .ok (.aload_n 0, 1) := by decide +kernel
theorem d_M_wordLength_19 : decode prog_14_method_22_code 19 = .ok (.getfield 8, 3) := by decide +kernel
theorem d_M_wordLength_22 : decode prog_14_method_22_code 22 = .ok (.iload_n 1, 1) := by decide +kernel
theorem d_M_wordLength_23 : decode prog_14_method_22_code 23 = .ok (.iload_n 2, 1) := by decide +kernel
theorem d_M_wordLength_24 : decode prog_14_method_22_code 24 = .ok (.iadd, 1) := by decide +kernel
theorem d_M_wordLength_25 : decode prog_14_method_22_code 25 = .ok (.baload, 1) := by decide +kernel
theorem d_M_wordLength_26 : decode prog_14_method_22_code 26 = .ok (.invokestatic 214, 3) := by decide +kernel
theorem d_M_wordLength_29 : decode prog_14_method_22_code 29 = .ok (.ifCond .eq 9, 3) := by decide +kernel
theorem d_M_wordLength_32 : decode prog_14_method_22_code 32 = .ok (.iinc 2 1, 3) := by decide +kernel
theorem d_M_wordLength_35 : decode prog_14_method_22_code 35 = .ok (.goto (-33), 3) := by decide +kernel
theorem w870 : Cond.methodLink "SeriesVaultModel" 214 ⟨"SeriesVaultModel", "isWord", "(I)Z"⟩ ∈ aW := aw_of (tb_9 (List.mem_of_getElem? (i := 204) rfl)) rfl
theorem w871 : Cond.code ⟨"SeriesVaultModel", "isWord", "(I)Z"⟩ prog_14_method_20_code 1 (some FieldType.boolean) ∈ aW := aw_of (tb_9 (List.mem_of_getElem? (i := 206) rfl)) rfl
theorem w872 : Cond.static ⟨"SeriesVaultModel", "isWord", "(I)Z"⟩ ∈ aW := aw_of (tb_9 (List.mem_of_getElem? (i := 205) rfl)) rfl
set_option maxHeartbeats 4000000 in
set_option maxRecDepth 100000 in
theorem k_wordLength (l : Launch) (D : va_G) (dA : Nat → ClassId) (sz : Nat) (h : Nat) (ad : Nat → Nat) (x : MS) (q : Nat) (hq : q ≤ 131072) (hl1 : x.length ≤ 65536) : Met l ⟨"SeriesVaultModel", "wordLength", "(I)I"⟩ [Cond.code ⟨"SeriesVaultModel", "wordLength", "(I)I"⟩ prog_14_method_22_code 3 (some FieldType.int)] { frames := 2, cells := 0, slots := 0, locals := 20 } (pC D dA [.ref h, .int (nI q)] (MW dA h ad x) sz) (va_Qi (fun (r9 : Int32) (u9 : Unit) => r9 = nI (wlen x.tape x.length 25 q)) (fun (u9 : Unit) t9 => bW D (va_A (MW dA h ad x) sz) (MW dA h ad x) t9) (va_A (MW dA h ad x) sz)) 0 0 (va_A (MW dA h ad x) sz) := by
  refine mkC (y := ⟨"SeriesVaultModel", "wordLength", "(I)I"⟩) (cc := prog_14_method_22_code) (maxL := 3) (av := [.ref h, .int (nI q)]) (ws := MW dA h ad x) (sz := sz) (Qc := fun A => va_Qi (fun (r9 : Int32) (u9 : Unit) => r9 = nI (wlen x.tape x.length 25 q)) (fun (u9 : Unit) t9 => bW D A (MW dA h ad x) t9) A) (by decide) (Nat.le_of_ble_eq_true rfl) ?_
  intro A p e s m below meth c ls hsz hB
  obtain ⟨hx, hb, hr, hml, hown, hin, hlk, hE, hK, hP, hD, hS, hA, hN, hl⟩ := hB
  have hown : s.vm.findClass "SeriesVaultModel" = some m.cls := hown
  have hl : lv_has ls 3 [(0, .ref h), (1, .int (nI q))] := hl
  obtain ⟨H, hH⟩ : ∃ z, z = s.heap := ⟨_, rfl⟩
  have hP : va_P D vwCl (MW dA h ad x) H := by rw [hH]; exact hP
  have hS : va_S A s.heap H [] := by rw [hH]; exact hS
  rw [← hH]
  refine lv_iconst (v := 0) hx hb d_M_wordLength_0 (by decide) ?_
  refine lv_istore_n hx hb d_M_wordLength_1 rfl hl (by decide) rfl (fun ls hl => ?_)
  have hl : lv_has ls 3 [(2, .int 0), (0, .ref h), (1, .int (nI q))] := hl
  have L2 : ∀ (k9 : Nat) (n : Nat) (i1 : n ≤ 25) (i2 : n + wlen x.tape x.length (25 - n) (q + n) = wlen x.tape x.length 25 q) (hk9 : 25 - n = k9), ∀ (H : Heap) (locs : List Loc) (ls : Array Slot) (hP : va_P D vwCl (MW dA h ad x) H) (hD : va_D A (MW dA h ad x)) (hS : va_S A s.heap H locs) (hl : lv_has ls 3 [(2, .int (nI n)), (1, .int (nI q)), (0, .ref h)]), W p l e ({ frames := 2, cells := 0, slots := 0, locals := 20 } : Room) s m ([.ref h, .int (nI q)] : List Value).toArray below meth c H locs 0 0 (MQ below (va_Qi (fun (r9 : Int32) (u9 : Unit) => r9 = nI (wlen x.tape x.length 25 q)) (fun (u9 : Unit) t9 => bW D A (MW dA h ad x) t9) A) ([.ref h, .int (nI q)] : List Value).toArray s 0 0 A) (F0 m 2 ls []) := by
    intro k9
    induction k9 using Nat.strongRecOn with
    | ind k9 ih2 =>
      intro n i1 i2 hk9 H locs ls hP hD hS hl
      refine lv_iload_n hx hb d_M_wordLength_2 rfl (lv_at hl 1 rfl) ?_
      refine lv_iload_n hx hb d_M_wordLength_3 rfl (lv_at hl 0 rfl) ?_
      refine lv_iadd hx hb d_M_wordLength_4 (tpi (y := nI (q + n)) (nI_add (q) (n)) ?_)
      refine lv_aload_n hx hb d_M_wordLength_5 rfl (lv_at hl 2 rfl) ?_
      refine gF (v := .int (nI x.length)) hx hb hown hE hK hP 0 rfl rfl layM 2 (by decide) w320 rfl d_M_wordLength_6 ?_
      refine lv_icmp_ge hx hb d_M_wordLength_9 (tgt := 38) rfl (fun g1 => ?_) (fun g1 => ?_)
      · have g1 := (nI_leI (a := x.length) (b := q + n) (by omega) (by omega)).mp g1
        refine lv_iload_n hx hb d_M_wordLength_38 rfl (lv_at hl 0 rfl) ?_
        exact rfI hx hb hr hlk hS () (congrArg nI (by first | (have z9 := wlen_0 (f := x.tape) (w := 25 - n) (len := x.length) (q := q + n) (by assumption); omega) | (have z9 := wlen_f (f := x.tape) (w := 25 - n) (len := x.length) (q := q + n) (by assumption); omega) | (have z9 := wlen_le x.tape x.length (25 - n) (q + n); omega))) hP hD (Nat.le_of_ble_eq_true rfl) (Nat.le_of_ble_eq_true rfl) d_M_wordLength_39
      · have g1 := mt (nI_leI (a := x.length) (b := q + n) (by omega) (by omega)).mpr g1
        refine lv_iload_n hx hb d_M_wordLength_12 rfl (lv_at hl 0 rfl) ?_
        refine lv_bipush (v := 25) hx hb d_M_wordLength_13 (by decide) ?_
        refine lv_icmp_ge hx hb d_M_wordLength_15 (tgt := 38) rfl (fun g2 => ?_) (fun g2 => ?_)
        · have g2 := (nI_leI (a := 25) (b := n) (by omega) (by omega)).mp g2
          refine lv_iload_n hx hb d_M_wordLength_38 rfl (lv_at hl 0 rfl) ?_
          exact rfI hx hb hr hlk hS () (congrArg nI (by first | (have z9 := wlen_0 (f := x.tape) (w := 25 - n) (len := x.length) (q := q + n) (by assumption); omega) | (have z9 := wlen_f (f := x.tape) (w := 25 - n) (len := x.length) (q := q + n) (by assumption); omega) | (have z9 := wlen_le x.tape x.length (25 - n) (q + n); omega))) hP hD (Nat.le_of_ble_eq_true rfl) (Nat.le_of_ble_eq_true rfl) d_M_wordLength_39
        · have g2 := mt (nI_leI (a := 25) (b := n) (by omega) (by omega)).mpr g2
          refine lv_aload_n hx hb d_M_wordLength_18 rfl (lv_at hl 2 rfl) ?_
          refine gF (v := .ref (ad 1)) hx hb hown hE hK hP 0 rfl rfl layM 1 (by decide) w497 rfl d_M_wordLength_19 ?_
          refine lv_iload_n hx hb d_M_wordLength_22 rfl (lv_at hl 1 rfl) ?_
          refine lv_iload_n hx hb d_M_wordLength_23 rfl (lv_at hl 0 rfl) ?_
          refine lv_iadd hx hb d_M_wordLength_24 (tpi (y := nI (q + n)) (nI_add (q) (n)) ?_)
          refine nbld (f := x.tape) hx hb hK hP 1 0 rfl rfl (q + n) (by omega) (by decide) d_M_wordLength_25 ?_
          have hPc := hP.sub (ws' := []) [] rfl
          have hDc := hD.sub (ws' := []) [] (by decide) rfl
          refine jnI (rnS (As := [.int (x.tape (q + n))]) (rest := []) hx hb hml hown hE hK (hN _ _ hS) hPc hDc (k_isWord l D dA H.size (x.tape (q + n))) w871 w870 w872 w328 rfl rfl ⟨⟨by decide, by decide⟩, rfl⟩ ⟨(Nat.le_of_ble_eq_true rfl), (Nat.le_of_ble_eq_true rfl)⟩ rfl hl.1 rfl (Nat.le_of_ble_eq_true rfl) d_M_wordLength_26 ⟨(Nat.le_of_ble_eq_true rfl), (Nat.le_of_ble_eq_true rfl)⟩) hP hD hS hA [] [0, 1, 2, 3, 4, 5, 6, 7, 8, 9, 10, 11, 12, 13, 14, 15, 16, 17, 18, 19, 20, 21, 22, 23, 24, 25, 26, 27, 28, 29, 30, 31, 32, 33, 34, 35, 36, 37, 38] (wr := MW dA h ad x) rfl rfl (by decide) (by decide) (fun r3 u9 H locs hp9 hP hD hS => ?_)
          have hP : va_P D vwCl (MW dA h ad x) H := hP
          have hD : va_D A (MW dA h ad x) := hD
          replace hp9 : bI (isWd (x.tape (q + n))) = r3 := Eq.symm hp9
          subst hp9
          refine lv_if_eq hx hb d_M_wordLength_29 (tgt := 38) rfl (fun g5 => ?_) (fun g5 => ?_)
          · have g5 := bI_0 g5
            refine lv_iload_n hx hb d_M_wordLength_38 rfl (lv_at hl 0 rfl) ?_
            exact rfI hx hb hr hlk hS () (congrArg nI (by first | (have z9 := wlen_0 (f := x.tape) (w := 25 - n) (len := x.length) (q := q + n) (by assumption); omega) | (have z9 := wlen_f (f := x.tape) (w := 25 - n) (len := x.length) (q := q + n) (by assumption); omega) | (have z9 := wlen_le x.tape x.length (25 - n) (q + n); omega))) hP hD (Nat.le_of_ble_eq_true rfl) (Nat.le_of_ble_eq_true rfl) d_M_wordLength_39
          · have g5 := bI_n0 g5
            refine lv_iinc (k := 0) (v := nI (n + 1)) hx hb d_M_wordLength_32 hl rfl (iincN (n) 1 1 (by decide)) (by decide) rfl (fun ls hl => ?_)
            have hl : lv_has ls 3 [(2, .int (nI (n + 1))), (1, .int (nI q)), (0, .ref h)] := hl
            refine lv_goto hx hb d_M_wordLength_35 (tgt := 2) rfl ?_
            exact ih2 _ (by omega) (n + 1) (by omega) (by rw [← i2, wlen_t (w := 25 - n) (by omega) (by omega) (by assumption), show 25 - n - 1 = 25 - (n + 1) by omega, show q + n + 1 = q + (n + 1) by omega]; omega) rfl H _ ls hP hD hS (lv_sub hl [0, 1, 2] rfl)
  exact L2 _ 0 (by omega) (Nat.zero_add _) rfl H _ ls hP hD hS (lv_sub hl [0, 2, 1] rfl)
theorem d_M_compare_0 : decode prog_14_method_23_code 0 = .ok (.iconst 0, 1) := by decide +kernel
theorem d_M_compare_1 : decode prog_14_method_23_code 1 = .ok (.istore 5, 2) := by decide +kernel
theorem d_M_compare_3 : decode prog_14_method_23_code 3 = .ok (.iload 5, 2) := by decide +kernel
theorem d_M_compare_5 : decode prog_14_method_23_code 5 = .ok (.iload_n 2, 1) := by decide +kernel
theorem d_M_compare_6 : decode prog_14_method_23_code 6 = .ok (.if_icmp .ge 57, 3) := by decide +kernel
theorem d_M_compare_63 : decode prog_14_method_23_code 63 = .ok (.iload_n 2, 1) := by decide +kernel
theorem d_M_compare_64 : decode prog_14_method_23_code 64 = .ok (.iload 4, 2) := by decide +kernel
theorem d_M_compare_66 : decode prog_14_method_23_code 66 = .ok (.isub, 1) := by decide +kernel
theorem d_M_compare_67 : decode prog_14_method_23_code 67 = .ok (.ireturn, 1) := by decide +kernel
theorem d_M_compare_9 : decode prog_14_method_23_code 9 = .ok (.iload 5, 2) := by decide +kernel
theorem d_M_compare_11 : decode prog_14_method_23_code 11 = .ok (.iload 4, 2) := by decide +kernel
theorem d_M_compare_13 : decode prog_14_method_23_code 13 = .ok (.if_icmp .ge 50, 3) := by decide +kernel
theorem d_M_compare_16 : decode prog_14_method_23_code 16 = .ok (.aload_n 0, 1) := by decide +kernel
theorem d_M_compare_17 : decode prog_14_method_23_code 17 = .ok (.getfield 8, 3) := by decide +kernel
theorem d_M_compare_20 : decode prog_14_method_23_code 20 = .ok (.iload_n 1, 1) := by decide +kernel
theorem d_M_compare_21 : decode prog_14_method_23_code 21 = .ok (.iload 5, 2) := by decide +kernel
theorem d_M_compare_23 : decode prog_14_method_23_code 23 = .ok (.iadd, 1) := by decide +kernel
theorem d_M_compare_24 : decode prog_14_method_23_code 24 = .ok (.baload, 1) := by decide +kernel
theorem d_M_compare_25 : decode prog_14_method_23_code 25 = .ok (.aload_n 0, 1) := by decide +kernel
theorem d_M_compare_26 : decode prog_14_method_23_code 26 = .ok (.getfield 8, 3) := by decide +kernel
theorem d_M_compare_29 : decode prog_14_method_23_code 29 = .ok (.iload_n 3, 1) := by decide +kernel
theorem d_M_compare_30 : decode prog_14_method_23_code 30 = .ok (.iload 5, 2) := by decide +kernel
theorem d_M_compare_32 : decode prog_14_method_23_code 32 = .ok (.iadd, 1) := by decide +kernel
theorem d_M_compare_33 : decode prog_14_method_23_code 33 = .ok (.baload, 1) := by decide +kernel
theorem d_M_compare_34 : decode prog_14_method_23_code 34 = .ok (.if_icmp .eq 23, 3) := by decide +kernel
theorem d_M_compare_57 : decode prog_14_method_23_code 57 = .ok (.iinc 5 1, 3) := by decide +kernel
theorem d_M_compare_60 : decode prog_14_method_23_code 60 = .ok (.goto (-57), 3) := by decide +kernel
theorem d_M_compare_37 : decode prog_14_method_23_code 37 = .ok (.aload_n 0, 1) := by decide +kernel
theorem d_M_compare_38 : decode prog_14_method_23_code 38 = .ok (.getfield 8, 3) := by decide +kernel
theorem d_M_compare_41 : decode prog_14_method_23_code 41 = .ok (.iload_n 1, 1) := by decide +kernel
theorem d_M_compare_42 : decode prog_14_method_23_code 42 = .ok (.iload 5, 2) := by decide +kernel
theorem d_M_compare_44 : decode prog_14_method_23_code 44 = .ok (.iadd, 1) := by decide +kernel
theorem d_M_compare_45 : decode prog_14_method_23_code 45 = .ok (.baload, 1) := by decide +kernel
theorem d_M_compare_46 : decode prog_14_method_23_code 46 = .ok (.aload_n 0, 1) := by decide +kernel
theorem d_M_compare_47 : decode prog_14_method_23_code 47 = .ok (.getfield 8, 3) := by decide +kernel
theorem d_M_compare_50 : decode prog_14_method_23_code 50 = .ok (.iload_n 3, 1) := by decide +kernel
theorem d_M_compare_51 : decode prog_14_method_23_code 51 = .ok (.iload 5, 2) := by decide +kernel
theorem d_M_compare_53 : decode prog_14_method_23_code 53 = .ok (.iadd, 1) := by decide +kernel
theorem d_M_compare_54 : decode prog_14_method_23_code 54 = .ok (.baload, 1) := by decide +kernel
theorem d_M_compare_55 : decode prog_14_method_23_code 55 = .ok (.isub, 1) := by decide +kernel
theorem d_M_compare_56 : decode prog_14_method_23_code 56 = .ok (.ireturn, 1) := by decide +kernel
set_option maxHeartbeats 4000000 in
set_option maxRecDepth 100000 in
theorem k_compare (l : Launch) (D : va_G) (dA : Nat → ClassId) (sz : Nat) (h : Nat) (ad : Nat → Nat) (x : MS) (a : Nat) (n : Nat) (b : Nat) (k : Nat) (h1 : a + n ≤ 65536) (h2 : b + k ≤ 65536) : Met l ⟨"SeriesVaultModel", "compare", "(IIII)I"⟩ [Cond.code ⟨"SeriesVaultModel", "compare", "(IIII)I"⟩ prog_14_method_23_code 6 (some FieldType.int)] { frames := 1, cells := 0, slots := 0, locals := 0 } (pC D dA [.ref h, .int (nI a), .int (nI n), .int (nI b), .int (nI k)] (MW dA h ad x) sz) (va_Qi (fun (r9 : Int32) (u9 : Unit) => r9 = cmpT x.tape a n b k) (fun (u9 : Unit) t9 => bW D (va_A (MW dA h ad x) sz) (MW dA h ad x) t9) (va_A (MW dA h ad x) sz)) 0 0 (va_A (MW dA h ad x) sz) := by
  refine mkC (y := ⟨"SeriesVaultModel", "compare", "(IIII)I"⟩) (cc := prog_14_method_23_code) (maxL := 6) (av := [.ref h, .int (nI a), .int (nI n), .int (nI b), .int (nI k)]) (ws := MW dA h ad x) (sz := sz) (Qc := fun A => va_Qi (fun (r9 : Int32) (u9 : Unit) => r9 = cmpT x.tape a n b k) (fun (u9 : Unit) t9 => bW D A (MW dA h ad x) t9) A) (by decide) (Nat.le_of_ble_eq_true rfl) ?_
  intro A p e s m below meth c ls hsz hB
  obtain ⟨hx, hb, hr, hml, hown, hin, hlk, hE, hK, hP, hD, hS, hA, hN, hl⟩ := hB
  have hown : s.vm.findClass "SeriesVaultModel" = some m.cls := hown
  have hl : lv_has ls 6 [(0, .ref h), (1, .int (nI a)), (2, .int (nI n)), (3, .int (nI b)), (4, .int (nI k))] := hl
  obtain ⟨H, hH⟩ : ∃ z, z = s.heap := ⟨_, rfl⟩
  have hP : va_P D vwCl (MW dA h ad x) H := by rw [hH]; exact hP
  have hS : va_S A s.heap H [] := by rw [hH]; exact hS
  rw [← hH]
  refine lv_iconst (v := 0) hx hb d_M_compare_0 (by decide) ?_
  refine lv_istore hx hb d_M_compare_1 hl (by decide) rfl (fun ls hl => ?_)
  have hl : lv_has ls 6 [(5, .int 0), (0, .ref h), (1, .int (nI a)), (2, .int (nI n)), (3, .int (nI b)), (4, .int (nI k))] := hl
  have L3 : ∀ (k9 : Nat) (j : Nat) (i1 : j ≤ n) (i2 : cmpG x.tape a n b k (n + 1 - j) j = cmpT x.tape a n b k) (hk9 : n - j = k9), ∀ (H : Heap) (locs : List Loc) (ls : Array Slot) (hP : va_P D vwCl (MW dA h ad x) H) (hD : va_D A (MW dA h ad x)) (hS : va_S A s.heap H locs) (hl : lv_has ls 6 [(5, .int (nI j)), (4, .int (nI k)), (3, .int (nI b)), (2, .int (nI n)), (1, .int (nI a)), (0, .ref h)]), W p l e ({ frames := 1, cells := 0, slots := 0, locals := 0 } : Room) s m ([.ref h, .int (nI a), .int (nI n), .int (nI b), .int (nI k)] : List Value).toArray below meth c H locs 0 0 (MQ below (va_Qi (fun (r9 : Int32) (u9 : Unit) => r9 = cmpT x.tape a n b k) (fun (u9 : Unit) t9 => bW D A (MW dA h ad x) t9) A) ([.ref h, .int (nI a), .int (nI n), .int (nI b), .int (nI k)] : List Value).toArray s 0 0 A) (F0 m 3 ls []) := by
    intro k9
    induction k9 using Nat.strongRecOn with
    | ind k9 ih3 =>
      intro j i1 i2 hk9 H locs ls hP hD hS hl
      refine lv_iload hx hb d_M_compare_3 (lv_at hl 0 rfl) ?_
      refine lv_iload_n hx hb d_M_compare_5 rfl (lv_at hl 3 rfl) ?_
      refine lv_icmp_ge hx hb d_M_compare_6 (tgt := 63) rfl (fun g1 => ?_) (fun g1 => ?_)
      · have g1 := (nI_leI (a := n) (b := j) (by omega) (by omega)).mp g1
        refine lv_iload_n hx hb d_M_compare_63 rfl (lv_at hl 3 rfl) ?_
        refine lv_iload hx hb d_M_compare_64 (lv_at hl 1 rfl) ?_
        refine lv_isub hx hb d_M_compare_66 ?_
        exact rfI hx hb hr hlk hS () (by rw [← i2]; first | rw [cmpG_n (Or.inl (by assumption))] | rw [cmpG_n (Or.inr (by assumption))] | rw [cmpG_d (by omega) (by omega) (by omega) (by assumption)]) hP hD (Nat.le_of_ble_eq_true rfl) (Nat.le_of_ble_eq_true rfl) d_M_compare_67
      · have g1 := mt (nI_leI (a := n) (b := j) (by omega) (by omega)).mpr g1
        refine lv_iload hx hb d_M_compare_9 (lv_at hl 0 rfl) ?_
        refine lv_iload hx hb d_M_compare_11 (lv_at hl 1 rfl) ?_
        refine lv_icmp_ge hx hb d_M_compare_13 (tgt := 63) rfl (fun g2 => ?_) (fun g2 => ?_)
        · have g2 := (nI_leI (a := k) (b := j) (by omega) (by omega)).mp g2
          refine lv_iload_n hx hb d_M_compare_63 rfl (lv_at hl 3 rfl) ?_
          refine lv_iload hx hb d_M_compare_64 (lv_at hl 1 rfl) ?_
          refine lv_isub hx hb d_M_compare_66 ?_
          exact rfI hx hb hr hlk hS () (by rw [← i2]; first | rw [cmpG_n (Or.inl (by assumption))] | rw [cmpG_n (Or.inr (by assumption))] | rw [cmpG_d (by omega) (by omega) (by omega) (by assumption)]) hP hD (Nat.le_of_ble_eq_true rfl) (Nat.le_of_ble_eq_true rfl) d_M_compare_67
        · have g2 := mt (nI_leI (a := k) (b := j) (by omega) (by omega)).mpr g2
          refine lv_aload_n hx hb d_M_compare_16 rfl (lv_at hl 5 rfl) ?_
          refine gF (v := .ref (ad 1)) hx hb hown hE hK hP 0 rfl rfl layM 1 (by decide) w497 rfl d_M_compare_17 ?_
          refine lv_iload_n hx hb d_M_compare_20 rfl (lv_at hl 4 rfl) ?_
          refine lv_iload hx hb d_M_compare_21 (lv_at hl 0 rfl) ?_
          refine lv_iadd hx hb d_M_compare_23 (tpi (y := nI (a + j)) (nI_add (a) (j)) ?_)
          refine nbld (f := x.tape) hx hb hK hP 1 0 rfl rfl (a + j) (by omega) (by decide) d_M_compare_24 ?_
          refine lv_aload_n hx hb d_M_compare_25 rfl (lv_at hl 5 rfl) ?_
          refine gF (v := .ref (ad 1)) hx hb hown hE hK hP 0 rfl rfl layM 1 (by decide) w497 rfl d_M_compare_26 ?_
          refine lv_iload_n hx hb d_M_compare_29 rfl (lv_at hl 2 rfl) ?_
          refine lv_iload hx hb d_M_compare_30 (lv_at hl 0 rfl) ?_
          refine lv_iadd hx hb d_M_compare_32 (tpi (y := nI (b + j)) (nI_add (b) (j)) ?_)
          refine nbld (f := x.tape) hx hb hK hP 1 0 rfl rfl (b + j) (by omega) (by decide) d_M_compare_33 ?_
          refine lv_icmp_eq hx hb d_M_compare_34 (tgt := 57) rfl (fun g3 => ?_) (fun g3 => ?_)
          · have g3 := g3
            refine lv_iinc (k := 0) (v := nI (j + 1)) hx hb d_M_compare_57 hl rfl (iincN (j) 1 1 (by decide)) (by decide) rfl (fun ls hl => ?_)
            have hl : lv_has ls 6 [(5, .int (nI (j + 1))), (4, .int (nI k)), (3, .int (nI b)), (2, .int (nI n)), (1, .int (nI a)), (0, .ref h)] := hl
            refine lv_goto hx hb d_M_compare_60 (tgt := 3) rfl ?_
            exact ih3 _ (by omega) (j + 1) (by omega) (by rw [← i2, cmpG_s (w := n + 1 - j) (by omega) (by omega) (by omega) (by assumption), show n + 1 - j - 1 = n + 1 - (j + 1) by omega]) rfl H _ ls hP hD hS (lv_sub hl [0, 1, 2, 3, 4, 5] rfl)
          · have g3 := g3
            refine lv_aload_n hx hb d_M_compare_37 rfl (lv_at hl 5 rfl) ?_
            refine gF (v := .ref (ad 1)) hx hb hown hE hK hP 0 rfl rfl layM 1 (by decide) w497 rfl d_M_compare_38 ?_
            refine lv_iload_n hx hb d_M_compare_41 rfl (lv_at hl 4 rfl) ?_
            refine lv_iload hx hb d_M_compare_42 (lv_at hl 0 rfl) ?_
            refine lv_iadd hx hb d_M_compare_44 (tpi (y := nI (a + j)) (nI_add (a) (j)) ?_)
            refine nbld (f := x.tape) hx hb hK hP 1 0 rfl rfl (a + j) (by omega) (by decide) d_M_compare_45 ?_
            refine lv_aload_n hx hb d_M_compare_46 rfl (lv_at hl 5 rfl) ?_
            refine gF (v := .ref (ad 1)) hx hb hown hE hK hP 0 rfl rfl layM 1 (by decide) w497 rfl d_M_compare_47 ?_
            refine lv_iload_n hx hb d_M_compare_50 rfl (lv_at hl 2 rfl) ?_
            refine lv_iload hx hb d_M_compare_51 (lv_at hl 0 rfl) ?_
            refine lv_iadd hx hb d_M_compare_53 (tpi (y := nI (b + j)) (nI_add (b) (j)) ?_)
            refine nbld (f := x.tape) hx hb hK hP 1 0 rfl rfl (b + j) (by omega) (by decide) d_M_compare_54 ?_
            refine lv_isub hx hb d_M_compare_55 ?_
            exact rfI hx hb hr hlk hS () (by rw [← i2]; first | rw [cmpG_n (Or.inl (by assumption))] | rw [cmpG_n (Or.inr (by assumption))] | rw [cmpG_d (by omega) (by omega) (by omega) (by assumption)]) hP hD (Nat.le_of_ble_eq_true rfl) (Nat.le_of_ble_eq_true rfl) d_M_compare_56
  exact L3 _ 0 (by omega) rfl rfl H _ ls hP hD hS (lv_sub hl [0, 5, 4, 3, 2, 1] rfl)
theorem d_M_blocksOf_0 : decode prog_14_method_40_code 0 = .ok (.lload_n 0, 1) := by decide +kernel
theorem d_M_blocksOf_1 : decode prog_14_method_40_code 1 = .ok (.ldc2_w 311, 3) := by decide +kernel
theorem d_M_blocksOf_4 : decode prog_14_method_40_code 4 = .ok (.ladd, 1) := by decide +kernel
theorem d_M_blocksOf_5 : decode prog_14_method_40_code 5 = .ok (.ldc2_w 313, 3) := by decide +kernel
theorem d_M_blocksOf_8 : decode prog_14_method_40_code 8 = .ok (.ldiv, 1) := by decide +kernel
theorem d_M_blocksOf_9 : decode prog_14_method_40_code 9 = .ok (.l2i, 1) := by decide +kernel
theorem d_M_blocksOf_10 : decode prog_14_method_40_code 10 = .ok (.ireturn, 1) := by decide +kernel
theorem w873 : Cond.constantLong "SeriesVaultModel" 311 32255 ∈ aW := aw_of (tb_10 (List.mem_of_getElem? (i := 91) rfl)) rfl
theorem w874 : Cond.constantLong "SeriesVaultModel" 313 32256 ∈ aW := aw_of (tb_10 (List.mem_of_getElem? (i := 92) rfl)) rfl
set_option maxHeartbeats 4000000 in
set_option maxRecDepth 100000 in
theorem k_blocksOf (l : Launch) (D : va_G) (dA : Nat → ClassId) (sz : Nat) (v : Int64) : Met l ⟨"SeriesVaultModel", "blocksOf", "(J)I"⟩ [Cond.code ⟨"SeriesVaultModel", "blocksOf", "(J)I"⟩ prog_14_method_40_code 2 (some FieldType.int)] { frames := 1, cells := 0, slots := 0, locals := 0 } (pC D dA [.long v] ([]) sz) (va_Qi (fun (r9 : Int32) (u9 : Unit) => r9 = ((v + 32255) / 32256).toInt32) (fun (u9 : Unit) t9 => bW D (va_A ([]) sz) ([]) t9) (va_A ([]) sz)) 0 0 (va_A ([]) sz) := by
  refine mkC (y := ⟨"SeriesVaultModel", "blocksOf", "(J)I"⟩) (cc := prog_14_method_40_code) (maxL := 2) (av := [.long v]) (ws := []) (sz := sz) (Qc := fun A => va_Qi (fun (r9 : Int32) (u9 : Unit) => r9 = ((v + 32255) / 32256).toInt32) (fun (u9 : Unit) t9 => bW D A ([]) t9) A) (by decide) (Nat.le_of_ble_eq_true rfl) ?_
  intro A p e s m below meth c ls hsz hB
  obtain ⟨hx, hb, hr, hml, hown, hin, hlk, hE, hK, hP, hD, hS, hA, hN, hl⟩ := hB
  have hown : s.vm.findClass "SeriesVaultModel" = some m.cls := hown
  have hl : lv_has ls 2 [(0, .long v)] := hl
  obtain ⟨H, hH⟩ : ∃ z, z = s.heap := ⟨_, rfl⟩
  have hP : va_P D vwCl ([]) H := by rw [hH]; exact hP
  have hS : va_S A s.heap H [] := by rw [hH]; exact hS
  rw [← hH]
  refine lv_lload_n hx hb d_M_blocksOf_0 rfl (lv_at hl 0 rfl) ?_
  refine lv_ldc2 (v := 32255) hx hb hown (hE.t w873 rfl) d_M_blocksOf_1 ?_
  refine lv_ladd hx hb d_M_blocksOf_4 ?_
  refine lv_ldc2 (v := 32256) hx hb hown (hE.t w874 rfl) d_M_blocksOf_5 ?_
  refine lv_ldiv hx hb d_M_blocksOf_8 (by decide) ?_
  refine lv_l2i hx hb d_M_blocksOf_9 rfl ?_
  exact rfI hx hb hr hlk hS () rfl hP hD (Nat.le_of_ble_eq_true rfl) (Nat.le_of_ble_eq_true rfl) d_M_blocksOf_10
theorem d_M_turnBits_0 : decode prog_14_method_38_code 0 = .ok (.lload_n 0, 1) := by decide +kernel
theorem d_M_turnBits_1 : decode prog_14_method_38_code 1 = .ok (.lconst 0, 1) := by decide +kernel
theorem d_M_turnBits_2 : decode prog_14_method_38_code 2 = .ok (.lcmp, 1) := by decide +kernel
theorem d_M_turnBits_3 : decode prog_14_method_38_code 3 = .ok (.ifCond .ne 7, 3) := by decide +kernel
theorem d_M_turnBits_10 : decode prog_14_method_38_code 10 = .ok (.lload_n 0, 1) := by decide +kernel
theorem d_M_turnBits_11 : decode prog_14_method_38_code 11 = .ok (.ldc2_w 289, 3) := by decide +kernel
theorem d_M_turnBits_14 : decode prog_14_method_38_code 14 = .ok (.lcmp, 1) := by decide +kernel
theorem d_M_turnBits_15 : decode prog_14_method_38_code 15 = .ok (.ifCond .lt 16, 3) := by decide +kernel
theorem d_M_turnBits_31 : decode prog_14_method_38_code 31 = .ok (.lload_n 0, 1) := by decide +kernel
theorem d_M_turnBits_32 : decode prog_14_method_38_code 32 = .ok (.ldc2_w 293, 3) := by decide +kernel
theorem d_M_turnBits_35 : decode prog_14_method_38_code 35 = .ok (.lcmp, 1) := by decide +kernel
theorem d_M_turnBits_36 : decode prog_14_method_38_code 36 = .ok (.ifCond .lt 16, 3) := by decide +kernel
theorem d_M_turnBits_52 : decode prog_14_method_38_code 52 = .ok (.lload_n 0, 1) := by decide +kernel
theorem d_M_turnBits_53 : decode prog_14_method_38_code 53 = .ok (.ldc2_w 297, 3) := by decide +kernel
theorem d_M_turnBits_56 : decode prog_14_method_38_code 56 = .ok (.lcmp, 1) := by decide +kernel
theorem d_M_turnBits_57 : decode prog_14_method_38_code 57 = .ok (.ifCond .lt 16, 3) := by decide +kernel
theorem d_M_turnBits_73 : decode prog_14_method_38_code 73 = .ok (.bipush 45, 2) := by decide +kernel
theorem d_M_turnBits_75 : decode prog_14_method_38_code 75 = .ok (.ireturn, 1) := by decide +kernel
theorem d_M_turnBits_60 : decode prog_14_method_38_code 60 = .ok (.lload_n 0, 1) := by decide +kernel
theorem d_M_turnBits_61 : decode prog_14_method_38_code 61 = .ok (.ldc2_w 299, 3) := by decide +kernel
theorem d_M_turnBits_64 : decode prog_14_method_38_code 64 = .ok (.lcmp, 1) := by decide +kernel
theorem d_M_turnBits_65 : decode prog_14_method_38_code 65 = .ok (.ifCond .gt 8, 3) := by decide +kernel
theorem d_M_turnBits_68 : decode prog_14_method_38_code 68 = .ok (.bipush 17, 2) := by decide +kernel
theorem d_M_turnBits_70 : decode prog_14_method_38_code 70 = .ok (.goto 5, 3) := by decide +kernel
theorem d_M_turnBits_39 : decode prog_14_method_38_code 39 = .ok (.lload_n 0, 1) := by decide +kernel
theorem d_M_turnBits_40 : decode prog_14_method_38_code 40 = .ok (.ldc2_w 295, 3) := by decide +kernel
theorem d_M_turnBits_43 : decode prog_14_method_38_code 43 = .ok (.lcmp, 1) := by decide +kernel
theorem d_M_turnBits_44 : decode prog_14_method_38_code 44 = .ok (.ifCond .gt 8, 3) := by decide +kernel
theorem d_M_turnBits_47 : decode prog_14_method_38_code 47 = .ok (.bipush 13, 2) := by decide +kernel
theorem d_M_turnBits_49 : decode prog_14_method_38_code 49 = .ok (.goto 26, 3) := by decide +kernel
theorem d_M_turnBits_18 : decode prog_14_method_38_code 18 = .ok (.lload_n 0, 1) := by decide +kernel
theorem d_M_turnBits_19 : decode prog_14_method_38_code 19 = .ok (.ldc2_w 291, 3) := by decide +kernel
theorem d_M_turnBits_22 : decode prog_14_method_38_code 22 = .ok (.lcmp, 1) := by decide +kernel
theorem d_M_turnBits_23 : decode prog_14_method_38_code 23 = .ok (.ifCond .gt 8, 3) := by decide +kernel
theorem d_M_turnBits_26 : decode prog_14_method_38_code 26 = .ok (.bipush 9, 2) := by decide +kernel
theorem d_M_turnBits_28 : decode prog_14_method_38_code 28 = .ok (.goto 47, 3) := by decide +kernel
theorem d_M_turnBits_6 : decode prog_14_method_38_code 6 = .ok (.iconst 1, 1) := by decide +kernel
theorem d_M_turnBits_7 : decode prog_14_method_38_code 7 = .ok (.goto 68, 3) := by decide +kernel
theorem w875 : Cond.constantLong "SeriesVaultModel" 289 (-64) ∈ aW := aw_of (tb_10 (List.mem_of_getElem? (i := 80) rfl)) rfl
theorem w876 : Cond.constantLong "SeriesVaultModel" 293 (-512) ∈ aW := aw_of (tb_10 (List.mem_of_getElem? (i := 82) rfl)) rfl
theorem w877 : Cond.constantLong "SeriesVaultModel" 297 (-4096) ∈ aW := aw_of (tb_10 (List.mem_of_getElem? (i := 84) rfl)) rfl
theorem w878 : Cond.constantLong "SeriesVaultModel" 299 4095 ∈ aW := aw_of (tb_10 (List.mem_of_getElem? (i := 85) rfl)) rfl
theorem w879 : Cond.constantLong "SeriesVaultModel" 295 511 ∈ aW := aw_of (tb_10 (List.mem_of_getElem? (i := 83) rfl)) rfl
theorem w880 : Cond.constantLong "SeriesVaultModel" 291 63 ∈ aW := aw_of (tb_10 (List.mem_of_getElem? (i := 81) rfl)) rfl
set_option maxHeartbeats 4000000 in
set_option maxRecDepth 100000 in
theorem k_turnBits (l : Launch) (D : va_G) (dA : Nat → ClassId) (sz : Nat) (v : Int64) : Met l ⟨"SeriesVaultModel", "turnBits", "(J)I"⟩ [Cond.code ⟨"SeriesVaultModel", "turnBits", "(J)I"⟩ prog_14_method_38_code 2 (some FieldType.int)] { frames := 1, cells := 0, slots := 0, locals := 0 } (pC D dA [.long v] ([]) sz) (va_Qi (fun (r9 : Int32) (u9 : Unit) => r9 = nI (tbN v)) (fun (u9 : Unit) t9 => bW D (va_A ([]) sz) ([]) t9) (va_A ([]) sz)) 0 0 (va_A ([]) sz) := by
  refine mkC (y := ⟨"SeriesVaultModel", "turnBits", "(J)I"⟩) (cc := prog_14_method_38_code) (maxL := 2) (av := [.long v]) (ws := []) (sz := sz) (Qc := fun A => va_Qi (fun (r9 : Int32) (u9 : Unit) => r9 = nI (tbN v)) (fun (u9 : Unit) t9 => bW D A ([]) t9) A) (by decide) (Nat.le_of_ble_eq_true rfl) ?_
  intro A p e s m below meth c ls hsz hB
  obtain ⟨hx, hb, hr, hml, hown, hin, hlk, hE, hK, hP, hD, hS, hA, hN, hl⟩ := hB
  have hown : s.vm.findClass "SeriesVaultModel" = some m.cls := hown
  have hl : lv_has ls 2 [(0, .long v)] := hl
  obtain ⟨H, hH⟩ : ∃ z, z = s.heap := ⟨_, rfl⟩
  have hP : va_P D vwCl ([]) H := by rw [hH]; exact hP
  have hS : va_S A s.heap H [] := by rw [hH]; exact hS
  rw [← hH]
  refine lv_lload_n hx hb d_M_turnBits_0 rfl (lv_at hl 0 rfl) ?_
  refine lv_lconst (v := 0) hx hb d_M_turnBits_1 (by decide) ?_
  refine W.lcmp hx hb d_M_turnBits_2 ?_
  refine lv_if_ne hx hb d_M_turnBits_3 (tgt := 10) rfl (fun g1 => ?_) (fun g1 => ?_)
  · have g1 := mt (lg_cmp_eq _ _).mpr g1
    refine lv_lload_n hx hb d_M_turnBits_10 rfl (lv_at hl 0 rfl) ?_
    refine lv_ldc2 (v := (-64)) hx hb hown (hE.t w875 rfl) d_M_turnBits_11 ?_
    refine W.lcmp hx hb d_M_turnBits_14 ?_
    refine lv_if_lt hx hb d_M_turnBits_15 (tgt := 31) rfl (fun g2 => ?_) (fun g2 => ?_)
    · have g2 := (lg_cmp_lt _ _).mp g2
      refine lv_lload_n hx hb d_M_turnBits_31 rfl (lv_at hl 0 rfl) ?_
      refine lv_ldc2 (v := (-512)) hx hb hown (hE.t w876 rfl) d_M_turnBits_32 ?_
      refine W.lcmp hx hb d_M_turnBits_35 ?_
      refine lv_if_lt hx hb d_M_turnBits_36 (tgt := 52) rfl (fun g3 => ?_) (fun g3 => ?_)
      · have g3 := (lg_cmp_lt _ _).mp g3
        refine lv_lload_n hx hb d_M_turnBits_52 rfl (lv_at hl 0 rfl) ?_
        refine lv_ldc2 (v := (-4096)) hx hb hown (hE.t w877 rfl) d_M_turnBits_53 ?_
        refine W.lcmp hx hb d_M_turnBits_56 ?_
        refine lv_if_lt hx hb d_M_turnBits_57 (tgt := 73) rfl (fun g4 => ?_) (fun g4 => ?_)
        · have g4 := (lg_cmp_lt _ _).mp g4
          refine lv_bipush (v := 45) hx hb d_M_turnBits_73 (by decide) ?_
          exact rfI hx hb hr hlk hS () (by rw [← tbI_N]; simp [tbI, *]) hP hD (Nat.le_of_ble_eq_true rfl) (Nat.le_of_ble_eq_true rfl) d_M_turnBits_75
        · have g4 := mt (lg_cmp_lt _ _).mpr g4
          refine lv_lload_n hx hb d_M_turnBits_60 rfl (lv_at hl 0 rfl) ?_
          refine lv_ldc2 (v := 4095) hx hb hown (hE.t w878 rfl) d_M_turnBits_61 ?_
          refine W.lcmp hx hb d_M_turnBits_64 ?_
          refine lv_if_gt hx hb d_M_turnBits_65 (tgt := 73) rfl (fun g5 => ?_) (fun g5 => ?_)
          · have g5 := (lg_cmp_gt _ _).mp g5
            refine lv_bipush (v := 45) hx hb d_M_turnBits_73 (by decide) ?_
            exact rfI hx hb hr hlk hS () (by rw [← tbI_N]; simp [tbI, *]) hP hD (Nat.le_of_ble_eq_true rfl) (Nat.le_of_ble_eq_true rfl) d_M_turnBits_75
          · have g5 := mt (lg_cmp_gt _ _).mpr g5
            refine lv_bipush (v := 17) hx hb d_M_turnBits_68 (by decide) ?_
            refine lv_goto hx hb d_M_turnBits_70 (tgt := 75) rfl ?_
            exact rfI hx hb hr hlk hS () (by rw [← tbI_N]; simp [tbI, *]) hP hD (Nat.le_of_ble_eq_true rfl) (Nat.le_of_ble_eq_true rfl) d_M_turnBits_75
      · have g3 := mt (lg_cmp_lt _ _).mpr g3
        refine lv_lload_n hx hb d_M_turnBits_39 rfl (lv_at hl 0 rfl) ?_
        refine lv_ldc2 (v := 511) hx hb hown (hE.t w879 rfl) d_M_turnBits_40 ?_
        refine W.lcmp hx hb d_M_turnBits_43 ?_
        refine lv_if_gt hx hb d_M_turnBits_44 (tgt := 52) rfl (fun g6 => ?_) (fun g6 => ?_)
        · have g6 := (lg_cmp_gt _ _).mp g6
          refine lv_lload_n hx hb d_M_turnBits_52 rfl (lv_at hl 0 rfl) ?_
          refine lv_ldc2 (v := (-4096)) hx hb hown (hE.t w877 rfl) d_M_turnBits_53 ?_
          refine W.lcmp hx hb d_M_turnBits_56 ?_
          refine lv_if_lt hx hb d_M_turnBits_57 (tgt := 73) rfl (fun g7 => ?_) (fun g7 => ?_)
          · have g7 := (lg_cmp_lt _ _).mp g7
            refine lv_bipush (v := 45) hx hb d_M_turnBits_73 (by decide) ?_
            exact rfI hx hb hr hlk hS () (by rw [← tbI_N]; simp [tbI, *]) hP hD (Nat.le_of_ble_eq_true rfl) (Nat.le_of_ble_eq_true rfl) d_M_turnBits_75
          · have g7 := mt (lg_cmp_lt _ _).mpr g7
            refine lv_lload_n hx hb d_M_turnBits_60 rfl (lv_at hl 0 rfl) ?_
            refine lv_ldc2 (v := 4095) hx hb hown (hE.t w878 rfl) d_M_turnBits_61 ?_
            refine W.lcmp hx hb d_M_turnBits_64 ?_
            refine lv_if_gt hx hb d_M_turnBits_65 (tgt := 73) rfl (fun g8 => ?_) (fun g8 => ?_)
            · have g8 := (lg_cmp_gt _ _).mp g8
              refine lv_bipush (v := 45) hx hb d_M_turnBits_73 (by decide) ?_
              exact rfI hx hb hr hlk hS () (by rw [← tbI_N]; simp [tbI, *]) hP hD (Nat.le_of_ble_eq_true rfl) (Nat.le_of_ble_eq_true rfl) d_M_turnBits_75
            · have g8 := mt (lg_cmp_gt _ _).mpr g8
              refine lv_bipush (v := 17) hx hb d_M_turnBits_68 (by decide) ?_
              refine lv_goto hx hb d_M_turnBits_70 (tgt := 75) rfl ?_
              exact rfI hx hb hr hlk hS () (by rw [← tbI_N]; simp [tbI, *]) hP hD (Nat.le_of_ble_eq_true rfl) (Nat.le_of_ble_eq_true rfl) d_M_turnBits_75
        · have g6 := mt (lg_cmp_gt _ _).mpr g6
          refine lv_bipush (v := 13) hx hb d_M_turnBits_47 (by decide) ?_
          refine lv_goto hx hb d_M_turnBits_49 (tgt := 75) rfl ?_
          exact rfI hx hb hr hlk hS () (by rw [← tbI_N]; simp [tbI, *]) hP hD (Nat.le_of_ble_eq_true rfl) (Nat.le_of_ble_eq_true rfl) d_M_turnBits_75
    · have g2 := mt (lg_cmp_lt _ _).mpr g2
      refine lv_lload_n hx hb d_M_turnBits_18 rfl (lv_at hl 0 rfl) ?_
      refine lv_ldc2 (v := 63) hx hb hown (hE.t w880 rfl) d_M_turnBits_19 ?_
      refine W.lcmp hx hb d_M_turnBits_22 ?_
      refine lv_if_gt hx hb d_M_turnBits_23 (tgt := 31) rfl (fun g9 => ?_) (fun g9 => ?_)
      · have g9 := (lg_cmp_gt _ _).mp g9
        refine lv_lload_n hx hb d_M_turnBits_31 rfl (lv_at hl 0 rfl) ?_
        refine lv_ldc2 (v := (-512)) hx hb hown (hE.t w876 rfl) d_M_turnBits_32 ?_
        refine W.lcmp hx hb d_M_turnBits_35 ?_
        refine lv_if_lt hx hb d_M_turnBits_36 (tgt := 52) rfl (fun g10 => ?_) (fun g10 => ?_)
        · have g10 := (lg_cmp_lt _ _).mp g10
          refine lv_lload_n hx hb d_M_turnBits_52 rfl (lv_at hl 0 rfl) ?_
          refine lv_ldc2 (v := (-4096)) hx hb hown (hE.t w877 rfl) d_M_turnBits_53 ?_
          refine W.lcmp hx hb d_M_turnBits_56 ?_
          refine lv_if_lt hx hb d_M_turnBits_57 (tgt := 73) rfl (fun g11 => ?_) (fun g11 => ?_)
          · have g11 := (lg_cmp_lt _ _).mp g11
            refine lv_bipush (v := 45) hx hb d_M_turnBits_73 (by decide) ?_
            exact rfI hx hb hr hlk hS () (by rw [← tbI_N]; simp [tbI, *]) hP hD (Nat.le_of_ble_eq_true rfl) (Nat.le_of_ble_eq_true rfl) d_M_turnBits_75
          · have g11 := mt (lg_cmp_lt _ _).mpr g11
            refine lv_lload_n hx hb d_M_turnBits_60 rfl (lv_at hl 0 rfl) ?_
            refine lv_ldc2 (v := 4095) hx hb hown (hE.t w878 rfl) d_M_turnBits_61 ?_
            refine W.lcmp hx hb d_M_turnBits_64 ?_
            refine lv_if_gt hx hb d_M_turnBits_65 (tgt := 73) rfl (fun g12 => ?_) (fun g12 => ?_)
            · have g12 := (lg_cmp_gt _ _).mp g12
              refine lv_bipush (v := 45) hx hb d_M_turnBits_73 (by decide) ?_
              exact rfI hx hb hr hlk hS () (by rw [← tbI_N]; simp [tbI, *]) hP hD (Nat.le_of_ble_eq_true rfl) (Nat.le_of_ble_eq_true rfl) d_M_turnBits_75
            · have g12 := mt (lg_cmp_gt _ _).mpr g12
              refine lv_bipush (v := 17) hx hb d_M_turnBits_68 (by decide) ?_
              refine lv_goto hx hb d_M_turnBits_70 (tgt := 75) rfl ?_
              exact rfI hx hb hr hlk hS () (by rw [← tbI_N]; simp [tbI, *]) hP hD (Nat.le_of_ble_eq_true rfl) (Nat.le_of_ble_eq_true rfl) d_M_turnBits_75
        · have g10 := mt (lg_cmp_lt _ _).mpr g10
          refine lv_lload_n hx hb d_M_turnBits_39 rfl (lv_at hl 0 rfl) ?_
          refine lv_ldc2 (v := 511) hx hb hown (hE.t w879 rfl) d_M_turnBits_40 ?_
          refine W.lcmp hx hb d_M_turnBits_43 ?_
          refine lv_if_gt hx hb d_M_turnBits_44 (tgt := 52) rfl (fun g13 => ?_) (fun g13 => ?_)
          · have g13 := (lg_cmp_gt _ _).mp g13
            refine lv_lload_n hx hb d_M_turnBits_52 rfl (lv_at hl 0 rfl) ?_
            refine lv_ldc2 (v := (-4096)) hx hb hown (hE.t w877 rfl) d_M_turnBits_53 ?_
            refine W.lcmp hx hb d_M_turnBits_56 ?_
            refine lv_if_lt hx hb d_M_turnBits_57 (tgt := 73) rfl (fun g14 => ?_) (fun g14 => ?_)
            · have g14 := (lg_cmp_lt _ _).mp g14
              refine lv_bipush (v := 45) hx hb d_M_turnBits_73 (by decide) ?_
              exact rfI hx hb hr hlk hS () (by rw [← tbI_N]; simp [tbI, *]) hP hD (Nat.le_of_ble_eq_true rfl) (Nat.le_of_ble_eq_true rfl) d_M_turnBits_75
            · have g14 := mt (lg_cmp_lt _ _).mpr g14
              refine lv_lload_n hx hb d_M_turnBits_60 rfl (lv_at hl 0 rfl) ?_
              refine lv_ldc2 (v := 4095) hx hb hown (hE.t w878 rfl) d_M_turnBits_61 ?_
              refine W.lcmp hx hb d_M_turnBits_64 ?_
              refine lv_if_gt hx hb d_M_turnBits_65 (tgt := 73) rfl (fun g15 => ?_) (fun g15 => ?_)
              · have g15 := (lg_cmp_gt _ _).mp g15
                refine lv_bipush (v := 45) hx hb d_M_turnBits_73 (by decide) ?_
                exact rfI hx hb hr hlk hS () (by rw [← tbI_N]; simp [tbI, *]) hP hD (Nat.le_of_ble_eq_true rfl) (Nat.le_of_ble_eq_true rfl) d_M_turnBits_75
              · have g15 := mt (lg_cmp_gt _ _).mpr g15
                refine lv_bipush (v := 17) hx hb d_M_turnBits_68 (by decide) ?_
                refine lv_goto hx hb d_M_turnBits_70 (tgt := 75) rfl ?_
                exact rfI hx hb hr hlk hS () (by rw [← tbI_N]; simp [tbI, *]) hP hD (Nat.le_of_ble_eq_true rfl) (Nat.le_of_ble_eq_true rfl) d_M_turnBits_75
          · have g13 := mt (lg_cmp_gt _ _).mpr g13
            refine lv_bipush (v := 13) hx hb d_M_turnBits_47 (by decide) ?_
            refine lv_goto hx hb d_M_turnBits_49 (tgt := 75) rfl ?_
            exact rfI hx hb hr hlk hS () (by rw [← tbI_N]; simp [tbI, *]) hP hD (Nat.le_of_ble_eq_true rfl) (Nat.le_of_ble_eq_true rfl) d_M_turnBits_75
      · have g9 := mt (lg_cmp_gt _ _).mpr g9
        refine lv_bipush (v := 9) hx hb d_M_turnBits_26 (by decide) ?_
        refine lv_goto hx hb d_M_turnBits_28 (tgt := 75) rfl ?_
        exact rfI hx hb hr hlk hS () (by rw [← tbI_N]; simp [tbI, *]) hP hD (Nat.le_of_ble_eq_true rfl) (Nat.le_of_ble_eq_true rfl) d_M_turnBits_75
  · have g1 := (lg_cmp_eq _ _).mp g1
    refine lv_iconst (v := 1) hx hb d_M_turnBits_6 (by decide) ?_
    refine lv_goto hx hb d_M_turnBits_7 (tgt := 75) rfl ?_
    exact rfI hx hb hr hlk hS () (by rw [← tbI_N]; simp [tbI, *]) hP hD (Nat.le_of_ble_eq_true rfl) (Nat.le_of_ble_eq_true rfl) d_M_turnBits_75
theorem d_M_catalogSize_0 : decode prog_14_method_41_code 0 = .ok (.aload_n 0, 1) := by decide +kernel
theorem d_M_catalogSize_1 : decode prog_14_method_41_code 1 = .ok (.getfield 160, 3) := by decide +kernel
theorem d_M_catalogSize_12 : decode prog_14_method_41_code 12 = .ok (.istore_n 1, 1) := by decide +kernel
theorem d_M_catalogSize_13 : decode prog_14_method_41_code 13 = .ok (.bipush 126, 2) := by decide +kernel
theorem d_M_catalogSize_15 : decode prog_14_method_41_code 15 = .ok (.istore_n 2, 1) := by decide +kernel
theorem d_M_catalogSize_16 : decode prog_14_method_41_code 16 = .ok (.iconst 0, 1) := by decide +kernel
theorem d_M_catalogSize_17 : decode prog_14_method_41_code 17 = .ok (.istore_n 3, 1) := by decide +kernel
theorem d_M_catalogSize_18 : decode prog_14_method_41_code 18 = .ok (.iload_n 3, 1) := by decide +kernel
theorem d_M_catalogSize_19 : decode prog_14_method_41_code 19 = .ok (.aload_n 0, 1) := by decide +kernel
theorem d_M_catalogSize_20 : decode prog_14_method_41_code 20 = .ok (.getfield 160, 3) := by decide +kernel
theorem d_M_catalogSize_23 : decode prog_14_method_41_code 23 = .ok (.if_icmp .ge 53, 3) := by decide +kernel
theorem d_M_catalogSize_76 : decode prog_14_method_41_code 76 = .ok (.iload_n 1, 1) := by decide +kernel
theorem d_M_catalogSize_77 : decode prog_14_method_41_code 77 = .ok (.ireturn, 1) := by decide +kernel
theorem d_M_catalogSize_26 : decode prog_14_method_41_code 26 = .ok (.aload_n 0, 1) := by decide +kernel
theorem d_M_catalogSize_27 : decode prog_14_method_41_code 27 = .ok (.getfield 32, 3) := by decide +kernel
theorem d_M_catalogSize_30 : decode prog_14_method_41_code 30 = .ok (.iload_n 3, 1) := by decide +kernel
theorem d_M_catalogSize_31 : decode prog_14_method_41_code 31 = .ok (.iaload, 1) := by decide +kernel
theorem d_M_catalogSize_32 : decode prog_14_method_41_code 32 = .ok (.invokestatic 244, 3) := by decide +kernel
theorem d_M_catalogSize_35 : decode prog_14_method_41_code 35 = .ok (.istore 4, 2) := by decide +kernel
theorem d_M_catalogSize_37 : decode prog_14_method_41_code 37 = .ok (.iload_n 1, 1) := by decide +kernel
theorem d_M_catalogSize_38 : decode prog_14_method_41_code 38 = .ok (.iload 4, 2) := by decide +kernel
theorem d_M_catalogSize_40 : decode prog_14_method_41_code 40 = .ok (.iload_n 2, 1) := by decide +kernel
theorem d_M_catalogSize_41 : decode prog_14_method_41_code 41 = .ok (.if_icmp .le 7, 3) := by decide +kernel
theorem d_M_catalogSize_48 : decode prog_14_method_41_code 48 = .ok (.iconst 0, 1) := by decide +kernel
theorem d_M_catalogSize_49 : decode prog_14_method_41_code 49 = .ok (.iadd, 1) := by decide +kernel
theorem d_M_catalogSize_50 : decode prog_14_method_41_code 50 = .ok (.istore_n 1, 1) := by decide +kernel
theorem d_M_catalogSize_51 : decode prog_14_method_41_code 51 = .ok (.iload 4, 2) := by decide +kernel
theorem d_M_catalogSize_53 : decode prog_14_method_41_code 53 = .ok (.iload_n 2, 1) := by decide +kernel
theorem d_M_catalogSize_54 : decode prog_14_method_41_code 54 = .ok (.if_icmp .le 11, 3) := by decide +kernel
theorem d_M_catalogSize_65 : decode prog_14_method_41_code 65 = .ok (.iload_n 2, 1) := by decide +kernel
theorem d_M_catalogSize_66 : decode prog_14_method_41_code 66 = .ok (.iload 4, 2) := by decide +kernel
theorem d_M_catalogSize_68 : decode prog_14_method_41_code 68 = .ok (.isub, 1) := by decide +kernel
theorem d_M_catalogSize_69 : decode prog_14_method_41_code 69 = .ok (.istore_n 2, 1) := by decide +kernel
theorem d_M_catalogSize_70 : decode prog_14_method_41_code 70 = .ok (.iinc 3 1, 3) := by decide +kernel
theorem d_M_catalogSize_73 : decode prog_14_method_41_code 73 = .ok (.goto (-55), 3) := by decide +kernel
theorem d_M_catalogSize_44 : decode prog_14_method_41_code 44 = .ok (.iconst 1, 1) := by decide +kernel
theorem d_M_catalogSize_45 : decode prog_14_method_41_code 45 = .ok (.goto 4, 3) := by decide +kernel
theorem d_M_catalogSize_57 : decode prog_14_method_41_code 57 = .ok (.bipush 126, 2) := by decide +kernel
theorem d_M_catalogSize_59 : decode prog_14_method_41_code 59 = .ok (.iload 4, 2) := by decide +kernel
theorem d_M_catalogSize_61 : decode prog_14_method_41_code 61 = .ok (.isub, 1) := by decide +kernel
theorem d_M_catalogSize_62 : decode prog_14_method_41_code 62 = .ok (.goto 7, 3) := by decide +kernel
theorem d_M_catalogSize_4 : decode prog_14_method_41_code 4 = .ok (.ifCond .le 7, 3) := by decide +kernel
theorem d_M_catalogSize_11 : decode prog_14_method_41_code 11 = .ok (.iconst 0, 1) := by decide +kernel
theorem d_M_catalogSize_7 : decode prog_14_method_41_code 7 = .ok (.iconst 1, 1) := by decide +kernel
theorem d_M_catalogSize_8 : decode prog_14_method_41_code 8 = .ok (.goto 4, 3) := by decide +kernel
theorem w881 : Cond.methodLink "SeriesVaultModel" 244 ⟨"SeriesVaultModel", "unitsOf", "(I)I"⟩ ∈ aW := aw_of (tb_9 (List.mem_of_getElem? (i := 223) rfl)) rfl
theorem w882 : Cond.code ⟨"SeriesVaultModel", "unitsOf", "(I)I"⟩ prog_14_method_27_code 1 (some FieldType.int) ∈ aW := aw_of (tb_9 (List.mem_of_getElem? (i := 225) rfl)) rfl
theorem w883 : Cond.static ⟨"SeriesVaultModel", "unitsOf", "(I)I"⟩ ∈ aW := aw_of (tb_9 (List.mem_of_getElem? (i := 224) rfl)) rfl
set_option maxHeartbeats 4000000 in
set_option maxRecDepth 100000 in
theorem k_catalogSize (l : Launch) (D : va_G) (dA : Nat → ClassId) (sz : Nat) (h : Nat) (ad : Nat → Nat) (x : MS) (h1 : x.seriesCount ≤ 256) (h2 : ∀ q : Nat, q < x.seriesCount → x.textLengths q ≤ 304) : Met l ⟨"SeriesVaultModel", "catalogSize", "()I"⟩ [Cond.code ⟨"SeriesVaultModel", "catalogSize", "()I"⟩ prog_14_method_41_code 5 (some FieldType.int)] { frames := 2, cells := 0, slots := 0, locals := 20 } (pC D dA [.ref h] (MW dA h ad x) sz) (va_Qi (fun (r9 : Int32) (u9 : Unit) => r9 = nI x.catN) (fun (u9 : Unit) t9 => bW D (va_A (MW dA h ad x) sz) (MW dA h ad x) t9) (va_A (MW dA h ad x) sz)) 0 0 (va_A (MW dA h ad x) sz) := by
  refine mkC (y := ⟨"SeriesVaultModel", "catalogSize", "()I"⟩) (cc := prog_14_method_41_code) (maxL := 5) (av := [.ref h]) (ws := MW dA h ad x) (sz := sz) (Qc := fun A => va_Qi (fun (r9 : Int32) (u9 : Unit) => r9 = nI x.catN) (fun (u9 : Unit) t9 => bW D A (MW dA h ad x) t9) A) (by decide) (Nat.le_of_ble_eq_true rfl) ?_
  intro A p e s m below meth c ls hsz hB
  obtain ⟨hx, hb, hr, hml, hown, hin, hlk, hE, hK, hP, hD, hS, hA, hN, hl⟩ := hB
  have hown : s.vm.findClass "SeriesVaultModel" = some m.cls := hown
  have hl : lv_has ls 5 [(0, .ref h)] := hl
  obtain ⟨H, hH⟩ : ∃ z, z = s.heap := ⟨_, rfl⟩
  have hP : va_P D vwCl (MW dA h ad x) H := by rw [hH]; exact hP
  have hS : va_S A s.heap H [] := by rw [hH]; exact hS
  rw [← hH]
  refine lv_aload_n hx hb d_M_catalogSize_0 rfl (lv_at hl 0 rfl) ?_
  refine gF (v := .int (nI x.seriesCount)) hx hb hown hE hK hP 0 rfl rfl layM 12 (by decide) w332 rfl d_M_catalogSize_1 ?_
  have J12 : ∀ (v : Nat) (j1 : (if 0 < x.seriesCount then 1 else 0) = v) (j2 : v ≤ 1), ∀ (H : Heap) (locs : List Loc) (ls : Array Slot) (hP : va_P D vwCl (MW dA h ad x) H) (hD : va_D A (MW dA h ad x)) (hS : va_S A s.heap H locs) (hl : lv_has ls 5 [(0, .ref h)]), W p l e ({ frames := 2, cells := 0, slots := 0, locals := 20 } : Room) s m ([.ref h] : List Value).toArray below meth c H locs 0 0 (MQ below (va_Qi (fun (r9 : Int32) (u9 : Unit) => r9 = nI x.catN) (fun (u9 : Unit) t9 => bW D A (MW dA h ad x) t9) A) ([.ref h] : List Value).toArray s 0 0 A) (F0 m 12 ls [.int (nI v)]) := by
    intro v j1 j2 H locs ls hP hD hS hl
    refine lv_istore_n hx hb d_M_catalogSize_12 rfl hl (by decide) rfl (fun ls hl => ?_)
    have hl : lv_has ls 5 [(1, .int (nI v)), (0, .ref h)] := hl
    refine lv_bipush (v := 126) hx hb d_M_catalogSize_13 (by decide) ?_
    refine lv_istore_n hx hb d_M_catalogSize_15 rfl hl (by decide) rfl (fun ls hl => ?_)
    have hl : lv_has ls 5 [(2, .int 126), (1, .int (nI v)), (0, .ref h)] := hl
    refine lv_iconst (v := 0) hx hb d_M_catalogSize_16 (by decide) ?_
    refine lv_istore_n hx hb d_M_catalogSize_17 rfl hl (by decide) rfl (fun ls hl => ?_)
    have hl : lv_has ls 5 [(3, .int 0), (2, .int 126), (1, .int (nI v)), (0, .ref h)] := hl
    have L18 : ∀ (k9 : Nat) (k : Nat) (n : Nat) (r : Nat) (i1 : k ≤ x.seriesCount) (i2 : catS x.textLengths v k = (n, r)) (i3 : r ≤ 126) (i4 : n ≤ 1 + k) (hk9 : x.seriesCount - k = k9), ∀ (H : Heap) (locs : List Loc) (ls : Array Slot) (hP : va_P D vwCl (MW dA h ad x) H) (hD : va_D A (MW dA h ad x)) (hS : va_S A s.heap H locs) (hl : lv_has ls 5 [(3, .int (nI k)), (2, .int (nI r)), (1, .int (nI n)), (0, .ref h)]), W p l e ({ frames := 2, cells := 0, slots := 0, locals := 20 } : Room) s m ([.ref h] : List Value).toArray below meth c H locs 0 0 (MQ below (va_Qi (fun (r9 : Int32) (u9 : Unit) => r9 = nI x.catN) (fun (u9 : Unit) t9 => bW D A (MW dA h ad x) t9) A) ([.ref h] : List Value).toArray s 0 0 A) (F0 m 18 ls []) := by
      intro k9
      induction k9 using Nat.strongRecOn with
      | ind k9 ih18 =>
        intro k n r i1 i2 i3 i4 hk9 H locs ls hP hD hS hl
        refine lv_iload_n hx hb d_M_catalogSize_18 rfl (lv_at hl 0 rfl) ?_
        refine lv_aload_n hx hb d_M_catalogSize_19 rfl (lv_at hl 3 rfl) ?_
        refine gF (v := .int (nI x.seriesCount)) hx hb hown hE hK hP 0 rfl rfl layM 12 (by decide) w332 rfl d_M_catalogSize_20 ?_
        refine lv_icmp_ge hx hb d_M_catalogSize_23 (tgt := 76) rfl (fun g1 => ?_) (fun g1 => ?_)
        · have g1 := (nI_leI (a := x.seriesCount) (b := k) (by omega) (by omega)).mp g1
          refine lv_iload_n hx hb d_M_catalogSize_76 rfl (lv_at hl 2 rfl) ?_
          exact rfI hx hb hr hlk hS () (by unfold MS.catN; rw [j1, ← show k = x.seriesCount by omega, i2]) hP hD (Nat.le_of_ble_eq_true rfl) (Nat.le_of_ble_eq_true rfl) d_M_catalogSize_77
        · have g1 := mt (nI_leI (a := x.seriesCount) (b := k) (by omega) (by omega)).mpr g1
          refine lv_aload_n hx hb d_M_catalogSize_26 rfl (lv_at hl 3 rfl) ?_
          refine gF (v := .ref (ad 11)) hx hb hown hE hK hP 0 rfl rfl layM 11 (by decide) w500 rfl d_M_catalogSize_27 ?_
          refine lv_iload_n hx hb d_M_catalogSize_30 rfl (lv_at hl 0 rfl) ?_
          refine nild (f := (fun z9 => nI (x.textLengths z9))) hx hb hK hP 3 1 rfl rfl (k) (by omega) (by decide) d_M_catalogSize_31 ?_
          have b1 := h2 k (by omega)
          have hPc := hP.sub (ws' := []) [] rfl
          have hDc := hD.sub (ws' := []) [] (by decide) rfl
          refine jnI (rnS (As := [.int (nI (x.textLengths k))]) (rest := []) hx hb hml hown hE hK (hN _ _ hS) hPc hDc (k_unitsOf l D dA H.size (x.textLengths k) (show (x.textLengths k) ≤ 65536 from by omega)) w882 w881 w883 w328 rfl rfl ⟨⟨by decide, by decide⟩, rfl⟩ ⟨(Nat.le_of_ble_eq_true rfl), (Nat.le_of_ble_eq_true rfl)⟩ rfl hl.1 rfl (Nat.le_of_ble_eq_true rfl) d_M_catalogSize_32 ⟨(Nat.le_of_ble_eq_true rfl), (Nat.le_of_ble_eq_true rfl)⟩) hP hD hS hA [] [0, 1, 2, 3, 4, 5, 6, 7, 8, 9, 10, 11, 12, 13, 14, 15, 16, 17, 18, 19, 20, 21, 22, 23, 24, 25, 26, 27, 28, 29, 30, 31, 32, 33, 34, 35, 36, 37, 38] (wr := MW dA h ad x) rfl rfl (by decide) (by decide) (fun r2 u9 H locs hp9 hP hD hS => ?_)
          have hP : va_P D vwCl (MW dA h ad x) H := hP
          have hD : va_D A (MW dA h ad x) := hD
          replace hp9 : nI (1 + ((x.textLengths k) + 31) / 32) = r2 := Eq.symm hp9
          subst hp9
          refine lv_istore hx hb d_M_catalogSize_35 hl (by decide) rfl (fun ls hl => ?_)
          have hl : lv_has ls 5 [(4, .int (nI (1 + ((x.textLengths k) + 31) / 32))), (3, .int (nI k)), (2, .int (nI r)), (1, .int (nI n)), (0, .ref h)] := hl
          refine lv_iload_n hx hb d_M_catalogSize_37 rfl (lv_at hl 3 rfl) ?_
          refine lv_iload hx hb d_M_catalogSize_38 (lv_at hl 0 rfl) ?_
          refine lv_iload_n hx hb d_M_catalogSize_40 rfl (lv_at hl 2 rfl) ?_
          refine lv_icmp_le hx hb d_M_catalogSize_41 (tgt := 48) rfl (fun g4 => ?_) (fun g4 => ?_)
          · have g4 := (nI_leI (a := 1 + ((x.textLengths k) + 31) / 32) (b := r) (by omega) (by omega)).mp g4
            refine lv_iconst (v := 0) hx hb d_M_catalogSize_48 (by decide) ?_
            refine lv_iadd hx hb d_M_catalogSize_49 (tpi (y := nI (n)) (nI_add (n) (0)) ?_)
            refine lv_istore_n hx hb d_M_catalogSize_50 rfl hl (by decide) rfl (fun ls hl => ?_)
            have hl : lv_has ls 5 [(1, .int (nI (n))), (4, .int (nI (1 + ((x.textLengths k) + 31) / 32))), (3, .int (nI k)), (2, .int (nI r)), (0, .ref h)] := hl
            refine lv_iload hx hb d_M_catalogSize_51 (lv_at hl 1 rfl) ?_
            refine lv_iload_n hx hb d_M_catalogSize_53 rfl (lv_at hl 3 rfl) ?_
            refine lv_icmp_le hx hb d_M_catalogSize_54 (tgt := 65) rfl (fun _ => ?_) (fun h9 => absurd ((nI_leI (a := 1 + ((x.textLengths k) + 31) / 32) (b := r) (by omega) (by omega)).mpr g4) h9)
            refine lv_iload_n hx hb d_M_catalogSize_65 rfl (lv_at hl 3 rfl) ?_
            refine lv_iload hx hb d_M_catalogSize_66 (lv_at hl 1 rfl) ?_
            refine lv_isub hx hb d_M_catalogSize_68 (tpi (y := nI (r - (1 + ((x.textLengths k) + 31) / 32))) (pk_sub (a := r) (b := 1 + ((x.textLengths k) + 31) / 32) (by omega)) ?_)
            refine lv_istore_n hx hb d_M_catalogSize_69 rfl hl (by decide) rfl (fun ls hl => ?_)
            have hl : lv_has ls 5 [(2, .int (nI (r - (1 + ((x.textLengths k) + 31) / 32)))), (1, .int (nI (n))), (4, .int (nI (1 + ((x.textLengths k) + 31) / 32))), (3, .int (nI k)), (0, .ref h)] := hl
            refine lv_iinc (k := 3) (v := nI (k + 1)) hx hb d_M_catalogSize_70 hl rfl (iincN (k) 1 1 (by decide)) (by decide) rfl (fun ls hl => ?_)
            have hl : lv_has ls 5 [(3, .int (nI (k + 1))), (2, .int (nI (r - (1 + ((x.textLengths k) + 31) / 32)))), (1, .int (nI (n))), (4, .int (nI (1 + ((x.textLengths k) + 31) / 32))), (0, .ref h)] := hl
            refine lv_goto hx hb d_M_catalogSize_73 (tgt := 18) rfl ?_
            exact ih18 _ (by omega) (k + 1) n (r - (1 + ((x.textLengths k) + 31) / 32)) (by omega) (by first | exact catS_t i2 (by omega) | exact catS_f i2 (by omega)) (by omega) (by omega) rfl H _ ls hP hD hS (lv_sub hl [0, 1, 2, 4] rfl)
          · have g4 := mt (nI_leI (a := 1 + ((x.textLengths k) + 31) / 32) (b := r) (by omega) (by omega)).mpr g4
            refine lv_iconst (v := 1) hx hb d_M_catalogSize_44 (by decide) ?_
            refine lv_goto hx hb d_M_catalogSize_45 (tgt := 49) rfl ?_
            refine lv_iadd hx hb d_M_catalogSize_49 (tpi (y := nI (n + 1)) (nI_add (n) (1)) ?_)
            refine lv_istore_n hx hb d_M_catalogSize_50 rfl hl (by decide) rfl (fun ls hl => ?_)
            have hl : lv_has ls 5 [(1, .int (nI (n + 1))), (4, .int (nI (1 + ((x.textLengths k) + 31) / 32))), (3, .int (nI k)), (2, .int (nI r)), (0, .ref h)] := hl
            refine lv_iload hx hb d_M_catalogSize_51 (lv_at hl 1 rfl) ?_
            refine lv_iload_n hx hb d_M_catalogSize_53 rfl (lv_at hl 3 rfl) ?_
            refine lv_icmp_le hx hb d_M_catalogSize_54 (tgt := 65) rfl (fun h9 => absurd h9 (mt (nI_leI (a := 1 + ((x.textLengths k) + 31) / 32) (b := r) (by omega) (by omega)).mp g4)) (fun _ => ?_)
            refine lv_bipush (v := 126) hx hb d_M_catalogSize_57 (by decide) ?_
            refine lv_iload hx hb d_M_catalogSize_59 (lv_at hl 1 rfl) ?_
            refine lv_isub hx hb d_M_catalogSize_61 (tpi (y := nI (126 - (1 + ((x.textLengths k) + 31) / 32))) (pk_sub (a := 126) (b := 1 + ((x.textLengths k) + 31) / 32) (by omega)) ?_)
            refine lv_goto hx hb d_M_catalogSize_62 (tgt := 69) rfl ?_
            refine lv_istore_n hx hb d_M_catalogSize_69 rfl hl (by decide) rfl (fun ls hl => ?_)
            have hl : lv_has ls 5 [(2, .int (nI (126 - (1 + ((x.textLengths k) + 31) / 32)))), (1, .int (nI (n + 1))), (4, .int (nI (1 + ((x.textLengths k) + 31) / 32))), (3, .int (nI k)), (0, .ref h)] := hl
            refine lv_iinc (k := 3) (v := nI (k + 1)) hx hb d_M_catalogSize_70 hl rfl (iincN (k) 1 1 (by decide)) (by decide) rfl (fun ls hl => ?_)
            have hl : lv_has ls 5 [(3, .int (nI (k + 1))), (2, .int (nI (126 - (1 + ((x.textLengths k) + 31) / 32)))), (1, .int (nI (n + 1))), (4, .int (nI (1 + ((x.textLengths k) + 31) / 32))), (0, .ref h)] := hl
            refine lv_goto hx hb d_M_catalogSize_73 (tgt := 18) rfl ?_
            exact ih18 _ (by omega) (k + 1) (n + 1) (126 - (1 + ((x.textLengths k) + 31) / 32)) (by omega) (by first | exact catS_t i2 (by omega) | exact catS_f i2 (by omega)) (by omega) (by omega) rfl H _ ls hP hD hS (lv_sub hl [0, 1, 2, 4] rfl)
    exact L18 _ 0 v 126 (by omega) rfl (by omega) (by omega) rfl H _ ls hP hD hS (lv_sub hl [0, 1, 2, 3] rfl)
  refine lv_if_le hx hb d_M_catalogSize_4 (tgt := 11) rfl (fun g5 => ?_) (fun g5 => ?_)
  · have g5 := (nI_leI (a := x.seriesCount) (b := 0) (by omega) (by decide)).mp g5
    refine lv_iconst (v := 0) hx hb d_M_catalogSize_11 (by decide) ?_
    exact J12 0 (by simp [*]) (by decide) H _ ls hP hD hS (lv_sub hl [0] rfl)
  · have g5 := mt (nI_leI (a := x.seriesCount) (b := 0) (by omega) (by decide)).mpr g5
    refine lv_iconst (v := 1) hx hb d_M_catalogSize_7 (by decide) ?_
    refine lv_goto hx hb d_M_catalogSize_8 (tgt := 12) rfl ?_
    exact J12 1 (by simp [*]) (by decide) H _ ls hP hD hS (lv_sub hl [0] rfl)
theorem d_M_shown_18 : decode prog_14_method_42_code 18 = .ok (.aload_n 0, 1) := by decide +kernel
theorem d_M_shown_19 : decode prog_14_method_42_code 19 = .ok (.getfield 58, 3) := by decide +kernel
theorem d_M_shown_22 : decode prog_14_method_42_code 22 = .ok (.iload_n 1, 1) := by decide +kernel
theorem d_M_shown_23 : decode prog_14_method_42_code 23 = .ok (.aload_n 0, 1) := by decide +kernel
theorem d_M_shown_24 : decode prog_14_method_42_code 24 = .ok (.getfield 55, 3) := by decide +kernel
theorem d_M_shown_27 : decode prog_14_method_42_code 27 = .ok (.iload_n 1, 1) := by decide +kernel
theorem d_M_shown_28 : decode prog_14_method_42_code 28 = .ok (.iaload, 1) := by decide +kernel
theorem d_M_shown_29 : decode prog_14_method_42_code 29 = .ok (.iastore, 1) := by decide +kernel
theorem d_M_shown_30 : decode prog_14_method_42_code 30 = .ok (.iinc 1 1, 3) := by decide +kernel
theorem d_M_shown_33 : decode prog_14_method_42_code 33 = .ok (.goto (-23), 3) := by decide +kernel
set_option maxHeartbeats 4000000 in
set_option maxRecDepth 100000 in
theorem k_shown (l : Launch) (D : va_G) (dA : Nat → ClassId) (sz : Nat) (h : Nat) (ad : Nat → Nat) (x : MS) (h1 : x.points ≤ 12000) : Met l ⟨"SeriesVaultModel", "shown", "()V"⟩ [Cond.code ⟨"SeriesVaultModel", "shown", "()V"⟩ prog_14_method_42_code 2 none] { frames := 1, cells := 0, slots := 0, locals := 0 } (pC D dA [.ref h] (MW dA h ad x) sz) (va_Qv (fun (u9 : Unit) => True) (fun (u9 : Unit) t9 => bW D (va_A (MW dA h ad x) sz) (MW dA h ad (MS.s_baseHorizon (MS.s_baseHidden x (mapT x.points (fun _ => true) x.hidden x.baseHidden)) x.horizon)) t9) (va_A (MW dA h ad x) sz)) 0 0 (va_A (MW dA h ad x) sz) := by
  refine mkC (y := ⟨"SeriesVaultModel", "shown", "()V"⟩) (cc := prog_14_method_42_code) (maxL := 2) (av := [.ref h]) (ws := MW dA h ad x) (sz := sz) (Qc := fun A => va_Qv (fun (u9 : Unit) => True) (fun (u9 : Unit) t9 => bW D A (MW dA h ad (MS.s_baseHorizon (MS.s_baseHidden x (mapT x.points (fun _ => true) x.hidden x.baseHidden)) x.horizon)) t9) A) (by decide) (Nat.le_of_ble_eq_true rfl) ?_
  intro A p e s m below meth c ls hsz hB
  obtain ⟨hx, hb, hr, hml, hown, hin, hlk, hE, hK, hP, hD, hS, hA, hN, hl⟩ := hB
  have hown : s.vm.findClass "SeriesVaultModel" = some m.cls := hown
  have hl : lv_has ls 2 [(0, .ref h)] := hl
  obtain ⟨H, hH⟩ : ∃ z, z = s.heap := ⟨_, rfl⟩
  have hP : va_P D vwCl (MW dA h ad x) H := by rw [hH]; exact hP
  have hS : va_S A s.heap H [] := by rw [hH]; exact hS
  rw [← hH]
  refine lv_aload_n hx hb d_M_shown_0 rfl (lv_at hl 0 rfl) ?_
  refine lv_aload_n hx hb d_M_shown_1 rfl (lv_at hl 0 rfl) ?_
  refine gF (v := .long x.horizon) hx hb hown hE hK hP 0 rfl rfl layM 24 (by decide) w421 rfl d_M_shown_2 ?_
  refine pF (v := .long x.horizon) hx hb hown hE hK hP hD hS 0 rfl rfl layM tyM tokM nmM 25 (by decide) w422 rfl rfl rfl (Nat.le_of_ble_eq_true rfl) d_M_shown_5 (fun H locs hP hD hS => ?_)
  have hP : va_P D vwCl (MW dA h ad (MS.s_baseHorizon x x.horizon)) H := hP
  have hD : va_D A (MW dA h ad (MS.s_baseHorizon x x.horizon)) := hD
  refine lv_iconst (v := 0) hx hb d_M_shown_8 (by decide) ?_
  refine lv_istore_n hx hb d_M_shown_9 rfl hl (by decide) rfl (fun ls hl => ?_)
  have hl : lv_has ls 2 [(1, .int 0), (0, .ref h)] := hl
  have L10 : ∀ (k9 : Nat) (q : Nat) (i1 : q ≤ x.points) (hk9 : x.points - q = k9), ∀ (H : Heap) (locs : List Loc) (ls : Array Slot) (hP : va_P D vwCl (MW dA h ad (MS.s_baseHorizon (MS.s_baseHidden x (mapT q (fun _ => true) x.hidden x.baseHidden)) x.horizon)) H) (hD : va_D A (MW dA h ad (MS.s_baseHorizon (MS.s_baseHidden x (mapT q (fun _ => true) x.hidden x.baseHidden)) x.horizon))) (hS : va_S A s.heap H locs) (hl : lv_has ls 2 [(1, .int (nI q)), (0, .ref h)]), W p l e ({ frames := 1, cells := 0, slots := 0, locals := 0 } : Room) s m ([.ref h] : List Value).toArray below meth c H locs 0 0 (MQ below (va_Qv (fun (u9 : Unit) => True) (fun (u9 : Unit) t9 => bW D A (MW dA h ad (MS.s_baseHorizon (MS.s_baseHidden x (mapT x.points (fun _ => true) x.hidden x.baseHidden)) x.horizon)) t9) A) ([.ref h] : List Value).toArray s 0 0 A) (F0 m 10 ls []) := by
    intro k9
    induction k9 using Nat.strongRecOn with
    | ind k9 ih10 =>
      intro q i1 hk9 H locs ls hP hD hS hl
      refine lv_iload_n hx hb d_M_shown_10 rfl (lv_at hl 0 rfl) ?_
      refine lv_aload_n hx hb d_M_shown_11 rfl (lv_at hl 1 rfl) ?_
      refine gF (v := .int (nI x.points)) hx hb hown hE hK hP 0 rfl rfl layM 23 (by decide) w420 rfl d_M_shown_12 ?_
      refine lv_icmp_ge hx hb d_M_shown_15 (tgt := 36) rfl (fun g1 => ?_) (fun g1 => ?_)
      · have g1 := (nI_leI (a := x.points) (b := q) (by omega) (by omega)).mp g1
        have e9 : (MS.s_baseHorizon (MS.s_baseHidden x (mapT q (fun _ => true) x.hidden x.baseHidden)) x.horizon : MS) = MS.s_baseHorizon (MS.s_baseHidden x (mapT x.points (fun _ => true) x.hidden x.baseHidden)) x.horizon := by rw [show (mapT x.points (fun _ => true) x.hidden x.baseHidden) = (mapT q (fun _ => true) x.hidden x.baseHidden) from by (rw [show q = x.points by omega])] <;> rfl
        exact rfV hx hb hr hlk hS () trivial (cvP e9 hP) (cvD e9 hD) (Nat.le_of_ble_eq_true rfl) (Nat.le_of_ble_eq_true rfl) d_M_shown_36
      · have g1 := mt (nI_leI (a := x.points) (b := q) (by omega) (by omega)).mpr g1
        refine lv_aload_n hx hb d_M_shown_18 rfl (lv_at hl 1 rfl) ?_
        refine gF (v := .ref (ad 22)) hx hb hown hE hK hP 0 rfl rfl layM 22 (by decide) w508 rfl d_M_shown_19 ?_
        refine lv_iload_n hx hb d_M_shown_22 rfl (lv_at hl 0 rfl) ?_
        refine lv_aload_n hx hb d_M_shown_23 rfl (lv_at hl 1 rfl) ?_
        refine gF (v := .ref (ad 21)) hx hb hown hE hK hP 0 rfl rfl layM 21 (by decide) w507 rfl d_M_shown_24 ?_
        refine lv_iload_n hx hb d_M_shown_27 rfl (lv_at hl 0 rfl) ?_
        refine nild (f := x.hidden) hx hb hK hP 10 1 rfl rfl (q) (by omega) (by decide) d_M_shown_28 ?_
        refine nist hx hb hK hP hD hS 11 1 rfl rfl (q) (by omega) (by decide) d_M_shown_29 (fun H locs hP hD hS => ?_)
        have hP : va_P D vwCl (MW dA h ad (MS.s_baseHorizon (MS.s_baseHidden x (va_up (mapT q (fun _ => true) x.hidden x.baseHidden) q (x.hidden q))) x.horizon)) H := hP
        have hD : va_D A (MW dA h ad (MS.s_baseHorizon (MS.s_baseHidden x (va_up (mapT q (fun _ => true) x.hidden x.baseHidden) q (x.hidden q))) x.horizon)) := hD
        refine lv_iinc (k := 0) (v := nI (q + 1)) hx hb d_M_shown_30 hl rfl (iincN (q) 1 1 (by decide)) (by decide) rfl (fun ls hl => ?_)
        have hl : lv_has ls 2 [(1, .int (nI (q + 1))), (0, .ref h)] := hl
        refine lv_goto hx hb d_M_shown_33 (tgt := 10) rfl ?_
        have e9 : (MS.s_baseHorizon (MS.s_baseHidden x (va_up (mapT q (fun _ => true) x.hidden x.baseHidden) q (x.hidden q))) x.horizon : MS) = MS.s_baseHorizon (MS.s_baseHidden x (mapT (q + 1) (fun _ => true) x.hidden x.baseHidden)) x.horizon := by rw [show (mapT (q + 1) (fun _ => true) x.hidden x.baseHidden) = (va_up (mapT q (fun _ => true) x.hidden x.baseHidden) q (x.hidden q)) from (by first | exact mapT_0 _ _ _ | exact mapT_t rfl rfl)] <;> rfl
        exact ih10 _ (by omega) (q + 1) (by omega) rfl H _ ls (cvP e9 hP) (cvD e9 hD) hS (lv_sub hl [0, 1] rfl)
  have e9 : (MS.s_baseHorizon x x.horizon : MS) = MS.s_baseHorizon (MS.s_baseHidden x (mapT 0 (fun _ => true) x.hidden x.baseHidden)) x.horizon := by rw [show (mapT 0 (fun _ => true) x.hidden x.baseHidden) = x.baseHidden from (by first | exact mapT_0 _ _ _ | exact mapT_t rfl rfl)] <;> rfl
  exact L10 _ 0 (by omega) rfl H _ ls (cvP e9 hP) (cvD e9 hD) hS (lv_sub hl [0, 1] rfl)
theorem d_M_sync_12 : decode prog_14_method_43_code 12 = .ok (.iconst 1, 1) := by decide +kernel
theorem d_M_sync_23 : decode prog_14_method_43_code 23 = .ok (.iconst 0, 1) := by decide +kernel
theorem d_M_sync_24 : decode prog_14_method_43_code 24 = .ok (.ireturn, 1) := by decide +kernel
set_option maxHeartbeats 4000000 in
set_option maxRecDepth 100000 in
theorem k_sync_1 (l : Launch) (D : va_G) (dA : Nat → ClassId) (sz : Nat) (h : Nat) (ad : Nat → Nat) (x : MS) (ho : x.on = false) : Met l ⟨"SeriesVaultModel", "sync", "()Z"⟩ [Cond.code ⟨"SeriesVaultModel", "sync", "()Z"⟩ prog_14_method_43_code 2 (some FieldType.boolean)] { frames := 1, cells := 0, slots := 0, locals := 0 } (pC D dA [.ref h] (MW dA h ad x) sz) (va_Qi (fun (r9 : Int32) (u9 : Unit) => r9 = bI false) (fun (u9 : Unit) t9 => bW D (va_A (MW dA h ad x) sz) (MW dA h ad (MS.s_cod x 1)) t9) (va_A (MW dA h ad x) sz)) 0 0 (va_A (MW dA h ad x) sz) := by
  refine mkC (y := ⟨"SeriesVaultModel", "sync", "()Z"⟩) (cc := prog_14_method_43_code) (maxL := 2) (av := [.ref h]) (ws := MW dA h ad x) (sz := sz) (Qc := fun A => va_Qi (fun (r9 : Int32) (u9 : Unit) => r9 = bI false) (fun (u9 : Unit) t9 => bW D A (MW dA h ad (MS.s_cod x 1)) t9) A) (by decide) (Nat.le_of_ble_eq_true rfl) ?_
  intro A p e s m below meth c ls hsz hB
  obtain ⟨hx, hb, hr, hml, hown, hin, hlk, hE, hK, hP, hD, hS, hA, hN, hl⟩ := hB
  have hown : s.vm.findClass "SeriesVaultModel" = some m.cls := hown
  have hl : lv_has ls 2 [(0, .ref h)] := hl
  obtain ⟨H, hH⟩ : ∃ z, z = s.heap := ⟨_, rfl⟩
  have hP : va_P D vwCl (MW dA h ad x) H := by rw [hH]; exact hP
  have hS : va_S A s.heap H [] := by rw [hH]; exact hS
  rw [← hH]
  refine lv_aload_n hx hb d_M_sync_0 rfl (lv_at hl 0 rfl) ?_
  refine lv_aload_n hx hb d_M_sync_1 rfl (lv_at hl 0 rfl) ?_
  refine gF (v := .int (bI x.on)) hx hb hown hE hK hP 0 rfl rfl layM 7 (by decide) w324 rfl d_M_sync_2 ?_
  refine lv_if_eq hx hb d_M_sync_5 (tgt := 12) rfl (fun _ => ?_) (fun h9 => absurd (by rw [ho]; decide) h9)
  refine lv_iconst (v := 1) hx hb d_M_sync_12 (by decide) ?_
  refine pF (v := .int 1) hx hb hown hE hK hP hD hS 0 rfl rfl layM tyM tokM nmM 0 (by decide) w319 rfl rfl rfl (Nat.le_of_ble_eq_true rfl) d_M_sync_13 (fun H locs hP hD hS => ?_)
  have hP : va_P D vwCl (MW dA h ad (MS.s_cod x 1)) H := hP
  have hD : va_D A (MW dA h ad (MS.s_cod x 1)) := hD
  refine lv_aload_n hx hb d_M_sync_16 rfl (lv_at hl 0 rfl) ?_
  refine gF (v := .int 1) hx hb hown hE hK hP 0 rfl rfl layM 0 (by decide) w319 rfl d_M_sync_17 ?_
  refine lv_if_le hx hb d_M_sync_20 (tgt := 25) rfl (fun h9 => absurd h9 (by decide)) (fun _ => ?_)
  refine lv_iconst (v := 0) hx hb d_M_sync_23 (by decide) ?_
  exact rfZ hx hb hr (bI_nar false) hlk hS () rfl hP hD (Nat.le_of_ble_eq_true rfl) (Nat.le_of_ble_eq_true rfl) d_M_sync_24
theorem d_M_sync_42 : decode prog_14_method_43_code 42 = .ok (.iconst 1, 1) := by decide +kernel
set_option maxHeartbeats 4000000 in
set_option maxRecDepth 100000 in
theorem k_sync_5 (l : Launch) (D : va_G) (dA : Nat → ClassId) (sz : Nat) (h : Nat) (ad : Nat → Nat) (x : MS) (ho : x.on = true) (hf : x.fresh = true) (hc : x.cutLeft = 0) : Met l ⟨"SeriesVaultModel", "sync", "()Z"⟩ [Cond.code ⟨"SeriesVaultModel", "sync", "()Z"⟩ prog_14_method_43_code 2 (some FieldType.boolean)] { frames := 3, cells := 0, slots := 0, locals := 40 } (pC D dA [.ref h] (MW dA h ad x) sz) (va_Qi (fun (r9 : Int32) (u9 : Unit) => r9 = bI false) (fun (u9 : Unit) t9 => bW D (va_A (MW dA h ad x) sz) (MW dA h ad (MS.s_cutLeft (MS.s_on (MS.s_cod x 1) false) (-1))) t9) (va_A (MW dA h ad x) sz)) 0 0 (va_A (MW dA h ad x) sz) := by
  refine mkC (y := ⟨"SeriesVaultModel", "sync", "()Z"⟩) (cc := prog_14_method_43_code) (maxL := 2) (av := [.ref h]) (ws := MW dA h ad x) (sz := sz) (Qc := fun A => va_Qi (fun (r9 : Int32) (u9 : Unit) => r9 = bI false) (fun (u9 : Unit) t9 => bW D A (MW dA h ad (MS.s_cutLeft (MS.s_on (MS.s_cod x 1) false) (-1))) t9) A) (by decide) (Nat.le_of_ble_eq_true rfl) ?_
  intro A p e s m below meth c ls hsz hB
  obtain ⟨hx, hb, hr, hml, hown, hin, hlk, hE, hK, hP, hD, hS, hA, hN, hl⟩ := hB
  have hown : s.vm.findClass "SeriesVaultModel" = some m.cls := hown
  have hl : lv_has ls 2 [(0, .ref h)] := hl
  obtain ⟨H, hH⟩ : ∃ z, z = s.heap := ⟨_, rfl⟩
  have hP : va_P D vwCl (MW dA h ad x) H := by rw [hH]; exact hP
  have hS : va_S A s.heap H [] := by rw [hH]; exact hS
  rw [← hH]
  refine lv_aload_n hx hb d_M_sync_0 rfl (lv_at hl 0 rfl) ?_
  refine lv_aload_n hx hb d_M_sync_1 rfl (lv_at hl 0 rfl) ?_
  refine gF (v := .int (bI x.on)) hx hb hown hE hK hP 0 rfl rfl layM 7 (by decide) w324 rfl d_M_sync_2 ?_
  refine lv_if_eq hx hb d_M_sync_5 (tgt := 12) rfl (fun h9 => absurd h9 (by rw [ho]; decide)) (fun _ => ?_)
  refine lv_iconst (v := 0) hx hb d_M_sync_8 (by decide) ?_
  refine lv_goto hx hb d_M_sync_9 (tgt := 13) rfl ?_
  refine pF (v := .int 0) hx hb hown hE hK hP hD hS 0 rfl rfl layM tyM tokM nmM 0 (by decide) w319 rfl rfl rfl (Nat.le_of_ble_eq_true rfl) d_M_sync_13 (fun H locs hP hD hS => ?_)
  have hP : va_P D vwCl (MW dA h ad (MS.s_cod x 0)) H := hP
  have hD : va_D A (MW dA h ad (MS.s_cod x 0)) := hD
  refine lv_aload_n hx hb d_M_sync_16 rfl (lv_at hl 0 rfl) ?_
  refine gF (v := .int 0) hx hb hown hE hK hP 0 rfl rfl layM 0 (by decide) w319 rfl d_M_sync_17 ?_
  refine lv_if_le hx hb d_M_sync_20 (tgt := 25) rfl (fun _ => ?_) (fun h9 => absurd (by decide) h9)
  refine lv_aload_n hx hb d_M_sync_25 rfl (lv_at hl 0 rfl) ?_
  refine gF (v := .int (bI x.fresh)) hx hb hown hE hK hP 0 rfl rfl layM 41 (by decide) w337 rfl d_M_sync_26 ?_
  refine lv_istore_n hx hb d_M_sync_29 rfl hl (by decide) rfl (fun ls hl => ?_)
  have hl : lv_has ls 2 [(1, .int (bI x.fresh)), (0, .ref h)] := hl
  refine lv_aload_n hx hb d_M_sync_30 rfl (lv_at hl 1 rfl) ?_
  refine lv_aload_n hx hb d_M_sync_31 rfl (lv_at hl 1 rfl) ?_
  refine jfI (rnV (As := []) (rest := [.ref h]) hx hb hml hown hE hK (hN _ _ hS) hP hD (k_synced_x l D dA H.size h ad (MS.s_cod x 0) hf hc) (q0 := 0) rfl rfl w341 w340 w342 w343 w328 rfl rfl ⟨⟨by decide, by decide⟩, rfl⟩ ⟨(Nat.le_of_ble_eq_true rfl), (Nat.le_of_ble_eq_true rfl)⟩ rfl hl.1 rfl (Nat.le_of_ble_eq_true rfl) d_M_sync_32 ⟨(Nat.le_of_ble_eq_true rfl), (Nat.le_of_ble_eq_true rfl)⟩) hP hD hS hA (fun r1 u2 H locs hp9 hP hD hS => ?_)
  have hP : va_P D vwCl (MW dA h ad (MS.s_cutLeft (MS.s_on (MS.s_cod x 0) false) (-1))) H := hP
  have hD : va_D A (MW dA h ad (MS.s_cutLeft (MS.s_on (MS.s_cod x 0) false) (-1))) := hD
  replace hp9 : bI false = r1 := Eq.symm hp9
  subst hp9
  refine lv_if_eq hx hb d_M_sync_35 (tgt := 42) rfl (fun _ => ?_) (fun h9 => absurd (by decide) h9)
  refine lv_iconst (v := 1) hx hb d_M_sync_42 (by decide) ?_
  refine pF (v := .int 1) hx hb hown hE hK hP hD hS 0 rfl rfl layM tyM tokM nmM 0 (by decide) w319 rfl rfl rfl (Nat.le_of_ble_eq_true rfl) d_M_sync_43 (fun H locs hP hD hS => ?_)
  have hP : va_P D vwCl (MW dA h ad (MS.s_cutLeft (MS.s_on (MS.s_cod x 1) false) (-1))) H := hP
  have hD : va_D A (MW dA h ad (MS.s_cutLeft (MS.s_on (MS.s_cod x 1) false) (-1))) := hD
  refine lv_aload_n hx hb d_M_sync_46 rfl (lv_at hl 1 rfl) ?_
  refine gF (v := .int 1) hx hb hown hE hK hP 0 rfl rfl layM 0 (by decide) w319 rfl d_M_sync_47 ?_
  refine lv_if_ne hx hb d_M_sync_50 (tgt := 61) rfl (fun _ => ?_) (fun h9 => absurd h9 (by decide))
  refine lv_iconst (v := 0) hx hb d_M_sync_61 (by decide) ?_
  exact rfZ hx hb hr (bI_nar false) hlk hS () rfl hP hD (Nat.le_of_ble_eq_true rfl) (Nat.le_of_ble_eq_true rfl) d_M_sync_62
set_option maxHeartbeats 4000000 in
set_option maxRecDepth 100000 in
theorem k_sync_0 (l : Launch) (D : va_G) (dA : Nat → ClassId) (sz : Nat) (h : Nat) (ad : Nat → Nat) (x : MS) (ho : x.on = true) (hf : x.fresh = false) : Met l ⟨"SeriesVaultModel", "sync", "()Z"⟩ [Cond.code ⟨"SeriesVaultModel", "sync", "()Z"⟩ prog_14_method_43_code 2 (some FieldType.boolean)] { frames := 2, cells := 0, slots := 0, locals := 20 } (pC D dA [.ref h] (MW dA h ad x) sz) (va_Qi (fun (r9 : Int32) (u9 : Unit) => r9 = bI false) (fun (u9 : Unit) t9 => bW D (va_A (MW dA h ad x) sz) (MW dA h ad (MS.s_fresh (MS.s_kept (MS.s_cod x 0) x.records) false)) t9) (va_A (MW dA h ad x) sz)) 0 0 (va_A (MW dA h ad x) sz) := by
  refine mkC (y := ⟨"SeriesVaultModel", "sync", "()Z"⟩) (cc := prog_14_method_43_code) (maxL := 2) (av := [.ref h]) (ws := MW dA h ad x) (sz := sz) (Qc := fun A => va_Qi (fun (r9 : Int32) (u9 : Unit) => r9 = bI false) (fun (u9 : Unit) t9 => bW D A (MW dA h ad (MS.s_fresh (MS.s_kept (MS.s_cod x 0) x.records) false)) t9) A) (by decide) (Nat.le_of_ble_eq_true rfl) ?_
  intro A p e s m below meth c ls hsz hB
  obtain ⟨hx, hb, hr, hml, hown, hin, hlk, hE, hK, hP, hD, hS, hA, hN, hl⟩ := hB
  have hown : s.vm.findClass "SeriesVaultModel" = some m.cls := hown
  have hl : lv_has ls 2 [(0, .ref h)] := hl
  obtain ⟨H, hH⟩ : ∃ z, z = s.heap := ⟨_, rfl⟩
  have hP : va_P D vwCl (MW dA h ad x) H := by rw [hH]; exact hP
  have hS : va_S A s.heap H [] := by rw [hH]; exact hS
  rw [← hH]
  refine lv_aload_n hx hb d_M_sync_0 rfl (lv_at hl 0 rfl) ?_
  refine lv_aload_n hx hb d_M_sync_1 rfl (lv_at hl 0 rfl) ?_
  refine gF (v := .int (bI x.on)) hx hb hown hE hK hP 0 rfl rfl layM 7 (by decide) w324 rfl d_M_sync_2 ?_
  refine lv_if_eq hx hb d_M_sync_5 (tgt := 12) rfl (fun h9 => absurd h9 (by rw [ho]; decide)) (fun _ => ?_)
  refine lv_iconst (v := 0) hx hb d_M_sync_8 (by decide) ?_
  refine lv_goto hx hb d_M_sync_9 (tgt := 13) rfl ?_
  refine pF (v := .int 0) hx hb hown hE hK hP hD hS 0 rfl rfl layM tyM tokM nmM 0 (by decide) w319 rfl rfl rfl (Nat.le_of_ble_eq_true rfl) d_M_sync_13 (fun H locs hP hD hS => ?_)
  have hP : va_P D vwCl (MW dA h ad (MS.s_cod x 0)) H := hP
  have hD : va_D A (MW dA h ad (MS.s_cod x 0)) := hD
  refine lv_aload_n hx hb d_M_sync_16 rfl (lv_at hl 0 rfl) ?_
  refine gF (v := .int 0) hx hb hown hE hK hP 0 rfl rfl layM 0 (by decide) w319 rfl d_M_sync_17 ?_
  refine lv_if_le hx hb d_M_sync_20 (tgt := 25) rfl (fun _ => ?_) (fun h9 => absurd (by decide) h9)
  refine lv_aload_n hx hb d_M_sync_25 rfl (lv_at hl 0 rfl) ?_
  refine gF (v := .int (bI x.fresh)) hx hb hown hE hK hP 0 rfl rfl layM 41 (by decide) w337 rfl d_M_sync_26 ?_
  refine lv_istore_n hx hb d_M_sync_29 rfl hl (by decide) rfl (fun ls hl => ?_)
  have hl : lv_has ls 2 [(1, .int (bI x.fresh)), (0, .ref h)] := hl
  refine lv_aload_n hx hb d_M_sync_30 rfl (lv_at hl 1 rfl) ?_
  refine lv_aload_n hx hb d_M_sync_31 rfl (lv_at hl 1 rfl) ?_
  refine jfI (rnV (As := []) (rest := [.ref h]) hx hb hml hown hE hK (hN _ _ hS) hP hD (k_synced_0 l D dA H.size h ad (MS.s_cod x 0) hf) (q0 := 0) rfl rfl w341 w340 w342 w343 w328 rfl rfl ⟨⟨by decide, by decide⟩, rfl⟩ ⟨(Nat.le_of_ble_eq_true rfl), (Nat.le_of_ble_eq_true rfl)⟩ rfl hl.1 rfl (Nat.le_of_ble_eq_true rfl) d_M_sync_32 ⟨(Nat.le_of_ble_eq_true rfl), (Nat.le_of_ble_eq_true rfl)⟩) hP hD hS hA (fun r1 u2 H locs hp9 hP hD hS => ?_)
  have hP : va_P D vwCl (MW dA h ad (MS.s_fresh (MS.s_kept (MS.s_cod x 0) x.records) false)) H := hP
  have hD : va_D A (MW dA h ad (MS.s_fresh (MS.s_kept (MS.s_cod x 0) x.records) false)) := hD
  replace hp9 : bI true = r1 := Eq.symm hp9
  subst hp9
  refine lv_if_eq hx hb d_M_sync_35 (tgt := 42) rfl (fun h9 => absurd h9 (by decide)) (fun _ => ?_)
  refine lv_iconst (v := 0) hx hb d_M_sync_38 (by decide) ?_
  refine lv_goto hx hb d_M_sync_39 (tgt := 43) rfl ?_
  refine pF (v := .int 0) hx hb hown hE hK hP hD hS 0 rfl rfl layM tyM tokM nmM 0 (by decide) w319 rfl rfl rfl (Nat.le_of_ble_eq_true rfl) d_M_sync_43 (fun H locs hP hD hS => ?_)
  have hP : va_P D vwCl (MW dA h ad (MS.s_fresh (MS.s_kept (MS.s_cod x 0) x.records) false)) H := hP
  have hD : va_D A (MW dA h ad (MS.s_fresh (MS.s_kept (MS.s_cod x 0) x.records) false)) := hD
  refine lv_aload_n hx hb d_M_sync_46 rfl (lv_at hl 1 rfl) ?_
  refine gF (v := .int 0) hx hb hown hE hK hP 0 rfl rfl layM 0 (by decide) w319 rfl d_M_sync_47 ?_
  refine lv_if_ne hx hb d_M_sync_50 (tgt := 61) rfl (fun h9 => absurd (by decide) h9) (fun _ => ?_)
  refine lv_iload_n hx hb d_M_sync_53 rfl (lv_at hl 0 rfl) ?_
  refine lv_if_eq hx hb d_M_sync_54 (tgt := 61) rfl (fun _ => ?_) (fun h9 => absurd (by rw [hf]; decide) h9)
  refine lv_iconst (v := 0) hx hb d_M_sync_61 (by decide) ?_
  exact rfZ hx hb hr (bI_nar false) hlk hS () rfl hP hD (Nat.le_of_ble_eq_true rfl) (Nat.le_of_ble_eq_true rfl) d_M_sync_62
theorem d_M_sync_57 : decode prog_14_method_43_code 57 = .ok (.iconst 1, 1) := by decide +kernel
theorem d_M_sync_58 : decode prog_14_method_43_code 58 = .ok (.goto 4, 3) := by decide +kernel
set_option maxHeartbeats 4000000 in
set_option maxRecDepth 100000 in
theorem k_sync_t (l : Launch) (D : va_G) (dA : Nat → ClassId) (sz : Nat) (h : Nat) (ad : Nat → Nat) (x : MS) (ho : x.on = true) (hf : x.fresh = true) (hc : ¬ x.cutLeft = 0) : Met l ⟨"SeriesVaultModel", "sync", "()Z"⟩ [Cond.code ⟨"SeriesVaultModel", "sync", "()Z"⟩ prog_14_method_43_code 2 (some FieldType.boolean)] { frames := 3, cells := 0, slots := 0, locals := 40 } (pC D dA [.ref h] (MW dA h ad x) sz) (va_Qi (fun (r9 : Int32) (u9 : Unit) => r9 = bI true) (fun (u9 : Unit) t9 => bW D (va_A (MW dA h ad x) sz) (MW dA h ad (MS.s_fresh (MS.s_kept (MS.s_written (MS.s_cutLeft (MS.s_cod x 0) (cutF x.cutLeft)) (x.written + 1)) x.records) false)) t9) (va_A (MW dA h ad x) sz)) 0 0 (va_A (MW dA h ad x) sz) := by
  refine mkC (y := ⟨"SeriesVaultModel", "sync", "()Z"⟩) (cc := prog_14_method_43_code) (maxL := 2) (av := [.ref h]) (ws := MW dA h ad x) (sz := sz) (Qc := fun A => va_Qi (fun (r9 : Int32) (u9 : Unit) => r9 = bI true) (fun (u9 : Unit) t9 => bW D A (MW dA h ad (MS.s_fresh (MS.s_kept (MS.s_written (MS.s_cutLeft (MS.s_cod x 0) (cutF x.cutLeft)) (x.written + 1)) x.records) false)) t9) A) (by decide) (Nat.le_of_ble_eq_true rfl) ?_
  intro A p e s m below meth c ls hsz hB
  obtain ⟨hx, hb, hr, hml, hown, hin, hlk, hE, hK, hP, hD, hS, hA, hN, hl⟩ := hB
  have hown : s.vm.findClass "SeriesVaultModel" = some m.cls := hown
  have hl : lv_has ls 2 [(0, .ref h)] := hl
  obtain ⟨H, hH⟩ : ∃ z, z = s.heap := ⟨_, rfl⟩
  have hP : va_P D vwCl (MW dA h ad x) H := by rw [hH]; exact hP
  have hS : va_S A s.heap H [] := by rw [hH]; exact hS
  rw [← hH]
  refine lv_aload_n hx hb d_M_sync_0 rfl (lv_at hl 0 rfl) ?_
  refine lv_aload_n hx hb d_M_sync_1 rfl (lv_at hl 0 rfl) ?_
  refine gF (v := .int (bI x.on)) hx hb hown hE hK hP 0 rfl rfl layM 7 (by decide) w324 rfl d_M_sync_2 ?_
  refine lv_if_eq hx hb d_M_sync_5 (tgt := 12) rfl (fun h9 => absurd h9 (by rw [ho]; decide)) (fun _ => ?_)
  refine lv_iconst (v := 0) hx hb d_M_sync_8 (by decide) ?_
  refine lv_goto hx hb d_M_sync_9 (tgt := 13) rfl ?_
  refine pF (v := .int 0) hx hb hown hE hK hP hD hS 0 rfl rfl layM tyM tokM nmM 0 (by decide) w319 rfl rfl rfl (Nat.le_of_ble_eq_true rfl) d_M_sync_13 (fun H locs hP hD hS => ?_)
  have hP : va_P D vwCl (MW dA h ad (MS.s_cod x 0)) H := hP
  have hD : va_D A (MW dA h ad (MS.s_cod x 0)) := hD
  refine lv_aload_n hx hb d_M_sync_16 rfl (lv_at hl 0 rfl) ?_
  refine gF (v := .int 0) hx hb hown hE hK hP 0 rfl rfl layM 0 (by decide) w319 rfl d_M_sync_17 ?_
  refine lv_if_le hx hb d_M_sync_20 (tgt := 25) rfl (fun _ => ?_) (fun h9 => absurd (by decide) h9)
  refine lv_aload_n hx hb d_M_sync_25 rfl (lv_at hl 0 rfl) ?_
  refine gF (v := .int (bI x.fresh)) hx hb hown hE hK hP 0 rfl rfl layM 41 (by decide) w337 rfl d_M_sync_26 ?_
  refine lv_istore_n hx hb d_M_sync_29 rfl hl (by decide) rfl (fun ls hl => ?_)
  have hl : lv_has ls 2 [(1, .int (bI x.fresh)), (0, .ref h)] := hl
  refine lv_aload_n hx hb d_M_sync_30 rfl (lv_at hl 1 rfl) ?_
  refine lv_aload_n hx hb d_M_sync_31 rfl (lv_at hl 1 rfl) ?_
  refine jfI (rnV (As := []) (rest := [.ref h]) hx hb hml hown hE hK (hN _ _ hS) hP hD (k_synced_1 l D dA H.size h ad (MS.s_cod x 0) hf hc) (q0 := 0) rfl rfl w341 w340 w342 w343 w328 rfl rfl ⟨⟨by decide, by decide⟩, rfl⟩ ⟨(Nat.le_of_ble_eq_true rfl), (Nat.le_of_ble_eq_true rfl)⟩ rfl hl.1 rfl (Nat.le_of_ble_eq_true rfl) d_M_sync_32 ⟨(Nat.le_of_ble_eq_true rfl), (Nat.le_of_ble_eq_true rfl)⟩) hP hD hS hA (fun r1 u2 H locs hp9 hP hD hS => ?_)
  have hP : va_P D vwCl (MW dA h ad (MS.s_fresh (MS.s_kept (MS.s_written (MS.s_cutLeft (MS.s_cod x 0) (cutF x.cutLeft)) (x.written + 1)) x.records) false)) H := hP
  have hD : va_D A (MW dA h ad (MS.s_fresh (MS.s_kept (MS.s_written (MS.s_cutLeft (MS.s_cod x 0) (cutF x.cutLeft)) (x.written + 1)) x.records) false)) := hD
  replace hp9 : bI true = r1 := Eq.symm hp9
  subst hp9
  refine lv_if_eq hx hb d_M_sync_35 (tgt := 42) rfl (fun h9 => absurd h9 (by decide)) (fun _ => ?_)
  refine lv_iconst (v := 0) hx hb d_M_sync_38 (by decide) ?_
  refine lv_goto hx hb d_M_sync_39 (tgt := 43) rfl ?_
  refine pF (v := .int 0) hx hb hown hE hK hP hD hS 0 rfl rfl layM tyM tokM nmM 0 (by decide) w319 rfl rfl rfl (Nat.le_of_ble_eq_true rfl) d_M_sync_43 (fun H locs hP hD hS => ?_)
  have hP : va_P D vwCl (MW dA h ad (MS.s_fresh (MS.s_kept (MS.s_written (MS.s_cutLeft (MS.s_cod x 0) (cutF x.cutLeft)) (x.written + 1)) x.records) false)) H := hP
  have hD : va_D A (MW dA h ad (MS.s_fresh (MS.s_kept (MS.s_written (MS.s_cutLeft (MS.s_cod x 0) (cutF x.cutLeft)) (x.written + 1)) x.records) false)) := hD
  refine lv_aload_n hx hb d_M_sync_46 rfl (lv_at hl 1 rfl) ?_
  refine gF (v := .int 0) hx hb hown hE hK hP 0 rfl rfl layM 0 (by decide) w319 rfl d_M_sync_47 ?_
  refine lv_if_ne hx hb d_M_sync_50 (tgt := 61) rfl (fun h9 => absurd (by decide) h9) (fun _ => ?_)
  refine lv_iload_n hx hb d_M_sync_53 rfl (lv_at hl 0 rfl) ?_
  refine lv_if_eq hx hb d_M_sync_54 (tgt := 61) rfl (fun h9 => absurd h9 (by rw [hf]; decide)) (fun _ => ?_)
  refine lv_iconst (v := 1) hx hb d_M_sync_57 (by decide) ?_
  refine lv_goto hx hb d_M_sync_58 (tgt := 62) rfl ?_
  exact rfZ hx hb hr (bI_nar true) hlk hS () rfl hP hD (Nat.le_of_ble_eq_true rfl) (Nat.le_of_ble_eq_true rfl) d_M_sync_62
theorem d_M_remove_0 : decode prog_14_method_46_code 0 = .ok (.aload_n 0, 1) := by decide +kernel
theorem d_M_remove_1 : decode prog_14_method_46_code 1 = .ok (.dup, 1) := by decide +kernel
theorem d_M_remove_2 : decode prog_14_method_46_code 2 = .ok (.getfield 179, 3) := by decide +kernel
theorem d_M_remove_5 : decode prog_14_method_46_code 5 = .ok (.iconst 1, 1) := by decide +kernel
theorem d_M_remove_6 : decode prog_14_method_46_code 6 = .ok (.isub, 1) := by decide +kernel
theorem d_M_remove_7 : decode prog_14_method_46_code 7 = .ok (.putfield 179, 3) := by decide +kernel
theorem d_M_remove_10 : decode prog_14_method_46_code 10 = .ok (.iload_n 1, 1) := by decide +kernel
theorem d_M_remove_11 : decode prog_14_method_46_code 11 = .ok (.istore_n 2, 1) := by decide +kernel
theorem d_M_remove_12 : decode prog_14_method_46_code 12 = .ok (.iload_n 2, 1) := by decide +kernel
theorem d_M_remove_13 : decode prog_14_method_46_code 13 = .ok (.aload_n 0, 1) := by decide +kernel
theorem d_M_remove_14 : decode prog_14_method_46_code 14 = .ok (.getfield 179, 3) := by decide +kernel
theorem d_M_remove_17 : decode prog_14_method_46_code 17 = .ok (.if_icmp .ge 37, 3) := by decide +kernel
theorem d_M_remove_54 : decode prog_14_method_46_code 54 = .ok (.return_, 1) := by decide +kernel
theorem d_M_remove_20 : decode prog_14_method_46_code 20 = .ok (.aload_n 0, 1) := by decide +kernel
theorem d_M_remove_21 : decode prog_14_method_46_code 21 = .ok (.getfield 61, 3) := by decide +kernel
theorem d_M_remove_24 : decode prog_14_method_46_code 24 = .ok (.iload_n 2, 1) := by decide +kernel
theorem d_M_remove_25 : decode prog_14_method_46_code 25 = .ok (.aload_n 0, 1) := by decide +kernel
theorem d_M_remove_26 : decode prog_14_method_46_code 26 = .ok (.getfield 61, 3) := by decide +kernel
theorem d_M_remove_29 : decode prog_14_method_46_code 29 = .ok (.iload_n 2, 1) := by decide +kernel
theorem d_M_remove_30 : decode prog_14_method_46_code 30 = .ok (.iconst 1, 1) := by decide +kernel
theorem d_M_remove_31 : decode prog_14_method_46_code 31 = .ok (.iadd, 1) := by decide +kernel
theorem d_M_remove_32 : decode prog_14_method_46_code 32 = .ok (.iaload, 1) := by decide +kernel
theorem d_M_remove_33 : decode prog_14_method_46_code 33 = .ok (.iastore, 1) := by decide +kernel
theorem d_M_remove_34 : decode prog_14_method_46_code 34 = .ok (.aload_n 0, 1) := by decide +kernel
theorem d_M_remove_35 : decode prog_14_method_46_code 35 = .ok (.getfield 64, 3) := by decide +kernel
theorem d_M_remove_38 : decode prog_14_method_46_code 38 = .ok (.iload_n 2, 1) := by decide +kernel
theorem d_M_remove_39 : decode prog_14_method_46_code 39 = .ok (.aload_n 0, 1) := by decide +kernel
theorem d_M_remove_40 : decode prog_14_method_46_code 40 = .ok (.getfield 64, 3) := by decide +kernel
theorem d_M_remove_43 : decode prog_14_method_46_code 43 = .ok (.iload_n 2, 1) := by decide +kernel
theorem d_M_remove_44 : decode prog_14_method_46_code 44 = .ok (.iconst 1, 1) := by decide +kernel
theorem d_M_remove_45 : decode prog_14_method_46_code 45 = .ok (.iadd, 1) := by decide +kernel
theorem d_M_remove_46 : decode prog_14_method_46_code 46 = .ok (.iaload, 1) := by decide +kernel
theorem d_M_remove_47 : decode prog_14_method_46_code 47 = .ok (.iastore, 1) := by decide +kernel
theorem d_M_remove_48 : decode prog_14_method_46_code 48 = .ok (.iinc 2 1, 3) := by decide +kernel
theorem d_M_remove_51 : decode prog_14_method_46_code 51 = .ok (.goto (-39), 3) := by decide +kernel
set_option maxHeartbeats 4000000 in
set_option maxRecDepth 100000 in
theorem k_remove (l : Launch) (D : va_G) (dA : Nat → ClassId) (sz : Nat) (h : Nat) (ad : Nat → Nat) (x : MS) (k : Nat) (h1 : k < x.parcelCount) (h2 : x.parcelCount ≤ 40) : Met l ⟨"SeriesVaultModel", "remove", "(I)V"⟩ [Cond.code ⟨"SeriesVaultModel", "remove", "(I)V"⟩ prog_14_method_46_code 3 none] { frames := 1, cells := 0, slots := 0, locals := 0 } (pC D dA [.ref h, .int (nI k)] (MW dA h ad x) sz) (va_Qv (fun (u9 : Unit) => True) (fun (u9 : Unit) t9 => bW D (va_A (MW dA h ad x) sz) (MW dA h ad (MS.s_parcelCount (MS.s_parcelBlocks (MS.s_parcels x (rmT k x.parcels (x.parcelCount - 1))) (rmT k x.parcelBlocks (x.parcelCount - 1))) (x.parcelCount - 1))) t9) (va_A (MW dA h ad x) sz)) 0 0 (va_A (MW dA h ad x) sz) := by
  refine mkC (y := ⟨"SeriesVaultModel", "remove", "(I)V"⟩) (cc := prog_14_method_46_code) (maxL := 3) (av := [.ref h, .int (nI k)]) (ws := MW dA h ad x) (sz := sz) (Qc := fun A => va_Qv (fun (u9 : Unit) => True) (fun (u9 : Unit) t9 => bW D A (MW dA h ad (MS.s_parcelCount (MS.s_parcelBlocks (MS.s_parcels x (rmT k x.parcels (x.parcelCount - 1))) (rmT k x.parcelBlocks (x.parcelCount - 1))) (x.parcelCount - 1))) t9) A) (by decide) (Nat.le_of_ble_eq_true rfl) ?_
  intro A p e s m below meth c ls hsz hB
  obtain ⟨hx, hb, hr, hml, hown, hin, hlk, hE, hK, hP, hD, hS, hA, hN, hl⟩ := hB
  have hown : s.vm.findClass "SeriesVaultModel" = some m.cls := hown
  have hl : lv_has ls 3 [(0, .ref h), (1, .int (nI k))] := hl
  obtain ⟨H, hH⟩ : ∃ z, z = s.heap := ⟨_, rfl⟩
  have hP : va_P D vwCl (MW dA h ad x) H := by rw [hH]; exact hP
  have hS : va_S A s.heap H [] := by rw [hH]; exact hS
  rw [← hH]
  refine lv_aload_n hx hb d_M_remove_0 rfl (lv_at hl 0 rfl) ?_
  refine lv_dup hx hb d_M_remove_1 rfl ?_
  refine gF (v := .int (nI x.parcelCount)) hx hb hown hE hK hP 0 rfl rfl layM 28 (by decide) w344 rfl d_M_remove_2 ?_
  refine lv_iconst (v := 1) hx hb d_M_remove_5 (by decide) ?_
  refine lv_isub hx hb d_M_remove_6 (tpi (y := nI (x.parcelCount - 1)) (pk_sub (a := x.parcelCount) (b := 1) (by omega)) ?_)
  refine pF (v := .int (nI (x.parcelCount - 1))) hx hb hown hE hK hP hD hS 0 rfl rfl layM tyM tokM nmM 28 (by decide) w344 rfl rfl rfl (Nat.le_of_ble_eq_true rfl) d_M_remove_7 (fun H locs hP hD hS => ?_)
  have hP : va_P D vwCl (MW dA h ad (MS.s_parcelCount x (x.parcelCount - 1))) H := hP
  have hD : va_D A (MW dA h ad (MS.s_parcelCount x (x.parcelCount - 1))) := hD
  refine lv_iload_n hx hb d_M_remove_10 rfl (lv_at hl 1 rfl) ?_
  refine lv_istore_n hx hb d_M_remove_11 rfl hl (by decide) rfl (fun ls hl => ?_)
  have hl : lv_has ls 3 [(2, .int (nI k)), (0, .ref h), (1, .int (nI k))] := hl
  have L12 : ∀ (k9 : Nat) (j : Nat) (i1 : k ≤ j) (i2 : j ≤ x.parcelCount - 1) (hk9 : x.parcelCount - j = k9), ∀ (H : Heap) (locs : List Loc) (ls : Array Slot) (hP : va_P D vwCl (MW dA h ad (MS.s_parcelCount (MS.s_parcelBlocks (MS.s_parcels x (rmT k x.parcels j)) (rmT k x.parcelBlocks j)) (x.parcelCount - 1))) H) (hD : va_D A (MW dA h ad (MS.s_parcelCount (MS.s_parcelBlocks (MS.s_parcels x (rmT k x.parcels j)) (rmT k x.parcelBlocks j)) (x.parcelCount - 1)))) (hS : va_S A s.heap H locs) (hl : lv_has ls 3 [(2, .int (nI j)), (1, .int (nI k)), (0, .ref h)]), W p l e ({ frames := 1, cells := 0, slots := 0, locals := 0 } : Room) s m ([.ref h, .int (nI k)] : List Value).toArray below meth c H locs 0 0 (MQ below (va_Qv (fun (u9 : Unit) => True) (fun (u9 : Unit) t9 => bW D A (MW dA h ad (MS.s_parcelCount (MS.s_parcelBlocks (MS.s_parcels x (rmT k x.parcels (x.parcelCount - 1))) (rmT k x.parcelBlocks (x.parcelCount - 1))) (x.parcelCount - 1))) t9) A) ([.ref h, .int (nI k)] : List Value).toArray s 0 0 A) (F0 m 12 ls []) := by
    intro k9
    induction k9 using Nat.strongRecOn with
    | ind k9 ih12 =>
      intro j i1 i2 hk9 H locs ls hP hD hS hl
      refine lv_iload_n hx hb d_M_remove_12 rfl (lv_at hl 0 rfl) ?_
      refine lv_aload_n hx hb d_M_remove_13 rfl (lv_at hl 2 rfl) ?_
      refine gF (v := .int (nI (x.parcelCount - 1))) hx hb hown hE hK hP 0 rfl rfl layM 28 (by decide) w344 rfl d_M_remove_14 ?_
      refine lv_icmp_ge hx hb d_M_remove_17 (tgt := 54) rfl (fun g1 => ?_) (fun g1 => ?_)
      · have g1 := (nI_leI (a := x.parcelCount - 1) (b := j) (by omega) (by omega)).mp g1
        have e9 : (MS.s_parcelCount (MS.s_parcelBlocks (MS.s_parcels x (rmT k x.parcels j)) (rmT k x.parcelBlocks j)) (x.parcelCount - 1) : MS) = MS.s_parcelCount (MS.s_parcelBlocks (MS.s_parcels x (rmT k x.parcels (x.parcelCount - 1))) (rmT k x.parcelBlocks (x.parcelCount - 1))) (x.parcelCount - 1) := by rw [show (rmT k x.parcelBlocks (x.parcelCount - 1)) = (rmT k x.parcelBlocks j) from by (rw [show j = x.parcelCount - 1 by omega]), show (rmT k x.parcels (x.parcelCount - 1)) = (rmT k x.parcels j) from by (rw [show j = x.parcelCount - 1 by omega])] <;> rfl
        exact rfV hx hb hr hlk hS () trivial (cvP e9 hP) (cvD e9 hD) (Nat.le_of_ble_eq_true rfl) (Nat.le_of_ble_eq_true rfl) d_M_remove_54
      · have g1 := mt (nI_leI (a := x.parcelCount - 1) (b := j) (by omega) (by omega)).mpr g1
        refine lv_aload_n hx hb d_M_remove_20 rfl (lv_at hl 2 rfl) ?_
        refine gF (v := .ref (ad 26)) hx hb hown hE hK hP 0 rfl rfl layM 26 (by decide) w509 rfl d_M_remove_21 ?_
        refine lv_iload_n hx hb d_M_remove_24 rfl (lv_at hl 0 rfl) ?_
        refine lv_aload_n hx hb d_M_remove_25 rfl (lv_at hl 2 rfl) ?_
        refine gF (v := .ref (ad 26)) hx hb hown hE hK hP 0 rfl rfl layM 26 (by decide) w509 rfl d_M_remove_26 ?_
        refine lv_iload_n hx hb d_M_remove_29 rfl (lv_at hl 0 rfl) ?_
        refine lv_iconst (v := 1) hx hb d_M_remove_30 (by decide) ?_
        refine lv_iadd hx hb d_M_remove_31 (tpi (y := nI (j + 1)) (nI_add (j) (1)) ?_)
        refine nild (f := (fun z9 => nI ((rmT k x.parcels j) z9))) hx hb hK hP 12 1 rfl rfl (j + 1) (by omega) (by decide) d_M_remove_32 ?_
        refine tpi (y := nI (x.parcels (j + 1))) (congrArg nI (rmT_at _ (by omega))) ?_
        refine nistN (v := x.parcels (j + 1)) hx hb hK hP hD hS 12 1 rfl rfl (j) (by omega) (by decide) d_M_remove_33 (fun H locs hP hD hS => ?_)
        have hP : va_P D vwCl (MW dA h ad (MS.s_parcelCount (MS.s_parcelBlocks (MS.s_parcels x (va_up (rmT k x.parcels j) j (x.parcels (j + 1)))) (rmT k x.parcelBlocks j)) (x.parcelCount - 1))) H := hP
        have hD : va_D A (MW dA h ad (MS.s_parcelCount (MS.s_parcelBlocks (MS.s_parcels x (va_up (rmT k x.parcels j) j (x.parcels (j + 1)))) (rmT k x.parcelBlocks j)) (x.parcelCount - 1))) := hD
        refine lv_aload_n hx hb d_M_remove_34 rfl (lv_at hl 2 rfl) ?_
        refine gF (v := .ref (ad 27)) hx hb hown hE hK hP 0 rfl rfl layM 27 (by decide) w510 rfl d_M_remove_35 ?_
        refine lv_iload_n hx hb d_M_remove_38 rfl (lv_at hl 0 rfl) ?_
        refine lv_aload_n hx hb d_M_remove_39 rfl (lv_at hl 2 rfl) ?_
        refine gF (v := .ref (ad 27)) hx hb hown hE hK hP 0 rfl rfl layM 27 (by decide) w510 rfl d_M_remove_40 ?_
        refine lv_iload_n hx hb d_M_remove_43 rfl (lv_at hl 0 rfl) ?_
        refine lv_iconst (v := 1) hx hb d_M_remove_44 (by decide) ?_
        refine lv_iadd hx hb d_M_remove_45 (tpi (y := nI (j + 1)) (nI_add (j) (1)) ?_)
        refine nild (f := (fun z9 => nI ((rmT k x.parcelBlocks j) z9))) hx hb hK hP 13 1 rfl rfl (j + 1) (by omega) (by decide) d_M_remove_46 ?_
        refine tpi (y := nI (x.parcelBlocks (j + 1))) (congrArg nI (rmT_at _ (by omega))) ?_
        refine nistN (v := x.parcelBlocks (j + 1)) hx hb hK hP hD hS 13 1 rfl rfl (j) (by omega) (by decide) d_M_remove_47 (fun H locs hP hD hS => ?_)
        have hP : va_P D vwCl (MW dA h ad (MS.s_parcelCount (MS.s_parcelBlocks (MS.s_parcels x (va_up (rmT k x.parcels j) j (x.parcels (j + 1)))) (va_up (rmT k x.parcelBlocks j) j (x.parcelBlocks (j + 1)))) (x.parcelCount - 1))) H := hP
        have hD : va_D A (MW dA h ad (MS.s_parcelCount (MS.s_parcelBlocks (MS.s_parcels x (va_up (rmT k x.parcels j) j (x.parcels (j + 1)))) (va_up (rmT k x.parcelBlocks j) j (x.parcelBlocks (j + 1)))) (x.parcelCount - 1))) := hD
        refine lv_iinc (k := 0) (v := nI (j + 1)) hx hb d_M_remove_48 hl rfl (iincN (j) 1 1 (by decide)) (by decide) rfl (fun ls hl => ?_)
        have hl : lv_has ls 3 [(2, .int (nI (j + 1))), (1, .int (nI k)), (0, .ref h)] := hl
        refine lv_goto hx hb d_M_remove_51 (tgt := 12) rfl ?_
        have e9 : (MS.s_parcelCount (MS.s_parcelBlocks (MS.s_parcels x (va_up (rmT k x.parcels j) j (x.parcels (j + 1)))) (va_up (rmT k x.parcelBlocks j) j (x.parcelBlocks (j + 1)))) (x.parcelCount - 1) : MS) = MS.s_parcelCount (MS.s_parcelBlocks (MS.s_parcels x (rmT k x.parcels (j + 1))) (rmT k x.parcelBlocks (j + 1))) (x.parcelCount - 1) := by rw [show (rmT k x.parcelBlocks (j + 1)) = (va_up (rmT k x.parcelBlocks j) j (x.parcelBlocks (j + 1))) from (by first | exact rmT_0 _ _ | exact rmT_s i1 rfl), show (rmT k x.parcels (j + 1)) = (va_up (rmT k x.parcels j) j (x.parcels (j + 1))) from (by first | exact rmT_0 _ _ | exact rmT_s i1 rfl)] <;> rfl
        exact ih12 _ (by omega) (j + 1) (by omega) (by omega) rfl H _ ls (cvP e9 hP) (cvD e9 hD) hS (lv_sub hl [0, 1, 2] rfl)
  have e9 : (MS.s_parcelCount x (x.parcelCount - 1) : MS) = MS.s_parcelCount (MS.s_parcelBlocks (MS.s_parcels x (rmT k x.parcels k)) (rmT k x.parcelBlocks k)) (x.parcelCount - 1) := by rw [show (rmT k x.parcelBlocks k) = x.parcelBlocks from (by first | exact rmT_0 _ _ | exact rmT_s i1 rfl), show (rmT k x.parcels k) = x.parcels from (by first | exact rmT_0 _ _ | exact rmT_s i1 rfl)] <;> rfl
  exact L12 _ k (by omega) (by omega) rfl H _ ls (cvP e9 hP) (cvD e9 hD) hS (lv_sub hl [0, 2, 1] rfl)
end
