def MS.nmC (x : MS) (a b k j : Nat) : Bool := decide (x.tape (x.nameFroms (6 * a + k) + j) = x.tape (x.nameFroms (6 * b + k) + j))
def MS.nmL (x : MS) (a b k : Nat) : Bool := decide (x.nameLengths (6 * a + k) = x.nameLengths (6 * b + k))
def MS.nmE (x : MS) (a b k : Nat) : Bool := x.nmL a b k && allB (x.nameLengths (6 * a + k)) (x.nmC a b k)
def MS.smN (x : MS) (a b : Nat) : Bool := decide (x.tableNames a = x.tableNames b) && allB (x.tableNames a) (x.nmE a b)
theorem and_end {p : Bool} {f : Nat → Bool} {n r : Nat} {v : Bool} (h1 : r ≤ n) (h2 : (p && allB r f) = v) (h3 : n ≤ r ∨ v = false) : (p && allB n f) = v := by
  rcases h3 with h | h
  · rw [show r = n by omega] at h2
    exact h2
  · subst h
    cases e : allB r f with
    | false => rw [allB_f e h1, Bool.and_false]
    | true => rw [e, Bool.and_true] at h2
              rw [h2, Bool.false_and]
theorem and_l {p q v : Bool} (h : (p && q) = v) (hv : v = true) : p = true := by
  subst hv
  revert h
  cases p <;> cases q <;> decide
theorem d_M_hasSameNames_20 : decode prog_14_method_73_code 20 = .ok (.istore_n 3, 1) := by decide +kernel
theorem d_M_hasSameNames_151 : decode prog_14_method_73_code 151 = .ok (.iload_n 3, 1) := by decide +kernel
theorem d_M_hasSameNames_152 : decode prog_14_method_73_code 152 = .ok (.ireturn, 1) := by decide +kernel
theorem d_M_hasSameNames_21 : decode prog_14_method_73_code 21 = .ok (.iconst 0, 1) := by decide +kernel
theorem d_M_hasSameNames_22 : decode prog_14_method_73_code 22 = .ok (.istore 4, 2) := by decide +kernel
theorem d_M_hasSameNames_24 : decode prog_14_method_73_code 24 = .ok (.iload 4, 2) := by decide +kernel
theorem d_M_hasSameNames_26 : decode prog_14_method_73_code 26 = .ok (.aload_n 0, 1) := by decide +kernel
theorem d_M_hasSameNames_27 : decode prog_14_method_73_code 27 = .ok (.getfield 88, 3) := by decide +kernel
theorem d_M_hasSameNames_30 : decode prog_14_method_73_code 30 = .ok (.iload_n 1, 1) := by decide +kernel
theorem d_M_hasSameNames_31 : decode prog_14_method_73_code 31 = .ok (.iaload, 1) := by decide +kernel
theorem d_M_hasSameNames_32 : decode prog_14_method_73_code 32 = .ok (.if_icmp .ge 119, 3) := by decide +kernel
theorem d_M_hasSameNames_35 : decode prog_14_method_73_code 35 = .ok (.iload_n 3, 1) := by decide +kernel
theorem d_M_hasSameNames_36 : decode prog_14_method_73_code 36 = .ok (.ifCond .eq 115, 3) := by decide +kernel
theorem d_M_hasSameNames_39 : decode prog_14_method_73_code 39 = .ok (.aload_n 0, 1) := by decide +kernel
theorem d_M_hasSameNames_75 : decode prog_14_method_73_code 75 = .ok (.istore_n 3, 1) := by decide +kernel
theorem d_M_hasSameNames_145 : decode prog_14_method_73_code 145 = .ok (.iinc 4 1, 3) := by decide +kernel
theorem d_M_hasSameNames_148 : decode prog_14_method_73_code 148 = .ok (.goto (-124), 3) := by decide +kernel
theorem d_M_hasSameNames_76 : decode prog_14_method_73_code 76 = .ok (.iconst 0, 1) := by decide +kernel
theorem d_M_hasSameNames_77 : decode prog_14_method_73_code 77 = .ok (.istore 6, 2) := by decide +kernel
theorem d_M_hasSameNames_79 : decode prog_14_method_73_code 79 = .ok (.iload 6, 2) := by decide +kernel
theorem d_M_hasSameNames_81 : decode prog_14_method_73_code 81 = .ok (.iload 5, 2) := by decide +kernel
theorem d_M_hasSameNames_83 : decode prog_14_method_73_code 83 = .ok (.if_icmp .ge 62, 3) := by decide +kernel
theorem d_M_hasSameNames_86 : decode prog_14_method_73_code 86 = .ok (.iload_n 3, 1) := by decide +kernel
theorem d_M_hasSameNames_87 : decode prog_14_method_73_code 87 = .ok (.ifCond .eq 58, 3) := by decide +kernel
theorem d_M_hasSameNames_90 : decode prog_14_method_73_code 90 = .ok (.aload_n 0, 1) := by decide +kernel
theorem d_M_hasSameNames_91 : decode prog_14_method_73_code 91 = .ok (.getfield 8, 3) := by decide +kernel
theorem d_M_hasSameNames_94 : decode prog_14_method_73_code 94 = .ok (.aload_n 0, 1) := by decide +kernel
theorem d_M_hasSameNames_95 : decode prog_14_method_73_code 95 = .ok (.getfield 91, 3) := by decide +kernel
theorem d_M_hasSameNames_98 : decode prog_14_method_73_code 98 = .ok (.bipush 6, 2) := by decide +kernel
theorem d_M_hasSameNames_100 : decode prog_14_method_73_code 100 = .ok (.iload_n 1, 1) := by decide +kernel
theorem d_M_hasSameNames_101 : decode prog_14_method_73_code 101 = .ok (.imul, 1) := by decide +kernel
theorem d_M_hasSameNames_102 : decode prog_14_method_73_code 102 = .ok (.iload 4, 2) := by decide +kernel
theorem d_M_hasSameNames_104 : decode prog_14_method_73_code 104 = .ok (.iadd, 1) := by decide +kernel
theorem d_M_hasSameNames_105 : decode prog_14_method_73_code 105 = .ok (.iaload, 1) := by decide +kernel
theorem d_M_hasSameNames_106 : decode prog_14_method_73_code 106 = .ok (.iload 6, 2) := by decide +kernel
theorem d_M_hasSameNames_108 : decode prog_14_method_73_code 108 = .ok (.iadd, 1) := by decide +kernel
theorem d_M_hasSameNames_109 : decode prog_14_method_73_code 109 = .ok (.baload, 1) := by decide +kernel
theorem d_M_hasSameNames_110 : decode prog_14_method_73_code 110 = .ok (.aload_n 0, 1) := by decide +kernel
theorem d_M_hasSameNames_111 : decode prog_14_method_73_code 111 = .ok (.getfield 8, 3) := by decide +kernel
theorem d_M_hasSameNames_114 : decode prog_14_method_73_code 114 = .ok (.aload_n 0, 1) := by decide +kernel
theorem d_M_hasSameNames_115 : decode prog_14_method_73_code 115 = .ok (.getfield 91, 3) := by decide +kernel
theorem d_M_hasSameNames_118 : decode prog_14_method_73_code 118 = .ok (.bipush 6, 2) := by decide +kernel
theorem d_M_hasSameNames_120 : decode prog_14_method_73_code 120 = .ok (.iload_n 2, 1) := by decide +kernel
theorem d_M_hasSameNames_121 : decode prog_14_method_73_code 121 = .ok (.imul, 1) := by decide +kernel
theorem d_M_hasSameNames_122 : decode prog_14_method_73_code 122 = .ok (.iload 4, 2) := by decide +kernel
theorem d_M_hasSameNames_124 : decode prog_14_method_73_code 124 = .ok (.iadd, 1) := by decide +kernel
theorem d_M_hasSameNames_125 : decode prog_14_method_73_code 125 = .ok (.iaload, 1) := by decide +kernel
theorem d_M_hasSameNames_126 : decode prog_14_method_73_code 126 = .ok (.iload 6, 2) := by decide +kernel
theorem d_M_hasSameNames_128 : decode prog_14_method_73_code 128 = .ok (.iadd, 1) := by decide +kernel
theorem d_M_hasSameNames_129 : decode prog_14_method_73_code 129 = .ok (.baload, 1) := by decide +kernel
theorem d_M_hasSameNames_130 : decode prog_14_method_73_code 130 = .ok (.if_icmp .ne 7, 3) := by decide +kernel
theorem d_M_hasSameNames_137 : decode prog_14_method_73_code 137 = .ok (.iconst 0, 1) := by decide +kernel
theorem d_M_hasSameNames_138 : decode prog_14_method_73_code 138 = .ok (.istore_n 3, 1) := by decide +kernel
theorem d_M_hasSameNames_139 : decode prog_14_method_73_code 139 = .ok (.iinc 6 1, 3) := by decide +kernel
theorem d_M_hasSameNames_142 : decode prog_14_method_73_code 142 = .ok (.goto (-63), 3) := by decide +kernel
theorem d_M_hasSameNames_133 : decode prog_14_method_73_code 133 = .ok (.iconst 1, 1) := by decide +kernel
theorem d_M_hasSameNames_134 : decode prog_14_method_73_code 134 = .ok (.goto 4, 3) := by decide +kernel
theorem d_M_hasSameNames_40 : decode prog_14_method_73_code 40 = .ok (.getfield 94, 3) := by decide +kernel
theorem d_M_hasSameNames_43 : decode prog_14_method_73_code 43 = .ok (.bipush 6, 2) := by decide +kernel
theorem d_M_hasSameNames_45 : decode prog_14_method_73_code 45 = .ok (.iload_n 1, 1) := by decide +kernel
theorem d_M_hasSameNames_46 : decode prog_14_method_73_code 46 = .ok (.imul, 1) := by decide +kernel
theorem d_M_hasSameNames_47 : decode prog_14_method_73_code 47 = .ok (.iload 4, 2) := by decide +kernel
theorem d_M_hasSameNames_49 : decode prog_14_method_73_code 49 = .ok (.iadd, 1) := by decide +kernel
theorem d_M_hasSameNames_50 : decode prog_14_method_73_code 50 = .ok (.iaload, 1) := by decide +kernel
theorem d_M_hasSameNames_51 : decode prog_14_method_73_code 51 = .ok (.istore 5, 2) := by decide +kernel
theorem d_M_hasSameNames_53 : decode prog_14_method_73_code 53 = .ok (.iload 5, 2) := by decide +kernel
theorem d_M_hasSameNames_55 : decode prog_14_method_73_code 55 = .ok (.aload_n 0, 1) := by decide +kernel
theorem d_M_hasSameNames_56 : decode prog_14_method_73_code 56 = .ok (.getfield 94, 3) := by decide +kernel
theorem d_M_hasSameNames_59 : decode prog_14_method_73_code 59 = .ok (.bipush 6, 2) := by decide +kernel
theorem d_M_hasSameNames_61 : decode prog_14_method_73_code 61 = .ok (.iload_n 2, 1) := by decide +kernel
theorem d_M_hasSameNames_62 : decode prog_14_method_73_code 62 = .ok (.imul, 1) := by decide +kernel
theorem d_M_hasSameNames_63 : decode prog_14_method_73_code 63 = .ok (.iload 4, 2) := by decide +kernel
theorem d_M_hasSameNames_65 : decode prog_14_method_73_code 65 = .ok (.iadd, 1) := by decide +kernel
theorem d_M_hasSameNames_66 : decode prog_14_method_73_code 66 = .ok (.iaload, 1) := by decide +kernel
theorem d_M_hasSameNames_67 : decode prog_14_method_73_code 67 = .ok (.if_icmp .ne 7, 3) := by decide +kernel
theorem d_M_hasSameNames_74 : decode prog_14_method_73_code 74 = .ok (.iconst 0, 1) := by decide +kernel
theorem d_M_hasSameNames_70 : decode prog_14_method_73_code 70 = .ok (.iconst 1, 1) := by decide +kernel
theorem d_M_hasSameNames_71 : decode prog_14_method_73_code 71 = .ok (.goto 4, 3) := by decide +kernel
theorem d_M_hasSameNames_0 : decode prog_14_method_73_code 0 = .ok (.aload_n 0, 1) := by decide +kernel
theorem d_M_hasSameNames_1 : decode prog_14_method_73_code 1 = .ok (.getfield 88, 3) := by decide +kernel
theorem d_M_hasSameNames_4 : decode prog_14_method_73_code 4 = .ok (.iload_n 1, 1) := by decide +kernel
theorem d_M_hasSameNames_5 : decode prog_14_method_73_code 5 = .ok (.iaload, 1) := by decide +kernel
theorem d_M_hasSameNames_6 : decode prog_14_method_73_code 6 = .ok (.aload_n 0, 1) := by decide +kernel
theorem d_M_hasSameNames_7 : decode prog_14_method_73_code 7 = .ok (.getfield 88, 3) := by decide +kernel
theorem d_M_hasSameNames_10 : decode prog_14_method_73_code 10 = .ok (.iload_n 2, 1) := by decide +kernel
theorem d_M_hasSameNames_11 : decode prog_14_method_73_code 11 = .ok (.iaload, 1) := by decide +kernel
theorem d_M_hasSameNames_12 : decode prog_14_method_73_code 12 = .ok (.if_icmp .ne 7, 3) := by decide +kernel
theorem d_M_hasSameNames_19 : decode prog_14_method_73_code 19 = .ok (.iconst 0, 1) := by decide +kernel
theorem d_M_hasSameNames_15 : decode prog_14_method_73_code 15 = .ok (.iconst 1, 1) := by decide +kernel
theorem d_M_hasSameNames_16 : decode prog_14_method_73_code 16 = .ok (.goto 4, 3) := by decide +kernel
set_option maxHeartbeats 4000000 in
set_option maxRecDepth 100000 in
theorem k_hasSameNames (l : Launch) (D : va_G) (dA : Nat → ClassId) (sz : Nat) (h : Nat) (ad : Nat → Nat) (x : MS) (a : Nat) (b : Nat) (ha : a < 20) (hb2 : b < 20) (h6 : x.tableNames a ≤ 6) (h7 : x.tableNames b ≤ 6) (hn : ∀ k : Nat, k < 6 → x.nameFroms (6 * a + k) + x.nameLengths (6 * a + k) ≤ 65536 ∧ x.nameFroms (6 * b + k) + x.nameLengths (6 * b + k) ≤ 65536) : Met l ⟨"SeriesVaultModel", "hasSameNames", "(II)Z"⟩ [Cond.code ⟨"SeriesVaultModel", "hasSameNames", "(II)Z"⟩ prog_14_method_73_code 7 (some FieldType.boolean)] { frames := 1, cells := 0, slots := 0, locals := 0 } (pC D dA [.ref h, .int (nI a), .int (nI b)] (MW dA h ad x) sz) (va_Qi (fun (r9 : Int32) (u9 : Unit) => r9 = bI (x.smN a b)) (fun (u9 : Unit) t9 => bW D (va_A (MW dA h ad x) sz) (MW dA h ad x) t9) (va_A (MW dA h ad x) sz)) 0 0 (va_A (MW dA h ad x) sz) := by
  refine mkC (y := ⟨"SeriesVaultModel", "hasSameNames", "(II)Z"⟩) (cc := prog_14_method_73_code) (maxL := 7) (av := [.ref h, .int (nI a), .int (nI b)]) (ws := MW dA h ad x) (sz := sz) (Qc := fun A => va_Qi (fun (r9 : Int32) (u9 : Unit) => r9 = bI (x.smN a b)) (fun (u9 : Unit) t9 => bW D A (MW dA h ad x) t9) A) (by decide) (Nat.le_of_ble_eq_true rfl) ?_
  intro A p e s m below meth c ls hsz hB
  obtain ⟨hx, hb, hr, hml, hown, hin, hlk, hE, hK, hP, hD, hS, hA, hN, hl⟩ := hB
  have hown : s.vm.findClass "SeriesVaultModel" = some m.cls := hown
  have hl : lv_has ls 7 [(0, .ref h), (1, .int (nI a)), (2, .int (nI b))] := hl
  obtain ⟨H, hH⟩ : ∃ z, z = s.heap := ⟨_, rfl⟩
  have hP : va_P D vwCl (MW dA h ad x) H := by rw [hH]; exact hP
  have hS : va_S A s.heap H [] := by rw [hH]; exact hS
  rw [← hH]
  have J20 : ∀ (v : Bool) (i0 : decide (x.tableNames a = x.tableNames b) = v), ∀ (H : Heap) (locs : List Loc) (ls : Array Slot) (hP : va_P D vwCl (MW dA h ad x) H) (hD : va_D A (MW dA h ad x)) (hS : va_S A s.heap H locs) (hl : lv_has ls 7 [(1, .int (nI a)), (2, .int (nI b)), (0, .ref h)]), W p l e ({ frames := 1, cells := 0, slots := 0, locals := 0 } : Room) s m ([.ref h, .int (nI a), .int (nI b)] : List Value).toArray below meth c H locs 0 0 (MQ below (va_Qi (fun (r9 : Int32) (u9 : Unit) => r9 = bI (x.smN a b)) (fun (u9 : Unit) t9 => bW D A (MW dA h ad x) t9) A) ([.ref h, .int (nI a), .int (nI b)] : List Value).toArray s 0 0 A) (F0 m 20 ls [.int (bI v)]) := by
    intro v i0 H locs ls hP hD hS hl
    refine lv_istore_n hx hb d_M_hasSameNames_20 rfl hl (by decide) rfl (fun ls hl => ?_)
    have hl : lv_has ls 7 [(3, .int (bI v)), (1, .int (nI a)), (2, .int (nI b)), (0, .ref h)] := hl
    have J151 : ∀ (v : Bool) (i9 : x.smN a b = v), ∀ (H : Heap) (locs : List Loc) (ls : Array Slot) (hP : va_P D vwCl (MW dA h ad x) H) (hD : va_D A (MW dA h ad x)) (hS : va_S A s.heap H locs) (hl : lv_has ls 7 [(3, .int (bI v)), (1, .int (nI a)), (2, .int (nI b)), (0, .ref h)]), W p l e ({ frames := 1, cells := 0, slots := 0, locals := 0 } : Room) s m ([.ref h, .int (nI a), .int (nI b)] : List Value).toArray below meth c H locs 0 0 (MQ below (va_Qi (fun (r9 : Int32) (u9 : Unit) => r9 = bI (x.smN a b)) (fun (u9 : Unit) t9 => bW D A (MW dA h ad x) t9) A) ([.ref h, .int (nI a), .int (nI b)] : List Value).toArray s 0 0 A) (F0 m 151 ls []) := by
      intro v i9 H locs ls hP hD hS hl
      refine lv_iload_n hx hb d_M_hasSameNames_151 rfl (lv_at hl 0 rfl) ?_
      exact rfZ hx hb hr (bI_nar v) hlk hS () (by rw [i9]) hP hD (Nat.le_of_ble_eq_true rfl) (Nat.le_of_ble_eq_true rfl) d_M_hasSameNames_152
    refine lv_iconst (v := 0) hx hb d_M_hasSameNames_21 (by decide) ?_
    refine lv_istore hx hb d_M_hasSameNames_22 hl (by decide) rfl (fun ls hl => ?_)
    have hl : lv_has ls 7 [(4, .int 0), (3, .int (bI v)), (1, .int (nI a)), (2, .int (nI b)), (0, .ref h)] := hl
    have L24 : ∀ (k9 : Nat) (k : Nat) (v : Bool) (i1 : k ≤ x.tableNames a) (i2 : (decide (x.tableNames a = x.tableNames b) && allB k (x.nmE a b)) = v) (hk9 : x.tableNames a - k = k9), ∀ (H : Heap) (locs : List Loc) (ls : Array Slot) (hP : va_P D vwCl (MW dA h ad x) H) (hD : va_D A (MW dA h ad x)) (hS : va_S A s.heap H locs) (hl : lv_has ls 7 [(4, .int (nI k)), (3, .int (bI v)), (1, .int (nI a)), (2, .int (nI b)), (0, .ref h)]), W p l e ({ frames := 1, cells := 0, slots := 0, locals := 0 } : Room) s m ([.ref h, .int (nI a), .int (nI b)] : List Value).toArray below meth c H locs 0 0 (MQ below (va_Qi (fun (r9 : Int32) (u9 : Unit) => r9 = bI (x.smN a b)) (fun (u9 : Unit) t9 => bW D A (MW dA h ad x) t9) A) ([.ref h, .int (nI a), .int (nI b)] : List Value).toArray s 0 0 A) (F0 m 24 ls []) := by
      intro k9
      induction k9 using Nat.strongRecOn with
      | ind k9 ih24 =>
        intro k v i1 i2 hk9 H locs ls hP hD hS hl
        refine lv_iload hx hb d_M_hasSameNames_24 (lv_at hl 0 rfl) ?_
        refine lv_aload_n hx hb d_M_hasSameNames_26 rfl (lv_at hl 4 rfl) ?_
        refine gF (v := .ref (ad 48)) hx hb hown hE hK hP 0 rfl rfl layM 48 (by decide) w518 rfl d_M_hasSameNames_27 ?_
        refine lv_iload_n hx hb d_M_hasSameNames_30 rfl (lv_at hl 2 rfl) ?_
        refine nild (f := (fun z9 => nI (x.tableNames z9))) hx hb hK hP 21 1 rfl rfl (a) (by omega) (by decide) d_M_hasSameNames_31 ?_
        refine lv_icmp_ge hx hb d_M_hasSameNames_32 (tgt := 151) rfl (fun g1 => ?_) (fun g1 => ?_)
        · have g1 := (nI_leI (a := x.tableNames a) (b := k) (by omega) (by omega)).mp g1
          exact J151 v (and_end i1 i2 (Or.inl (by omega))) H _ ls hP hD hS (lv_sub hl [1, 2, 3, 4] rfl)
        · have g1 := mt (nI_leI (a := x.tableNames a) (b := k) (by omega) (by omega)).mpr g1
          refine lv_iload_n hx hb d_M_hasSameNames_35 rfl (lv_at hl 1 rfl) ?_
          refine lv_if_eq hx hb d_M_hasSameNames_36 (tgt := 151) rfl (fun g2 => ?_) (fun g2 => ?_)
          · have g2 := bI_0 g2
            exact J151 v (and_end i1 i2 (Or.inr g2)) H _ ls hP hD hS (lv_sub hl [1, 2, 3, 4] rfl)
          · have g2 := bI_n0 g2
            have iv := g2
            have n5 := hn k (by omega)
            have n6 := n5.1
            have n7 := n5.2
            refine lv_aload_n hx hb d_M_hasSameNames_39 rfl (lv_at hl 4 rfl) ?_
            have J75 : ∀ (v2 : Bool) (j0 : x.nmL a b k = v2), ∀ (H : Heap) (locs : List Loc) (ls : Array Slot) (hP : va_P D vwCl (MW dA h ad x) H) (hD : va_D A (MW dA h ad x)) (hS : va_S A s.heap H locs) (hl : lv_has ls 7 [(5, .int (nI (x.nameLengths ((6 * a) + k)))), (4, .int (nI k)), (1, .int (nI a)), (2, .int (nI b)), (0, .ref h)]), W p l e ({ frames := 1, cells := 0, slots := 0, locals := 0 } : Room) s m ([.ref h, .int (nI a), .int (nI b)] : List Value).toArray below meth c H locs 0 0 (MQ below (va_Qi (fun (r9 : Int32) (u9 : Unit) => r9 = bI (x.smN a b)) (fun (u9 : Unit) t9 => bW D A (MW dA h ad x) t9) A) ([.ref h, .int (nI a), .int (nI b)] : List Value).toArray s 0 0 A) (F0 m 75 ls [.int (bI v2)]) := by
              intro v2 j0 H locs ls hP hD hS hl
              refine lv_istore_n hx hb d_M_hasSameNames_75 rfl hl (by decide) rfl (fun ls hl => ?_)
              have hl : lv_has ls 7 [(3, .int (bI v2)), (5, .int (nI (x.nameLengths ((6 * a) + k)))), (4, .int (nI k)), (1, .int (nI a)), (2, .int (nI b)), (0, .ref h)] := hl
              have J145 : ∀ (v2 : Bool) (j5 : x.nmE a b k = v2), ∀ (H : Heap) (locs : List Loc) (ls : Array Slot) (hP : va_P D vwCl (MW dA h ad x) H) (hD : va_D A (MW dA h ad x)) (hS : va_S A s.heap H locs) (hl : lv_has ls 7 [(3, .int (bI v2)), (4, .int (nI k)), (1, .int (nI a)), (2, .int (nI b)), (0, .ref h)]), W p l e ({ frames := 1, cells := 0, slots := 0, locals := 0 } : Room) s m ([.ref h, .int (nI a), .int (nI b)] : List Value).toArray below meth c H locs 0 0 (MQ below (va_Qi (fun (r9 : Int32) (u9 : Unit) => r9 = bI (x.smN a b)) (fun (u9 : Unit) t9 => bW D A (MW dA h ad x) t9) A) ([.ref h, .int (nI a), .int (nI b)] : List Value).toArray s 0 0 A) (F0 m 145 ls []) := by
                intro v2 j5 H locs ls hP hD hS hl
                refine lv_iinc (k := 1) (v := nI (k + 1)) hx hb d_M_hasSameNames_145 hl rfl (iincN (k) 1 1 (by decide)) (by decide) rfl (fun ls hl => ?_)
                have hl : lv_has ls 7 [(4, .int (nI (k + 1))), (3, .int (bI v2)), (1, .int (nI a)), (2, .int (nI b)), (0, .ref h)] := hl
                refine lv_goto hx hb d_M_hasSameNames_148 (tgt := 24) rfl ?_
                exact ih24 _ (by omega) (k + 1) v2 (by omega) (by rw [allB_s, ← Bool.and_assoc, i2, iv, Bool.true_and]; exact j5) rfl H _ ls hP hD hS (lv_sub hl [0, 1, 2, 3, 4] rfl)
              refine lv_iconst (v := 0) hx hb d_M_hasSameNames_76 (by decide) ?_
              refine lv_istore hx hb d_M_hasSameNames_77 hl (by decide) rfl (fun ls hl => ?_)
              have hl : lv_has ls 7 [(6, .int 0), (3, .int (bI v2)), (5, .int (nI (x.nameLengths ((6 * a) + k)))), (4, .int (nI k)), (1, .int (nI a)), (2, .int (nI b)), (0, .ref h)] := hl
              have L79 : ∀ (k9 : Nat) (j : Nat) (v2 : Bool) (j1 : j ≤ x.nameLengths ((6 * a) + k)) (j2 : (x.nmL a b k && allB j (x.nmC a b k)) = v2) (hk9 : x.nameLengths ((6 * a) + k) - j = k9), ∀ (H : Heap) (locs : List Loc) (ls : Array Slot) (hP : va_P D vwCl (MW dA h ad x) H) (hD : va_D A (MW dA h ad x)) (hS : va_S A s.heap H locs) (hl : lv_has ls 7 [(6, .int (nI j)), (3, .int (bI v2)), (5, .int (nI (x.nameLengths ((6 * a) + k)))), (4, .int (nI k)), (1, .int (nI a)), (2, .int (nI b)), (0, .ref h)]), W p l e ({ frames := 1, cells := 0, slots := 0, locals := 0 } : Room) s m ([.ref h, .int (nI a), .int (nI b)] : List Value).toArray below meth c H locs 0 0 (MQ below (va_Qi (fun (r9 : Int32) (u9 : Unit) => r9 = bI (x.smN a b)) (fun (u9 : Unit) t9 => bW D A (MW dA h ad x) t9) A) ([.ref h, .int (nI a), .int (nI b)] : List Value).toArray s 0 0 A) (F0 m 79 ls []) := by
                intro k9
                induction k9 using Nat.strongRecOn with
                | ind k9 ih79 =>
                  intro j v2 j1 j2 hk9 H locs ls hP hD hS hl
                  refine lv_iload hx hb d_M_hasSameNames_79 (lv_at hl 0 rfl) ?_
                  refine lv_iload hx hb d_M_hasSameNames_81 (lv_at hl 2 rfl) ?_
                  refine lv_icmp_ge hx hb d_M_hasSameNames_83 (tgt := 145) rfl (fun g3 => ?_) (fun g3 => ?_)
                  · have g3 := (nI_leI (a := x.nameLengths ((6 * a) + k)) (b := j) (by omega) (by omega)).mp g3
                    exact J145 v2 (and_end j1 j2 (Or.inl (by omega))) H _ ls hP hD hS (lv_sub hl [1, 3, 4, 5, 6] rfl)
                  · have g3 := mt (nI_leI (a := x.nameLengths ((6 * a) + k)) (b := j) (by omega) (by omega)).mpr g3
                    refine lv_iload_n hx hb d_M_hasSameNames_86 rfl (lv_at hl 1 rfl) ?_
                    refine lv_if_eq hx hb d_M_hasSameNames_87 (tgt := 145) rfl (fun g4 => ?_) (fun g4 => ?_)
                    · have g4 := bI_0 g4
                      exact J145 v2 (and_end j1 j2 (Or.inr g4)) H _ ls hP hD hS (lv_sub hl [1, 3, 4, 5, 6] rfl)
                    · have g4 := bI_n0 g4
                      have l5 : x.nameLengths (6 * a + k) = x.nameLengths (6 * b + k) := of_decide_eq_true (and_l j2 g4)
                      refine lv_aload_n hx hb d_M_hasSameNames_90 rfl (lv_at hl 6 rfl) ?_
                      refine gF (v := .ref (ad 1)) hx hb hown hE hK hP 0 rfl rfl layM 1 (by decide) w497 rfl d_M_hasSameNames_91 ?_
                      refine lv_aload_n hx hb d_M_hasSameNames_94 rfl (lv_at hl 6 rfl) ?_
                      refine gF (v := .ref (ad 49)) hx hb hown hE hK hP 0 rfl rfl layM 49 (by decide) w519 rfl d_M_hasSameNames_95 ?_
                      refine lv_bipush (v := 6) hx hb d_M_hasSameNames_98 (by decide) ?_
                      refine lv_iload_n hx hb d_M_hasSameNames_100 rfl (lv_at hl 4 rfl) ?_
                      refine lv_imul hx hb d_M_hasSameNames_101 (tpi (y := nI (6 * a)) (pk_mul (6) (a)) ?_)
                      refine lv_iload hx hb d_M_hasSameNames_102 (lv_at hl 3 rfl) ?_
                      refine lv_iadd hx hb d_M_hasSameNames_104 (tpi (y := nI ((6 * a) + k)) (nI_add (6 * a) (k)) ?_)
                      refine nild (f := (fun z9 => nI (x.nameFroms z9))) hx hb hK hP 22 1 rfl rfl ((6 * a) + k) (by omega) (by decide) d_M_hasSameNames_105 ?_
                      refine lv_iload hx hb d_M_hasSameNames_106 (lv_at hl 0 rfl) ?_
                      refine lv_iadd hx hb d_M_hasSameNames_108 (tpi (y := nI ((x.nameFroms ((6 * a) + k)) + j)) (nI_add (x.nameFroms ((6 * a) + k)) (j)) ?_)
                      refine nbld (f := x.tape) hx hb hK hP 1 0 rfl rfl ((x.nameFroms ((6 * a) + k)) + j) (by omega) (by decide) d_M_hasSameNames_109 ?_
                      refine lv_aload_n hx hb d_M_hasSameNames_110 rfl (lv_at hl 6 rfl) ?_
                      refine gF (v := .ref (ad 1)) hx hb hown hE hK hP 0 rfl rfl layM 1 (by decide) w497 rfl d_M_hasSameNames_111 ?_
                      refine lv_aload_n hx hb d_M_hasSameNames_114 rfl (lv_at hl 6 rfl) ?_
                      refine gF (v := .ref (ad 49)) hx hb hown hE hK hP 0 rfl rfl layM 49 (by decide) w519 rfl d_M_hasSameNames_115 ?_
                      refine lv_bipush (v := 6) hx hb d_M_hasSameNames_118 (by decide) ?_
                      refine lv_iload_n hx hb d_M_hasSameNames_120 rfl (lv_at hl 5 rfl) ?_
                      refine lv_imul hx hb d_M_hasSameNames_121 (tpi (y := nI (6 * b)) (pk_mul (6) (b)) ?_)
                      refine lv_iload hx hb d_M_hasSameNames_122 (lv_at hl 3 rfl) ?_
                      refine lv_iadd hx hb d_M_hasSameNames_124 (tpi (y := nI ((6 * b) + k)) (nI_add (6 * b) (k)) ?_)
                      refine nild (f := (fun z9 => nI (x.nameFroms z9))) hx hb hK hP 22 1 rfl rfl ((6 * b) + k) (by omega) (by decide) d_M_hasSameNames_125 ?_
                      refine lv_iload hx hb d_M_hasSameNames_126 (lv_at hl 0 rfl) ?_
                      refine lv_iadd hx hb d_M_hasSameNames_128 (tpi (y := nI ((x.nameFroms ((6 * b) + k)) + j)) (nI_add (x.nameFroms ((6 * b) + k)) (j)) ?_)
                      refine nbld (f := x.tape) hx hb hK hP 1 0 rfl rfl ((x.nameFroms ((6 * b) + k)) + j) (by omega) (by decide) d_M_hasSameNames_129 ?_
                      refine lv_icmp_ne hx hb d_M_hasSameNames_130 (tgt := 137) rfl (fun g5 => ?_) (fun g5 => ?_)
                      · have g5 := g5
                        refine lv_iconst (v := 0) hx hb d_M_hasSameNames_137 (by decide) ?_
                        refine lv_istore_n hx hb d_M_hasSameNames_138 rfl hl (by decide) rfl (fun ls hl => ?_)
                        have hl : lv_has ls 7 [(3, .int 0), (6, .int (nI j)), (5, .int (nI (x.nameLengths ((6 * a) + k)))), (4, .int (nI k)), (1, .int (nI a)), (2, .int (nI b)), (0, .ref h)] := hl
                        refine lv_iinc (k := 1) (v := nI (j + 1)) hx hb d_M_hasSameNames_139 hl rfl (iincN (j) 1 1 (by decide)) (by decide) rfl (fun ls hl => ?_)
                        have hl : lv_has ls 7 [(6, .int (nI (j + 1))), (3, .int 0), (5, .int (nI (x.nameLengths ((6 * a) + k)))), (4, .int (nI k)), (1, .int (nI a)), (2, .int (nI b)), (0, .ref h)] := hl
                        refine lv_goto hx hb d_M_hasSameNames_142 (tgt := 79) rfl ?_
                        exact ih79 _ (by omega) (j + 1) false (by omega) (by rw [allB_s, ← Bool.and_assoc, j2, g4]; exact decide_eq_false g5) rfl H _ ls hP hD hS (lv_sub hl [0, 1, 2, 3, 4, 5, 6] rfl)
                      · have g5 := g5
                        refine lv_iconst (v := 1) hx hb d_M_hasSameNames_133 (by decide) ?_
                        refine lv_goto hx hb d_M_hasSameNames_134 (tgt := 138) rfl ?_
                        refine lv_istore_n hx hb d_M_hasSameNames_138 rfl hl (by decide) rfl (fun ls hl => ?_)
                        have hl : lv_has ls 7 [(3, .int 1), (6, .int (nI j)), (5, .int (nI (x.nameLengths ((6 * a) + k)))), (4, .int (nI k)), (1, .int (nI a)), (2, .int (nI b)), (0, .ref h)] := hl
                        refine lv_iinc (k := 1) (v := nI (j + 1)) hx hb d_M_hasSameNames_139 hl rfl (iincN (j) 1 1 (by decide)) (by decide) rfl (fun ls hl => ?_)
                        have hl : lv_has ls 7 [(6, .int (nI (j + 1))), (3, .int 1), (5, .int (nI (x.nameLengths ((6 * a) + k)))), (4, .int (nI k)), (1, .int (nI a)), (2, .int (nI b)), (0, .ref h)] := hl
                        refine lv_goto hx hb d_M_hasSameNames_142 (tgt := 79) rfl ?_
                        exact ih79 _ (by omega) (j + 1) true (by omega) (by rw [allB_s, ← Bool.and_assoc, j2, g4]; exact decide_eq_true g5) rfl H _ ls hP hD hS (lv_sub hl [0, 1, 2, 3, 4, 5, 6] rfl)
              exact L79 _ 0 v2 (Nat.zero_le _) (by rw [j0]; exact Bool.and_true _) rfl H _ ls hP hD hS (lv_sub hl [0, 1, 2, 3, 4, 5, 6] rfl)
            refine gF (v := .ref (ad 50)) hx hb hown hE hK hP 0 rfl rfl layM 50 (by decide) w520 rfl d_M_hasSameNames_40 ?_
            refine lv_bipush (v := 6) hx hb d_M_hasSameNames_43 (by decide) ?_
            refine lv_iload_n hx hb d_M_hasSameNames_45 rfl (lv_at hl 2 rfl) ?_
            refine lv_imul hx hb d_M_hasSameNames_46 (tpi (y := nI (6 * a)) (pk_mul (6) (a)) ?_)
            refine lv_iload hx hb d_M_hasSameNames_47 (lv_at hl 0 rfl) ?_
            refine lv_iadd hx hb d_M_hasSameNames_49 (tpi (y := nI ((6 * a) + k)) (nI_add (6 * a) (k)) ?_)
            refine nild (f := (fun z9 => nI (x.nameLengths z9))) hx hb hK hP 23 1 rfl rfl ((6 * a) + k) (by omega) (by decide) d_M_hasSameNames_50 ?_
            refine lv_istore hx hb d_M_hasSameNames_51 hl (by decide) rfl (fun ls hl => ?_)
            have hl : lv_has ls 7 [(5, .int (nI (x.nameLengths ((6 * a) + k)))), (4, .int (nI k)), (3, .int (bI v)), (1, .int (nI a)), (2, .int (nI b)), (0, .ref h)] := hl
            refine lv_iload hx hb d_M_hasSameNames_53 (lv_at hl 0 rfl) ?_
            refine lv_aload_n hx hb d_M_hasSameNames_55 rfl (lv_at hl 5 rfl) ?_
            refine gF (v := .ref (ad 50)) hx hb hown hE hK hP 0 rfl rfl layM 50 (by decide) w520 rfl d_M_hasSameNames_56 ?_
            refine lv_bipush (v := 6) hx hb d_M_hasSameNames_59 (by decide) ?_
            refine lv_iload_n hx hb d_M_hasSameNames_61 rfl (lv_at hl 4 rfl) ?_
            refine lv_imul hx hb d_M_hasSameNames_62 (tpi (y := nI (6 * b)) (pk_mul (6) (b)) ?_)
            refine lv_iload hx hb d_M_hasSameNames_63 (lv_at hl 1 rfl) ?_
            refine lv_iadd hx hb d_M_hasSameNames_65 (tpi (y := nI ((6 * b) + k)) (nI_add (6 * b) (k)) ?_)
            refine nild (f := (fun z9 => nI (x.nameLengths z9))) hx hb hK hP 23 1 rfl rfl ((6 * b) + k) (by omega) (by decide) d_M_hasSameNames_66 ?_
            refine lv_icmp_ne hx hb d_M_hasSameNames_67 (tgt := 74) rfl (fun g6 => ?_) (fun g6 => ?_)
            · have g6 := mt (nI_eq (a := x.nameLengths ((6 * a) + k)) (b := x.nameLengths ((6 * b) + k)) (by omega) (by omega)).mpr g6
              refine lv_iconst (v := 0) hx hb d_M_hasSameNames_74 (by decide) ?_
              exact J75 false (by simp [MS.nmL, *]) H _ ls hP hD hS (lv_sub hl [0, 1, 3, 4, 5] rfl)
            · have g6 := (nI_eq (a := x.nameLengths ((6 * a) + k)) (b := x.nameLengths ((6 * b) + k)) (by omega) (by omega)).mp g6
              refine lv_iconst (v := 1) hx hb d_M_hasSameNames_70 (by decide) ?_
              refine lv_goto hx hb d_M_hasSameNames_71 (tgt := 75) rfl ?_
              exact J75 true (by simp [MS.nmL, *]) H _ ls hP hD hS (lv_sub hl [0, 1, 3, 4, 5] rfl)
    exact L24 _ 0 v (Nat.zero_le _) (by rw [i0]; exact Bool.and_true _) rfl H _ ls hP hD hS (lv_sub hl [0, 1, 2, 3, 4] rfl)
  refine lv_aload_n hx hb d_M_hasSameNames_0 rfl (lv_at hl 0 rfl) ?_
  refine gF (v := .ref (ad 48)) hx hb hown hE hK hP 0 rfl rfl layM 48 (by decide) w518 rfl d_M_hasSameNames_1 ?_
  refine lv_iload_n hx hb d_M_hasSameNames_4 rfl (lv_at hl 1 rfl) ?_
  refine nild (f := (fun z9 => nI (x.tableNames z9))) hx hb hK hP 21 1 rfl rfl (a) (by omega) (by decide) d_M_hasSameNames_5 ?_
  refine lv_aload_n hx hb d_M_hasSameNames_6 rfl (lv_at hl 0 rfl) ?_
  refine gF (v := .ref (ad 48)) hx hb hown hE hK hP 0 rfl rfl layM 48 (by decide) w518 rfl d_M_hasSameNames_7 ?_
  refine lv_iload_n hx hb d_M_hasSameNames_10 rfl (lv_at hl 2 rfl) ?_
  refine nild (f := (fun z9 => nI (x.tableNames z9))) hx hb hK hP 21 1 rfl rfl (b) (by omega) (by decide) d_M_hasSameNames_11 ?_
  refine lv_icmp_ne hx hb d_M_hasSameNames_12 (tgt := 19) rfl (fun g7 => ?_) (fun g7 => ?_)
  · have g7 := mt (nI_eq (a := x.tableNames a) (b := x.tableNames b) (by omega) (by omega)).mpr g7
    refine lv_iconst (v := 0) hx hb d_M_hasSameNames_19 (by decide) ?_
    exact J20 false (by simp [*]) H _ ls hP hD hS (lv_sub hl [1, 2, 0] rfl)
  · have g7 := (nI_eq (a := x.tableNames a) (b := x.tableNames b) (by omega) (by omega)).mp g7
    refine lv_iconst (v := 1) hx hb d_M_hasSameNames_15 (by decide) ?_
    refine lv_goto hx hb d_M_hasSameNames_16 (tgt := 20) rfl ?_
    exact J20 true (by simp [*]) H _ ls hP hD hS (lv_sub hl [1, 2, 0] rfl)
