def sgTwo (a b : Int32) : Nat := if a = 33 ∧ b = 61 then 256 else if a = 94 ∧ b = 61 then 257 else if a = 33 ∧ b = 94 then 258 else 0
def sgOne (a : Int32) : Bool := decide (a = 43) || (decide (a = 45) || (decide (a = 42) || (decide (a = 47) || (decide (a = 37) || (decide (a = 40) || (decide (a = 41) || (decide (a = 123) || (decide (a = 125) || (decide (a = 44) || decide (a = 61))))))))))
/-- may a digit come behind this number -/
def ngB (g : Bool) (m : Int64) (d : Int32) : Bool := g && (decide (m < 922337203685477580) || (decide (m = 922337203685477580) && !decide (8 ≤ d)))
def ngA (g : Bool) (m : Int64) (d : Int32) : Int64 := if ngB g m d = true then 10 * m + d.toInt64 else m
/-- a number's digits: their end, is it small enough, its amount -/
def numG (f : Nat → Int32) (len : Nat) : Nat → Nat → Bool → Int64 → Nat × Bool × Int64
  | 0, q, g, m => (q, g, m)
  | w + 1, q, g, m => if isDg (atI f len q) = true then numG f len w (q + 1) (ngB g m (atI f len q - 48)) (ngA g m (atI f len q - 48)) else (q, g, m)
theorem numG_t {f : Nat → Int32} {len w q : Nat} {g : Bool} {m : Int64} (hw : 0 < w) (h : isDg (atI f len q) = true) : numG f len w q g m = numG f len (w - 1) (q + 1) (ngB g m (atI f len q - 48)) (ngA g m (atI f len q - 48)) := by
  obtain ⟨k, rfl⟩ : ∃ k, w = k + 1 := ⟨w - 1, by omega⟩
  exact if_pos h
theorem numG_f {f : Nat → Int32} {len w q : Nat} {g : Bool} {m : Int64} (h : isDg (atI f len q) = false) : numG f len w q g m = (q, g, m) := by
  cases w with
  | zero => rfl
  | succ w => exact if_neg (by rw [h]; decide)
theorem isDg_0 : isDg 0 = false := by decide
theorem atI_lt {f : Nat → Int32} {len q : Nat} (h : isDg (atI f len q) = true) : q < len := by
  refine Nat.lt_of_not_le fun z => ?_
  have e : atI f len q = 0 := if_pos z
  rw [e, isDg_0] at h
  cases h
theorem d_M_readSign_55 : decode prog_14_method_59_code 55 = .ok (.istore_n 3, 1) := by decide +kernel
theorem d_M_readSign_127 : decode prog_14_method_59_code 127 = .ok (.istore 4, 2) := by decide +kernel
theorem d_M_readSign_129 : decode prog_14_method_59_code 129 = .ok (.iload_n 3, 1) := by decide +kernel
theorem d_M_readSign_130 : decode prog_14_method_59_code 130 = .ok (.ifCond .ne 18, 3) := by decide +kernel
theorem d_M_readSign_133 : decode prog_14_method_59_code 133 = .ok (.iload 4, 2) := by decide +kernel
theorem d_M_readSign_135 : decode prog_14_method_59_code 135 = .ok (.ifCond .ne 13, 3) := by decide +kernel
theorem d_M_readSign_138 : decode prog_14_method_59_code 138 = .ok (.aload_n 0, 1) := by decide +kernel
theorem d_M_readSign_139 : decode prog_14_method_59_code 139 = .ok (.iconst 1, 1) := by decide +kernel
theorem d_M_readSign_140 : decode prog_14_method_59_code 140 = .ok (.aload_n 0, 1) := by decide +kernel
theorem d_M_readSign_141 : decode prog_14_method_59_code 141 = .ok (.getfield 345, 3) := by decide +kernel
theorem d_M_readSign_144 : decode prog_14_method_59_code 144 = .ok (.invokevirtual 224, 3) := by decide +kernel
theorem d_M_readSign_147 : decode prog_14_method_59_code 147 = .ok (.ireturn, 1) := by decide +kernel
theorem d_M_readSign_56 : decode prog_14_method_59_code 56 = .ok (.iload_n 1, 1) := by decide +kernel
theorem d_M_readSign_57 : decode prog_14_method_59_code 57 = .ok (.bipush 43, 2) := by decide +kernel
theorem d_M_readSign_59 : decode prog_14_method_59_code 59 = .ok (.if_icmp .eq 63, 3) := by decide +kernel
theorem d_M_readSign_122 : decode prog_14_method_59_code 122 = .ok (.iconst 1, 1) := by decide +kernel
theorem d_M_readSign_123 : decode prog_14_method_59_code 123 = .ok (.goto 4, 3) := by decide +kernel
theorem d_M_readSign_62 : decode prog_14_method_59_code 62 = .ok (.iload_n 1, 1) := by decide +kernel
theorem d_M_readSign_63 : decode prog_14_method_59_code 63 = .ok (.bipush 45, 2) := by decide +kernel
theorem d_M_readSign_65 : decode prog_14_method_59_code 65 = .ok (.if_icmp .eq 57, 3) := by decide +kernel
theorem d_M_readSign_68 : decode prog_14_method_59_code 68 = .ok (.iload_n 1, 1) := by decide +kernel
theorem d_M_readSign_69 : decode prog_14_method_59_code 69 = .ok (.bipush 42, 2) := by decide +kernel
theorem d_M_readSign_71 : decode prog_14_method_59_code 71 = .ok (.if_icmp .eq 51, 3) := by decide +kernel
theorem d_M_readSign_74 : decode prog_14_method_59_code 74 = .ok (.iload_n 1, 1) := by decide +kernel
theorem d_M_readSign_75 : decode prog_14_method_59_code 75 = .ok (.bipush 47, 2) := by decide +kernel
theorem d_M_readSign_77 : decode prog_14_method_59_code 77 = .ok (.if_icmp .eq 45, 3) := by decide +kernel
theorem d_M_readSign_80 : decode prog_14_method_59_code 80 = .ok (.iload_n 1, 1) := by decide +kernel
theorem d_M_readSign_81 : decode prog_14_method_59_code 81 = .ok (.bipush 37, 2) := by decide +kernel
theorem d_M_readSign_83 : decode prog_14_method_59_code 83 = .ok (.if_icmp .eq 39, 3) := by decide +kernel
theorem d_M_readSign_86 : decode prog_14_method_59_code 86 = .ok (.iload_n 1, 1) := by decide +kernel
theorem d_M_readSign_87 : decode prog_14_method_59_code 87 = .ok (.bipush 40, 2) := by decide +kernel
theorem d_M_readSign_89 : decode prog_14_method_59_code 89 = .ok (.if_icmp .eq 33, 3) := by decide +kernel
theorem d_M_readSign_92 : decode prog_14_method_59_code 92 = .ok (.iload_n 1, 1) := by decide +kernel
theorem d_M_readSign_93 : decode prog_14_method_59_code 93 = .ok (.bipush 41, 2) := by decide +kernel
theorem d_M_readSign_95 : decode prog_14_method_59_code 95 = .ok (.if_icmp .eq 27, 3) := by decide +kernel
theorem d_M_readSign_98 : decode prog_14_method_59_code 98 = .ok (.iload_n 1, 1) := by decide +kernel
theorem d_M_readSign_99 : decode prog_14_method_59_code 99 = .ok (.bipush 123, 2) := by decide +kernel
theorem d_M_readSign_101 : decode prog_14_method_59_code 101 = .ok (.if_icmp .eq 21, 3) := by decide +kernel
theorem d_M_readSign_104 : decode prog_14_method_59_code 104 = .ok (.iload_n 1, 1) := by decide +kernel
theorem d_M_readSign_105 : decode prog_14_method_59_code 105 = .ok (.bipush 125, 2) := by decide +kernel
theorem d_M_readSign_107 : decode prog_14_method_59_code 107 = .ok (.if_icmp .eq 15, 3) := by decide +kernel
theorem d_M_readSign_110 : decode prog_14_method_59_code 110 = .ok (.iload_n 1, 1) := by decide +kernel
theorem d_M_readSign_111 : decode prog_14_method_59_code 111 = .ok (.bipush 44, 2) := by decide +kernel
theorem d_M_readSign_113 : decode prog_14_method_59_code 113 = .ok (.if_icmp .eq 9, 3) := by decide +kernel
theorem d_M_readSign_116 : decode prog_14_method_59_code 116 = .ok (.iload_n 1, 1) := by decide +kernel
theorem d_M_readSign_117 : decode prog_14_method_59_code 117 = .ok (.bipush 61, 2) := by decide +kernel
theorem d_M_readSign_119 : decode prog_14_method_59_code 119 = .ok (.if_icmp .ne 7, 3) := by decide +kernel
theorem d_M_readSign_126 : decode prog_14_method_59_code 126 = .ok (.iconst 0, 1) := by decide +kernel
theorem d_M_readSign_0 : decode prog_14_method_59_code 0 = .ok (.iload_n 1, 1) := by decide +kernel
theorem d_M_readSign_1 : decode prog_14_method_59_code 1 = .ok (.bipush 33, 2) := by decide +kernel
theorem d_M_readSign_3 : decode prog_14_method_59_code 3 = .ok (.if_icmp .ne 15, 3) := by decide +kernel
theorem d_M_readSign_18 : decode prog_14_method_59_code 18 = .ok (.iload_n 1, 1) := by decide +kernel
theorem d_M_readSign_19 : decode prog_14_method_59_code 19 = .ok (.bipush 94, 2) := by decide +kernel
theorem d_M_readSign_21 : decode prog_14_method_59_code 21 = .ok (.if_icmp .ne 15, 3) := by decide +kernel
theorem d_M_readSign_36 : decode prog_14_method_59_code 36 = .ok (.iload_n 1, 1) := by decide +kernel
theorem d_M_readSign_37 : decode prog_14_method_59_code 37 = .ok (.bipush 33, 2) := by decide +kernel
theorem d_M_readSign_39 : decode prog_14_method_59_code 39 = .ok (.if_icmp .ne 15, 3) := by decide +kernel
theorem d_M_readSign_54 : decode prog_14_method_59_code 54 = .ok (.iconst 0, 1) := by decide +kernel
theorem d_M_readSign_24 : decode prog_14_method_59_code 24 = .ok (.iload_n 2, 1) := by decide +kernel
theorem d_M_readSign_25 : decode prog_14_method_59_code 25 = .ok (.bipush 61, 2) := by decide +kernel
theorem d_M_readSign_27 : decode prog_14_method_59_code 27 = .ok (.if_icmp .ne 9, 3) := by decide +kernel
theorem d_M_readSign_30 : decode prog_14_method_59_code 30 = .ok (.sipush 257, 3) := by decide +kernel
theorem d_M_readSign_33 : decode prog_14_method_59_code 33 = .ok (.goto 22, 3) := by decide +kernel
theorem d_M_readSign_6 : decode prog_14_method_59_code 6 = .ok (.iload_n 2, 1) := by decide +kernel
theorem d_M_readSign_7 : decode prog_14_method_59_code 7 = .ok (.bipush 61, 2) := by decide +kernel
theorem d_M_readSign_9 : decode prog_14_method_59_code 9 = .ok (.if_icmp .ne 9, 3) := by decide +kernel
theorem d_M_readSign_42 : decode prog_14_method_59_code 42 = .ok (.iload_n 2, 1) := by decide +kernel
theorem d_M_readSign_43 : decode prog_14_method_59_code 43 = .ok (.bipush 94, 2) := by decide +kernel
theorem d_M_readSign_45 : decode prog_14_method_59_code 45 = .ok (.if_icmp .ne 9, 3) := by decide +kernel
theorem d_M_readSign_48 : decode prog_14_method_59_code 48 = .ok (.sipush 258, 3) := by decide +kernel
theorem d_M_readSign_51 : decode prog_14_method_59_code 51 = .ok (.goto 4, 3) := by decide +kernel
theorem d_M_readSign_12 : decode prog_14_method_59_code 12 = .ok (.sipush 256, 3) := by decide +kernel
theorem d_M_readSign_15 : decode prog_14_method_59_code 15 = .ok (.goto 40, 3) := by decide +kernel
set_option maxHeartbeats 4000000 in
set_option maxRecDepth 100000 in
theorem k_readSign_x (l : Launch) (D : va_G) (dA : Nat → ClassId) (sz : Nat) (h : Nat) (ad : Nat → Nat) (x : MS) (a : Int32) (b : Int32) (h0 : sgTwo a b = 0) (h1 : sgOne a = false) (hf : x.faultCode = 0) : Met l ⟨"SeriesVaultModel", "readSign", "(II)Z"⟩ [Cond.code ⟨"SeriesVaultModel", "readSign", "(II)Z"⟩ prog_14_method_59_code 5 (some FieldType.boolean)] { frames := 2, cells := 0, slots := 0, locals := 22 } (pC D dA [.ref h, .int a, .int b] (MW dA h ad x) sz) (va_Qi (fun (r9 : Int32) (u9 : Unit) => r9 = bI false) (fun (u9 : Unit) t9 => bW D (va_A (MW dA h ad x) sz) (MW dA h ad (MS.s_faultPlace (MS.s_faultCode x 1) (nI x.frm))) t9) (va_A (MW dA h ad x) sz)) 0 0 (va_A (MW dA h ad x) sz) := by
  refine mkC (y := ⟨"SeriesVaultModel", "readSign", "(II)Z"⟩) (cc := prog_14_method_59_code) (maxL := 5) (av := [.ref h, .int a, .int b]) (ws := MW dA h ad x) (sz := sz) (Qc := fun A => va_Qi (fun (r9 : Int32) (u9 : Unit) => r9 = bI false) (fun (u9 : Unit) t9 => bW D A (MW dA h ad (MS.s_faultPlace (MS.s_faultCode x 1) (nI x.frm))) t9) A) (by decide) (Nat.le_of_ble_eq_true rfl) ?_
  intro A p e s m below meth c ls hsz hB
  obtain ⟨hx, hb, hr, hml, hown, hin, hlk, hE, hK, hP, hD, hS, hA, hN, hl⟩ := hB
  have hown : s.vm.findClass "SeriesVaultModel" = some m.cls := hown
  have hl : lv_has ls 5 [(0, .ref h), (1, .int a), (2, .int b)] := hl
  obtain ⟨H, hH⟩ : ∃ z, z = s.heap := ⟨_, rfl⟩
  have hP : va_P D vwCl (MW dA h ad x) H := by rw [hH]; exact hP
  have hS : va_S A s.heap H [] := by rw [hH]; exact hS
  rw [← hH]
  have J55 : ∀ (w : Nat) (j1 : sgTwo a b = w), ∀ (H : Heap) (locs : List Loc) (ls : Array Slot) (hP : va_P D vwCl (MW dA h ad x) H) (hD : va_D A (MW dA h ad x)) (hS : va_S A s.heap H locs) (hl : lv_has ls 5 [(1, .int a), (2, .int b), (0, .ref h)]), W p l e ({ frames := 2, cells := 0, slots := 0, locals := 22 } : Room) s m ([.ref h, .int a, .int b] : List Value).toArray below meth c H locs 0 0 (MQ below (va_Qi (fun (r9 : Int32) (u9 : Unit) => r9 = bI false) (fun (u9 : Unit) t9 => bW D A (MW dA h ad (MS.s_faultPlace (MS.s_faultCode x 1) (nI x.frm))) t9) A) ([.ref h, .int a, .int b] : List Value).toArray s 0 0 A) (F0 m 55 ls [.int (nI w)]) := by
    intro w j1 H locs ls hP hD hS hl
    refine lv_istore_n hx hb d_M_readSign_55 rfl hl (by decide) rfl (fun ls hl => ?_)
    have hl : lv_has ls 5 [(3, .int (nI w)), (1, .int a), (2, .int b), (0, .ref h)] := hl
    have J127 : ∀ (v : Bool) (j2 : sgOne a = v), ∀ (H : Heap) (locs : List Loc) (ls : Array Slot) (hP : va_P D vwCl (MW dA h ad x) H) (hD : va_D A (MW dA h ad x)) (hS : va_S A s.heap H locs) (hl : lv_has ls 5 [(3, .int (nI w)), (1, .int a), (2, .int b), (0, .ref h)]), W p l e ({ frames := 2, cells := 0, slots := 0, locals := 22 } : Room) s m ([.ref h, .int a, .int b] : List Value).toArray below meth c H locs 0 0 (MQ below (va_Qi (fun (r9 : Int32) (u9 : Unit) => r9 = bI false) (fun (u9 : Unit) t9 => bW D A (MW dA h ad (MS.s_faultPlace (MS.s_faultCode x 1) (nI x.frm))) t9) A) ([.ref h, .int a, .int b] : List Value).toArray s 0 0 A) (F0 m 127 ls [.int (bI v)]) := by
      intro v j2 H locs ls hP hD hS hl
      have w0 : w = 0 := j1.symm.trans h0
      have v0 : v = false := j2.symm.trans h1
      refine lv_istore hx hb d_M_readSign_127 hl (by decide) rfl (fun ls hl => ?_)
      have hl : lv_has ls 5 [(4, .int (bI v)), (3, .int (nI w)), (1, .int a), (2, .int b), (0, .ref h)] := hl
      refine lv_iload_n hx hb d_M_readSign_129 rfl (lv_at hl 1 rfl) ?_
      refine lv_if_ne hx hb d_M_readSign_130 (tgt := 148) rfl (fun h9 => absurd (by rw [w0]; decide) h9) (fun _ => ?_)
      refine lv_iload hx hb d_M_readSign_133 (lv_at hl 0 rfl) ?_
      refine lv_if_ne hx hb d_M_readSign_135 (tgt := 148) rfl (fun h9 => absurd (by rw [v0]; decide) h9) (fun _ => ?_)
      refine lv_aload_n hx hb d_M_readSign_138 rfl (lv_at hl 4 rfl) ?_
      refine lv_iconst (v := 1) hx hb d_M_readSign_139 (by decide) ?_
      refine lv_aload_n hx hb d_M_readSign_140 rfl (lv_at hl 4 rfl) ?_
      refine gF (v := .int (nI x.frm)) hx hb hown hE hK hP 0 rfl rfl layM 45 (by decide) w464 rfl d_M_readSign_141 ?_
      refine jfI (rnV (As := [.int 1, .int (nI x.frm)]) (rest := []) hx hb hml hown hE hK (hN _ _ hS) hP hD (k_flaw_0 l D dA H.size h ad x 1 (nI x.frm) hf) (q0 := 0) rfl rfl w431 w430 w432 w433 w328 rfl rfl ⟨⟨by decide, by decide⟩, rfl⟩ ⟨(Nat.le_of_ble_eq_true rfl), (Nat.le_of_ble_eq_true rfl)⟩ rfl hl.1 rfl (Nat.le_of_ble_eq_true rfl) d_M_readSign_144 ⟨(Nat.le_of_ble_eq_true rfl), (Nat.le_of_ble_eq_true rfl)⟩) hP hD hS hA (fun r1 u2 H locs hp9 hP hD hS => ?_)
      have hP : va_P D vwCl (MW dA h ad (MS.s_faultPlace (MS.s_faultCode x 1) (nI x.frm))) H := hP
      have hD : va_D A (MW dA h ad (MS.s_faultPlace (MS.s_faultCode x 1) (nI x.frm))) := hD
      replace hp9 : bI false = r1 := Eq.symm hp9
      subst hp9
      exact rfZ hx hb hr (bI_nar false) hlk hS () rfl hP hD (Nat.le_of_ble_eq_true rfl) (Nat.le_of_ble_eq_true rfl) d_M_readSign_147
    refine lv_iload_n hx hb d_M_readSign_56 rfl (lv_at hl 1 rfl) ?_
    refine lv_bipush (v := 43) hx hb d_M_readSign_57 (by decide) ?_
    refine lv_icmp_eq hx hb d_M_readSign_59 (tgt := 122) rfl (fun g3 => ?_) (fun g3 => ?_)
    · have g3 := g3
      refine lv_iconst (v := 1) hx hb d_M_readSign_122 (by decide) ?_
      refine lv_goto hx hb d_M_readSign_123 (tgt := 127) rfl ?_
      exact J127 true (by simp [sgOne, *]) H _ ls hP hD hS (lv_sub hl [0, 1, 2, 3] rfl)
    · have g3 := g3
      refine lv_iload_n hx hb d_M_readSign_62 rfl (lv_at hl 1 rfl) ?_
      refine lv_bipush (v := 45) hx hb d_M_readSign_63 (by decide) ?_
      refine lv_icmp_eq hx hb d_M_readSign_65 (tgt := 122) rfl (fun g4 => ?_) (fun g4 => ?_)
      · have g4 := g4
        refine lv_iconst (v := 1) hx hb d_M_readSign_122 (by decide) ?_
        refine lv_goto hx hb d_M_readSign_123 (tgt := 127) rfl ?_
        exact J127 true (by simp [sgOne, *]) H _ ls hP hD hS (lv_sub hl [0, 1, 2, 3] rfl)
      · have g4 := g4
        refine lv_iload_n hx hb d_M_readSign_68 rfl (lv_at hl 1 rfl) ?_
        refine lv_bipush (v := 42) hx hb d_M_readSign_69 (by decide) ?_
        refine lv_icmp_eq hx hb d_M_readSign_71 (tgt := 122) rfl (fun g5 => ?_) (fun g5 => ?_)
        · have g5 := g5
          refine lv_iconst (v := 1) hx hb d_M_readSign_122 (by decide) ?_
          refine lv_goto hx hb d_M_readSign_123 (tgt := 127) rfl ?_
          exact J127 true (by simp [sgOne, *]) H _ ls hP hD hS (lv_sub hl [0, 1, 2, 3] rfl)
        · have g5 := g5
          refine lv_iload_n hx hb d_M_readSign_74 rfl (lv_at hl 1 rfl) ?_
          refine lv_bipush (v := 47) hx hb d_M_readSign_75 (by decide) ?_
          refine lv_icmp_eq hx hb d_M_readSign_77 (tgt := 122) rfl (fun g6 => ?_) (fun g6 => ?_)
          · have g6 := g6
            refine lv_iconst (v := 1) hx hb d_M_readSign_122 (by decide) ?_
            refine lv_goto hx hb d_M_readSign_123 (tgt := 127) rfl ?_
            exact J127 true (by simp [sgOne, *]) H _ ls hP hD hS (lv_sub hl [0, 1, 2, 3] rfl)
          · have g6 := g6
            refine lv_iload_n hx hb d_M_readSign_80 rfl (lv_at hl 1 rfl) ?_
            refine lv_bipush (v := 37) hx hb d_M_readSign_81 (by decide) ?_
            refine lv_icmp_eq hx hb d_M_readSign_83 (tgt := 122) rfl (fun g7 => ?_) (fun g7 => ?_)
            · have g7 := g7
              refine lv_iconst (v := 1) hx hb d_M_readSign_122 (by decide) ?_
              refine lv_goto hx hb d_M_readSign_123 (tgt := 127) rfl ?_
              exact J127 true (by simp [sgOne, *]) H _ ls hP hD hS (lv_sub hl [0, 1, 2, 3] rfl)
            · have g7 := g7
              refine lv_iload_n hx hb d_M_readSign_86 rfl (lv_at hl 1 rfl) ?_
              refine lv_bipush (v := 40) hx hb d_M_readSign_87 (by decide) ?_
              refine lv_icmp_eq hx hb d_M_readSign_89 (tgt := 122) rfl (fun g8 => ?_) (fun g8 => ?_)
              · have g8 := g8
                refine lv_iconst (v := 1) hx hb d_M_readSign_122 (by decide) ?_
                refine lv_goto hx hb d_M_readSign_123 (tgt := 127) rfl ?_
                exact J127 true (by simp [sgOne, *]) H _ ls hP hD hS (lv_sub hl [0, 1, 2, 3] rfl)
              · have g8 := g8
                refine lv_iload_n hx hb d_M_readSign_92 rfl (lv_at hl 1 rfl) ?_
                refine lv_bipush (v := 41) hx hb d_M_readSign_93 (by decide) ?_
                refine lv_icmp_eq hx hb d_M_readSign_95 (tgt := 122) rfl (fun g9 => ?_) (fun g9 => ?_)
                · have g9 := g9
                  refine lv_iconst (v := 1) hx hb d_M_readSign_122 (by decide) ?_
                  refine lv_goto hx hb d_M_readSign_123 (tgt := 127) rfl ?_
                  exact J127 true (by simp [sgOne, *]) H _ ls hP hD hS (lv_sub hl [0, 1, 2, 3] rfl)
                · have g9 := g9
                  refine lv_iload_n hx hb d_M_readSign_98 rfl (lv_at hl 1 rfl) ?_
                  refine lv_bipush (v := 123) hx hb d_M_readSign_99 (by decide) ?_
                  refine lv_icmp_eq hx hb d_M_readSign_101 (tgt := 122) rfl (fun g10 => ?_) (fun g10 => ?_)
                  · have g10 := g10
                    refine lv_iconst (v := 1) hx hb d_M_readSign_122 (by decide) ?_
                    refine lv_goto hx hb d_M_readSign_123 (tgt := 127) rfl ?_
                    exact J127 true (by simp [sgOne, *]) H _ ls hP hD hS (lv_sub hl [0, 1, 2, 3] rfl)
                  · have g10 := g10
                    refine lv_iload_n hx hb d_M_readSign_104 rfl (lv_at hl 1 rfl) ?_
                    refine lv_bipush (v := 125) hx hb d_M_readSign_105 (by decide) ?_
                    refine lv_icmp_eq hx hb d_M_readSign_107 (tgt := 122) rfl (fun g11 => ?_) (fun g11 => ?_)
                    · have g11 := g11
                      refine lv_iconst (v := 1) hx hb d_M_readSign_122 (by decide) ?_
                      refine lv_goto hx hb d_M_readSign_123 (tgt := 127) rfl ?_
                      exact J127 true (by simp [sgOne, *]) H _ ls hP hD hS (lv_sub hl [0, 1, 2, 3] rfl)
                    · have g11 := g11
                      refine lv_iload_n hx hb d_M_readSign_110 rfl (lv_at hl 1 rfl) ?_
                      refine lv_bipush (v := 44) hx hb d_M_readSign_111 (by decide) ?_
                      refine lv_icmp_eq hx hb d_M_readSign_113 (tgt := 122) rfl (fun g12 => ?_) (fun g12 => ?_)
                      · have g12 := g12
                        refine lv_iconst (v := 1) hx hb d_M_readSign_122 (by decide) ?_
                        refine lv_goto hx hb d_M_readSign_123 (tgt := 127) rfl ?_
                        exact J127 true (by simp [sgOne, *]) H _ ls hP hD hS (lv_sub hl [0, 1, 2, 3] rfl)
                      · have g12 := g12
                        refine lv_iload_n hx hb d_M_readSign_116 rfl (lv_at hl 1 rfl) ?_
                        refine lv_bipush (v := 61) hx hb d_M_readSign_117 (by decide) ?_
                        refine lv_icmp_ne hx hb d_M_readSign_119 (tgt := 126) rfl (fun g13 => ?_) (fun g13 => ?_)
                        · have g13 := g13
                          refine lv_iconst (v := 0) hx hb d_M_readSign_126 (by decide) ?_
                          exact J127 false (by simp [sgOne, *]) H _ ls hP hD hS (lv_sub hl [0, 1, 2, 3] rfl)
                        · have g13 := g13
                          refine lv_iconst (v := 1) hx hb d_M_readSign_122 (by decide) ?_
                          refine lv_goto hx hb d_M_readSign_123 (tgt := 127) rfl ?_
                          exact J127 true (by simp [sgOne, *]) H _ ls hP hD hS (lv_sub hl [0, 1, 2, 3] rfl)
  refine lv_iload_n hx hb d_M_readSign_0 rfl (lv_at hl 1 rfl) ?_
  refine lv_bipush (v := 33) hx hb d_M_readSign_1 (by decide) ?_
  refine lv_icmp_ne hx hb d_M_readSign_3 (tgt := 18) rfl (fun g14 => ?_) (fun g14 => ?_)
  · have g14 := g14
    refine lv_iload_n hx hb d_M_readSign_18 rfl (lv_at hl 1 rfl) ?_
    refine lv_bipush (v := 94) hx hb d_M_readSign_19 (by decide) ?_
    refine lv_icmp_ne hx hb d_M_readSign_21 (tgt := 36) rfl (fun g15 => ?_) (fun g15 => ?_)
    · have g15 := g15
      refine lv_iload_n hx hb d_M_readSign_36 rfl (lv_at hl 1 rfl) ?_
      refine lv_bipush (v := 33) hx hb d_M_readSign_37 (by decide) ?_
      refine lv_icmp_ne hx hb d_M_readSign_39 (tgt := 54) rfl (fun _ => ?_) (fun h9 => absurd h9 g14)
      refine lv_iconst (v := 0) hx hb d_M_readSign_54 (by decide) ?_
      exact J55 0 (by simp [sgTwo, *]) H _ ls hP hD hS (lv_sub hl [1, 2, 0] rfl)
    · have g15 := g15
      refine lv_iload_n hx hb d_M_readSign_24 rfl (lv_at hl 2 rfl) ?_
      refine lv_bipush (v := 61) hx hb d_M_readSign_25 (by decide) ?_
      refine lv_icmp_ne hx hb d_M_readSign_27 (tgt := 36) rfl (fun g16 => ?_) (fun g16 => ?_)
      · have g16 := g16
        refine lv_iload_n hx hb d_M_readSign_36 rfl (lv_at hl 1 rfl) ?_
        refine lv_bipush (v := 33) hx hb d_M_readSign_37 (by decide) ?_
        refine lv_icmp_ne hx hb d_M_readSign_39 (tgt := 54) rfl (fun _ => ?_) (fun h9 => absurd h9 g14)
        refine lv_iconst (v := 0) hx hb d_M_readSign_54 (by decide) ?_
        exact J55 0 (by simp [sgTwo, *]) H _ ls hP hD hS (lv_sub hl [1, 2, 0] rfl)
      · have g16 := g16
        refine lv_sipush (v := 257) hx hb d_M_readSign_30 (by decide) ?_
        refine lv_goto hx hb d_M_readSign_33 (tgt := 55) rfl ?_
        exact J55 257 (by simp [sgTwo, *]) H _ ls hP hD hS (lv_sub hl [1, 2, 0] rfl)
  · have g14 := g14
    refine lv_iload_n hx hb d_M_readSign_6 rfl (lv_at hl 2 rfl) ?_
    refine lv_bipush (v := 61) hx hb d_M_readSign_7 (by decide) ?_
    refine lv_icmp_ne hx hb d_M_readSign_9 (tgt := 18) rfl (fun g17 => ?_) (fun g17 => ?_)
    · have g17 := g17
      refine lv_iload_n hx hb d_M_readSign_18 rfl (lv_at hl 1 rfl) ?_
      refine lv_bipush (v := 94) hx hb d_M_readSign_19 (by decide) ?_
      refine lv_icmp_ne hx hb d_M_readSign_21 (tgt := 36) rfl (fun g18 => ?_) (fun g18 => ?_)
      · have g18 := g18
        refine lv_iload_n hx hb d_M_readSign_36 rfl (lv_at hl 1 rfl) ?_
        refine lv_bipush (v := 33) hx hb d_M_readSign_37 (by decide) ?_
        refine lv_icmp_ne hx hb d_M_readSign_39 (tgt := 54) rfl (fun h9 => absurd g14 h9) (fun _ => ?_)
        refine lv_iload_n hx hb d_M_readSign_42 rfl (lv_at hl 2 rfl) ?_
        refine lv_bipush (v := 94) hx hb d_M_readSign_43 (by decide) ?_
        refine lv_icmp_ne hx hb d_M_readSign_45 (tgt := 54) rfl (fun g19 => ?_) (fun g19 => ?_)
        · have g19 := g19
          refine lv_iconst (v := 0) hx hb d_M_readSign_54 (by decide) ?_
          exact J55 0 (by simp [sgTwo, *]) H _ ls hP hD hS (lv_sub hl [1, 2, 0] rfl)
        · have g19 := g19
          refine lv_sipush (v := 258) hx hb d_M_readSign_48 (by decide) ?_
          refine lv_goto hx hb d_M_readSign_51 (tgt := 55) rfl ?_
          exact J55 258 (by simp [sgTwo, *]) H _ ls hP hD hS (lv_sub hl [1, 2, 0] rfl)
      · have g18 := g18
        refine lv_iload_n hx hb d_M_readSign_24 rfl (lv_at hl 2 rfl) ?_
        refine lv_bipush (v := 61) hx hb d_M_readSign_25 (by decide) ?_
        refine lv_icmp_ne hx hb d_M_readSign_27 (tgt := 36) rfl (fun _ => ?_) (fun h9 => absurd h9 g17)
        refine lv_iload_n hx hb d_M_readSign_36 rfl (lv_at hl 1 rfl) ?_
        refine lv_bipush (v := 33) hx hb d_M_readSign_37 (by decide) ?_
        refine lv_icmp_ne hx hb d_M_readSign_39 (tgt := 54) rfl (fun h9 => absurd g14 h9) (fun _ => ?_)
        refine lv_iload_n hx hb d_M_readSign_42 rfl (lv_at hl 2 rfl) ?_
        refine lv_bipush (v := 94) hx hb d_M_readSign_43 (by decide) ?_
        refine lv_icmp_ne hx hb d_M_readSign_45 (tgt := 54) rfl (fun g20 => ?_) (fun g20 => ?_)
        · have g20 := g20
          refine lv_iconst (v := 0) hx hb d_M_readSign_54 (by decide) ?_
          exact J55 0 (by simp [sgTwo, *]) H _ ls hP hD hS (lv_sub hl [1, 2, 0] rfl)
        · have g20 := g20
          refine lv_sipush (v := 258) hx hb d_M_readSign_48 (by decide) ?_
          refine lv_goto hx hb d_M_readSign_51 (tgt := 55) rfl ?_
          exact J55 258 (by simp [sgTwo, *]) H _ ls hP hD hS (lv_sub hl [1, 2, 0] rfl)
    · have g17 := g17
      refine lv_sipush (v := 256) hx hb d_M_readSign_12 (by decide) ?_
      refine lv_goto hx hb d_M_readSign_15 (tgt := 55) rfl ?_
      exact J55 256 (by simp [sgTwo, *]) H _ ls hP hD hS (lv_sub hl [1, 2, 0] rfl)
theorem d_M_readSign_148 : decode prog_14_method_59_code 148 = .ok (.aload_n 0, 1) := by decide +kernel
theorem d_M_readSign_149 : decode prog_14_method_59_code 149 = .ok (.iload_n 3, 1) := by decide +kernel
theorem d_M_readSign_150 : decode prog_14_method_59_code 150 = .ok (.ifCond .le 7, 3) := by decide +kernel
theorem d_M_readSign_157 : decode prog_14_method_59_code 157 = .ok (.iload_n 1, 1) := by decide +kernel
theorem d_M_readSign_158 : decode prog_14_method_59_code 158 = .ok (.putfield 351, 3) := by decide +kernel
theorem d_M_readSign_161 : decode prog_14_method_59_code 161 = .ok (.aload_n 0, 1) := by decide +kernel
theorem d_M_readSign_162 : decode prog_14_method_59_code 162 = .ok (.aload_n 0, 1) := by decide +kernel
theorem d_M_readSign_163 : decode prog_14_method_59_code 163 = .ok (.getfield 345, 3) := by decide +kernel
theorem d_M_readSign_166 : decode prog_14_method_59_code 166 = .ok (.iload_n 3, 1) := by decide +kernel
theorem d_M_readSign_167 : decode prog_14_method_59_code 167 = .ok (.ifCond .le 7, 3) := by decide +kernel
theorem d_M_readSign_174 : decode prog_14_method_59_code 174 = .ok (.iconst 1, 1) := by decide +kernel
theorem d_M_readSign_175 : decode prog_14_method_59_code 175 = .ok (.iadd, 1) := by decide +kernel
theorem d_M_readSign_176 : decode prog_14_method_59_code 176 = .ok (.putfield 342, 3) := by decide +kernel
theorem d_M_readSign_179 : decode prog_14_method_59_code 179 = .ok (.iconst 1, 1) := by decide +kernel
theorem d_M_readSign_180 : decode prog_14_method_59_code 180 = .ok (.ireturn, 1) := by decide +kernel
set_option maxHeartbeats 4000000 in
set_option maxRecDepth 100000 in
theorem k_readSign_1 (l : Launch) (D : va_G) (dA : Nat → ClassId) (sz : Nat) (h : Nat) (ad : Nat → Nat) (x : MS) (a : Int32) (b : Int32) (h0 : sgTwo a b = 0) (h1 : sgOne a = true) : Met l ⟨"SeriesVaultModel", "readSign", "(II)Z"⟩ [Cond.code ⟨"SeriesVaultModel", "readSign", "(II)Z"⟩ prog_14_method_59_code 5 (some FieldType.boolean)] { frames := 1, cells := 0, slots := 0, locals := 0 } (pC D dA [.ref h, .int a, .int b] (MW dA h ad x) sz) (va_Qi (fun (r9 : Int32) (u9 : Unit) => r9 = bI true) (fun (u9 : Unit) t9 => bW D (va_A (MW dA h ad x) sz) (MW dA h ad (MS.s_too (MS.s_kind x a) (x.frm + 1))) t9) (va_A (MW dA h ad x) sz)) 0 0 (va_A (MW dA h ad x) sz) := by
  refine mkC (y := ⟨"SeriesVaultModel", "readSign", "(II)Z"⟩) (cc := prog_14_method_59_code) (maxL := 5) (av := [.ref h, .int a, .int b]) (ws := MW dA h ad x) (sz := sz) (Qc := fun A => va_Qi (fun (r9 : Int32) (u9 : Unit) => r9 = bI true) (fun (u9 : Unit) t9 => bW D A (MW dA h ad (MS.s_too (MS.s_kind x a) (x.frm + 1))) t9) A) (by decide) (Nat.le_of_ble_eq_true rfl) ?_
  intro A p e s m below meth c ls hsz hB
  obtain ⟨hx, hb, hr, hml, hown, hin, hlk, hE, hK, hP, hD, hS, hA, hN, hl⟩ := hB
  have hown : s.vm.findClass "SeriesVaultModel" = some m.cls := hown
  have hl : lv_has ls 5 [(0, .ref h), (1, .int a), (2, .int b)] := hl
  obtain ⟨H, hH⟩ : ∃ z, z = s.heap := ⟨_, rfl⟩
  have hP : va_P D vwCl (MW dA h ad x) H := by rw [hH]; exact hP
  have hS : va_S A s.heap H [] := by rw [hH]; exact hS
  rw [← hH]
  have J55 : ∀ (w : Nat) (j1 : sgTwo a b = w), ∀ (H : Heap) (locs : List Loc) (ls : Array Slot) (hP : va_P D vwCl (MW dA h ad x) H) (hD : va_D A (MW dA h ad x)) (hS : va_S A s.heap H locs) (hl : lv_has ls 5 [(1, .int a), (2, .int b), (0, .ref h)]), W p l e ({ frames := 1, cells := 0, slots := 0, locals := 0 } : Room) s m ([.ref h, .int a, .int b] : List Value).toArray below meth c H locs 0 0 (MQ below (va_Qi (fun (r9 : Int32) (u9 : Unit) => r9 = bI true) (fun (u9 : Unit) t9 => bW D A (MW dA h ad (MS.s_too (MS.s_kind x a) (x.frm + 1))) t9) A) ([.ref h, .int a, .int b] : List Value).toArray s 0 0 A) (F0 m 55 ls [.int (nI w)]) := by
    intro w j1 H locs ls hP hD hS hl
    refine lv_istore_n hx hb d_M_readSign_55 rfl hl (by decide) rfl (fun ls hl => ?_)
    have hl : lv_has ls 5 [(3, .int (nI w)), (1, .int a), (2, .int b), (0, .ref h)] := hl
    have J127 : ∀ (v : Bool) (j2 : sgOne a = v), ∀ (H : Heap) (locs : List Loc) (ls : Array Slot) (hP : va_P D vwCl (MW dA h ad x) H) (hD : va_D A (MW dA h ad x)) (hS : va_S A s.heap H locs) (hl : lv_has ls 5 [(3, .int (nI w)), (1, .int a), (2, .int b), (0, .ref h)]), W p l e ({ frames := 1, cells := 0, slots := 0, locals := 0 } : Room) s m ([.ref h, .int a, .int b] : List Value).toArray below meth c H locs 0 0 (MQ below (va_Qi (fun (r9 : Int32) (u9 : Unit) => r9 = bI true) (fun (u9 : Unit) t9 => bW D A (MW dA h ad (MS.s_too (MS.s_kind x a) (x.frm + 1))) t9) A) ([.ref h, .int a, .int b] : List Value).toArray s 0 0 A) (F0 m 127 ls [.int (bI v)]) := by
      intro v j2 H locs ls hP hD hS hl
      have w0 : w = 0 := j1.symm.trans h0
      have v0 : v = true := j2.symm.trans h1
      refine lv_istore hx hb d_M_readSign_127 hl (by decide) rfl (fun ls hl => ?_)
      have hl : lv_has ls 5 [(4, .int (bI v)), (3, .int (nI w)), (1, .int a), (2, .int b), (0, .ref h)] := hl
      refine lv_iload_n hx hb d_M_readSign_129 rfl (lv_at hl 1 rfl) ?_
      refine lv_if_ne hx hb d_M_readSign_130 (tgt := 148) rfl (fun h9 => absurd (by rw [w0]; decide) h9) (fun _ => ?_)
      refine lv_iload hx hb d_M_readSign_133 (lv_at hl 0 rfl) ?_
      refine lv_if_ne hx hb d_M_readSign_135 (tgt := 148) rfl (fun _ => ?_) (fun h9 => absurd h9 (by rw [v0]; decide))
      refine lv_aload_n hx hb d_M_readSign_148 rfl (lv_at hl 4 rfl) ?_
      refine lv_iload_n hx hb d_M_readSign_149 rfl (lv_at hl 1 rfl) ?_
      refine lv_if_le hx hb d_M_readSign_150 (tgt := 157) rfl (fun _ => ?_) (fun h9 => absurd (by rw [w0]; decide) h9)
      refine lv_iload_n hx hb d_M_readSign_157 rfl (lv_at hl 2 rfl) ?_
      refine pF (v := .int a) hx hb hown hE hK hP hD hS 0 rfl rfl layM tyM tokM nmM 44 (by decide) w469 rfl rfl rfl (Nat.le_of_ble_eq_true rfl) d_M_readSign_158 (fun H locs hP hD hS => ?_)
      have hP : va_P D vwCl (MW dA h ad (MS.s_kind x a)) H := hP
      have hD : va_D A (MW dA h ad (MS.s_kind x a)) := hD
      refine lv_aload_n hx hb d_M_readSign_161 rfl (lv_at hl 4 rfl) ?_
      refine lv_aload_n hx hb d_M_readSign_162 rfl (lv_at hl 4 rfl) ?_
      refine gF (v := .int (nI x.frm)) hx hb hown hE hK hP 0 rfl rfl layM 45 (by decide) w464 rfl d_M_readSign_163 ?_
      refine lv_iload_n hx hb d_M_readSign_166 rfl (lv_at hl 1 rfl) ?_
      refine lv_if_le hx hb d_M_readSign_167 (tgt := 174) rfl (fun _ => ?_) (fun h9 => absurd (by rw [w0]; decide) h9)
      refine lv_iconst (v := 1) hx hb d_M_readSign_174 (by decide) ?_
      refine lv_iadd hx hb d_M_readSign_175 (tpi (y := nI (x.frm + 1)) (nI_add (x.frm) (1)) ?_)
      refine pF (v := .int (nI (x.frm + 1))) hx hb hown hE hK hP hD hS 0 rfl rfl layM tyM tokM nmM 46 (by decide) w463 rfl rfl rfl (Nat.le_of_ble_eq_true rfl) d_M_readSign_176 (fun H locs hP hD hS => ?_)
      have hP : va_P D vwCl (MW dA h ad (MS.s_too (MS.s_kind x a) (x.frm + 1))) H := hP
      have hD : va_D A (MW dA h ad (MS.s_too (MS.s_kind x a) (x.frm + 1))) := hD
      refine lv_iconst (v := 1) hx hb d_M_readSign_179 (by decide) ?_
      exact rfZ hx hb hr (bI_nar true) hlk hS () rfl hP hD (Nat.le_of_ble_eq_true rfl) (Nat.le_of_ble_eq_true rfl) d_M_readSign_180
    refine lv_iload_n hx hb d_M_readSign_56 rfl (lv_at hl 1 rfl) ?_
    refine lv_bipush (v := 43) hx hb d_M_readSign_57 (by decide) ?_
    refine lv_icmp_eq hx hb d_M_readSign_59 (tgt := 122) rfl (fun g1 => ?_) (fun g1 => ?_)
    · have g1 := g1
      refine lv_iconst (v := 1) hx hb d_M_readSign_122 (by decide) ?_
      refine lv_goto hx hb d_M_readSign_123 (tgt := 127) rfl ?_
      exact J127 true (by simp [sgOne, *]) H _ ls hP hD hS (lv_sub hl [0, 1, 2, 3] rfl)
    · have g1 := g1
      refine lv_iload_n hx hb d_M_readSign_62 rfl (lv_at hl 1 rfl) ?_
      refine lv_bipush (v := 45) hx hb d_M_readSign_63 (by decide) ?_
      refine lv_icmp_eq hx hb d_M_readSign_65 (tgt := 122) rfl (fun g2 => ?_) (fun g2 => ?_)
      · have g2 := g2
        refine lv_iconst (v := 1) hx hb d_M_readSign_122 (by decide) ?_
        refine lv_goto hx hb d_M_readSign_123 (tgt := 127) rfl ?_
        exact J127 true (by simp [sgOne, *]) H _ ls hP hD hS (lv_sub hl [0, 1, 2, 3] rfl)
      · have g2 := g2
        refine lv_iload_n hx hb d_M_readSign_68 rfl (lv_at hl 1 rfl) ?_
        refine lv_bipush (v := 42) hx hb d_M_readSign_69 (by decide) ?_
        refine lv_icmp_eq hx hb d_M_readSign_71 (tgt := 122) rfl (fun g3 => ?_) (fun g3 => ?_)
        · have g3 := g3
          refine lv_iconst (v := 1) hx hb d_M_readSign_122 (by decide) ?_
          refine lv_goto hx hb d_M_readSign_123 (tgt := 127) rfl ?_
          exact J127 true (by simp [sgOne, *]) H _ ls hP hD hS (lv_sub hl [0, 1, 2, 3] rfl)
        · have g3 := g3
          refine lv_iload_n hx hb d_M_readSign_74 rfl (lv_at hl 1 rfl) ?_
          refine lv_bipush (v := 47) hx hb d_M_readSign_75 (by decide) ?_
          refine lv_icmp_eq hx hb d_M_readSign_77 (tgt := 122) rfl (fun g4 => ?_) (fun g4 => ?_)
          · have g4 := g4
            refine lv_iconst (v := 1) hx hb d_M_readSign_122 (by decide) ?_
            refine lv_goto hx hb d_M_readSign_123 (tgt := 127) rfl ?_
            exact J127 true (by simp [sgOne, *]) H _ ls hP hD hS (lv_sub hl [0, 1, 2, 3] rfl)
          · have g4 := g4
            refine lv_iload_n hx hb d_M_readSign_80 rfl (lv_at hl 1 rfl) ?_
            refine lv_bipush (v := 37) hx hb d_M_readSign_81 (by decide) ?_
            refine lv_icmp_eq hx hb d_M_readSign_83 (tgt := 122) rfl (fun g5 => ?_) (fun g5 => ?_)
            · have g5 := g5
              refine lv_iconst (v := 1) hx hb d_M_readSign_122 (by decide) ?_
              refine lv_goto hx hb d_M_readSign_123 (tgt := 127) rfl ?_
              exact J127 true (by simp [sgOne, *]) H _ ls hP hD hS (lv_sub hl [0, 1, 2, 3] rfl)
            · have g5 := g5
              refine lv_iload_n hx hb d_M_readSign_86 rfl (lv_at hl 1 rfl) ?_
              refine lv_bipush (v := 40) hx hb d_M_readSign_87 (by decide) ?_
              refine lv_icmp_eq hx hb d_M_readSign_89 (tgt := 122) rfl (fun g6 => ?_) (fun g6 => ?_)
              · have g6 := g6
                refine lv_iconst (v := 1) hx hb d_M_readSign_122 (by decide) ?_
                refine lv_goto hx hb d_M_readSign_123 (tgt := 127) rfl ?_
                exact J127 true (by simp [sgOne, *]) H _ ls hP hD hS (lv_sub hl [0, 1, 2, 3] rfl)
              · have g6 := g6
                refine lv_iload_n hx hb d_M_readSign_92 rfl (lv_at hl 1 rfl) ?_
                refine lv_bipush (v := 41) hx hb d_M_readSign_93 (by decide) ?_
                refine lv_icmp_eq hx hb d_M_readSign_95 (tgt := 122) rfl (fun g7 => ?_) (fun g7 => ?_)
                · have g7 := g7
                  refine lv_iconst (v := 1) hx hb d_M_readSign_122 (by decide) ?_
                  refine lv_goto hx hb d_M_readSign_123 (tgt := 127) rfl ?_
                  exact J127 true (by simp [sgOne, *]) H _ ls hP hD hS (lv_sub hl [0, 1, 2, 3] rfl)
                · have g7 := g7
                  refine lv_iload_n hx hb d_M_readSign_98 rfl (lv_at hl 1 rfl) ?_
                  refine lv_bipush (v := 123) hx hb d_M_readSign_99 (by decide) ?_
                  refine lv_icmp_eq hx hb d_M_readSign_101 (tgt := 122) rfl (fun g8 => ?_) (fun g8 => ?_)
                  · have g8 := g8
                    refine lv_iconst (v := 1) hx hb d_M_readSign_122 (by decide) ?_
                    refine lv_goto hx hb d_M_readSign_123 (tgt := 127) rfl ?_
                    exact J127 true (by simp [sgOne, *]) H _ ls hP hD hS (lv_sub hl [0, 1, 2, 3] rfl)
                  · have g8 := g8
                    refine lv_iload_n hx hb d_M_readSign_104 rfl (lv_at hl 1 rfl) ?_
                    refine lv_bipush (v := 125) hx hb d_M_readSign_105 (by decide) ?_
                    refine lv_icmp_eq hx hb d_M_readSign_107 (tgt := 122) rfl (fun g9 => ?_) (fun g9 => ?_)
                    · have g9 := g9
                      refine lv_iconst (v := 1) hx hb d_M_readSign_122 (by decide) ?_
                      refine lv_goto hx hb d_M_readSign_123 (tgt := 127) rfl ?_
                      exact J127 true (by simp [sgOne, *]) H _ ls hP hD hS (lv_sub hl [0, 1, 2, 3] rfl)
                    · have g9 := g9
                      refine lv_iload_n hx hb d_M_readSign_110 rfl (lv_at hl 1 rfl) ?_
                      refine lv_bipush (v := 44) hx hb d_M_readSign_111 (by decide) ?_
                      refine lv_icmp_eq hx hb d_M_readSign_113 (tgt := 122) rfl (fun g10 => ?_) (fun g10 => ?_)
                      · have g10 := g10
                        refine lv_iconst (v := 1) hx hb d_M_readSign_122 (by decide) ?_
                        refine lv_goto hx hb d_M_readSign_123 (tgt := 127) rfl ?_
                        exact J127 true (by simp [sgOne, *]) H _ ls hP hD hS (lv_sub hl [0, 1, 2, 3] rfl)
                      · have g10 := g10
                        refine lv_iload_n hx hb d_M_readSign_116 rfl (lv_at hl 1 rfl) ?_
                        refine lv_bipush (v := 61) hx hb d_M_readSign_117 (by decide) ?_
                        refine lv_icmp_ne hx hb d_M_readSign_119 (tgt := 126) rfl (fun g11 => ?_) (fun g11 => ?_)
                        · have g11 := g11
                          refine lv_iconst (v := 0) hx hb d_M_readSign_126 (by decide) ?_
                          exact J127 false (by simp [sgOne, *]) H _ ls hP hD hS (lv_sub hl [0, 1, 2, 3] rfl)
                        · have g11 := g11
                          refine lv_iconst (v := 1) hx hb d_M_readSign_122 (by decide) ?_
                          refine lv_goto hx hb d_M_readSign_123 (tgt := 127) rfl ?_
                          exact J127 true (by simp [sgOne, *]) H _ ls hP hD hS (lv_sub hl [0, 1, 2, 3] rfl)
  refine lv_iload_n hx hb d_M_readSign_0 rfl (lv_at hl 1 rfl) ?_
  refine lv_bipush (v := 33) hx hb d_M_readSign_1 (by decide) ?_
  refine lv_icmp_ne hx hb d_M_readSign_3 (tgt := 18) rfl (fun g12 => ?_) (fun g12 => ?_)
  · have g12 := g12
    refine lv_iload_n hx hb d_M_readSign_18 rfl (lv_at hl 1 rfl) ?_
    refine lv_bipush (v := 94) hx hb d_M_readSign_19 (by decide) ?_
    refine lv_icmp_ne hx hb d_M_readSign_21 (tgt := 36) rfl (fun g13 => ?_) (fun g13 => ?_)
    · have g13 := g13
      refine lv_iload_n hx hb d_M_readSign_36 rfl (lv_at hl 1 rfl) ?_
      refine lv_bipush (v := 33) hx hb d_M_readSign_37 (by decide) ?_
      refine lv_icmp_ne hx hb d_M_readSign_39 (tgt := 54) rfl (fun _ => ?_) (fun h9 => absurd h9 g12)
      refine lv_iconst (v := 0) hx hb d_M_readSign_54 (by decide) ?_
      exact J55 0 (by simp [sgTwo, *]) H _ ls hP hD hS (lv_sub hl [1, 2, 0] rfl)
    · have g13 := g13
      refine lv_iload_n hx hb d_M_readSign_24 rfl (lv_at hl 2 rfl) ?_
      refine lv_bipush (v := 61) hx hb d_M_readSign_25 (by decide) ?_
      refine lv_icmp_ne hx hb d_M_readSign_27 (tgt := 36) rfl (fun g14 => ?_) (fun g14 => ?_)
      · have g14 := g14
        refine lv_iload_n hx hb d_M_readSign_36 rfl (lv_at hl 1 rfl) ?_
        refine lv_bipush (v := 33) hx hb d_M_readSign_37 (by decide) ?_
        refine lv_icmp_ne hx hb d_M_readSign_39 (tgt := 54) rfl (fun _ => ?_) (fun h9 => absurd h9 g12)
        refine lv_iconst (v := 0) hx hb d_M_readSign_54 (by decide) ?_
        exact J55 0 (by simp [sgTwo, *]) H _ ls hP hD hS (lv_sub hl [1, 2, 0] rfl)
      · have g14 := g14
        refine lv_sipush (v := 257) hx hb d_M_readSign_30 (by decide) ?_
        refine lv_goto hx hb d_M_readSign_33 (tgt := 55) rfl ?_
        exact J55 257 (by simp [sgTwo, *]) H _ ls hP hD hS (lv_sub hl [1, 2, 0] rfl)
  · have g12 := g12
    refine lv_iload_n hx hb d_M_readSign_6 rfl (lv_at hl 2 rfl) ?_
    refine lv_bipush (v := 61) hx hb d_M_readSign_7 (by decide) ?_
    refine lv_icmp_ne hx hb d_M_readSign_9 (tgt := 18) rfl (fun g15 => ?_) (fun g15 => ?_)
    · have g15 := g15
      refine lv_iload_n hx hb d_M_readSign_18 rfl (lv_at hl 1 rfl) ?_
      refine lv_bipush (v := 94) hx hb d_M_readSign_19 (by decide) ?_
      refine lv_icmp_ne hx hb d_M_readSign_21 (tgt := 36) rfl (fun g16 => ?_) (fun g16 => ?_)
      · have g16 := g16
        refine lv_iload_n hx hb d_M_readSign_36 rfl (lv_at hl 1 rfl) ?_
        refine lv_bipush (v := 33) hx hb d_M_readSign_37 (by decide) ?_
        refine lv_icmp_ne hx hb d_M_readSign_39 (tgt := 54) rfl (fun h9 => absurd g12 h9) (fun _ => ?_)
        refine lv_iload_n hx hb d_M_readSign_42 rfl (lv_at hl 2 rfl) ?_
        refine lv_bipush (v := 94) hx hb d_M_readSign_43 (by decide) ?_
        refine lv_icmp_ne hx hb d_M_readSign_45 (tgt := 54) rfl (fun g17 => ?_) (fun g17 => ?_)
        · have g17 := g17
          refine lv_iconst (v := 0) hx hb d_M_readSign_54 (by decide) ?_
          exact J55 0 (by simp [sgTwo, *]) H _ ls hP hD hS (lv_sub hl [1, 2, 0] rfl)
        · have g17 := g17
          refine lv_sipush (v := 258) hx hb d_M_readSign_48 (by decide) ?_
          refine lv_goto hx hb d_M_readSign_51 (tgt := 55) rfl ?_
          exact J55 258 (by simp [sgTwo, *]) H _ ls hP hD hS (lv_sub hl [1, 2, 0] rfl)
      · have g16 := g16
        refine lv_iload_n hx hb d_M_readSign_24 rfl (lv_at hl 2 rfl) ?_
        refine lv_bipush (v := 61) hx hb d_M_readSign_25 (by decide) ?_
        refine lv_icmp_ne hx hb d_M_readSign_27 (tgt := 36) rfl (fun _ => ?_) (fun h9 => absurd h9 g15)
        refine lv_iload_n hx hb d_M_readSign_36 rfl (lv_at hl 1 rfl) ?_
        refine lv_bipush (v := 33) hx hb d_M_readSign_37 (by decide) ?_
        refine lv_icmp_ne hx hb d_M_readSign_39 (tgt := 54) rfl (fun h9 => absurd g12 h9) (fun _ => ?_)
        refine lv_iload_n hx hb d_M_readSign_42 rfl (lv_at hl 2 rfl) ?_
        refine lv_bipush (v := 94) hx hb d_M_readSign_43 (by decide) ?_
        refine lv_icmp_ne hx hb d_M_readSign_45 (tgt := 54) rfl (fun g18 => ?_) (fun g18 => ?_)
        · have g18 := g18
          refine lv_iconst (v := 0) hx hb d_M_readSign_54 (by decide) ?_
          exact J55 0 (by simp [sgTwo, *]) H _ ls hP hD hS (lv_sub hl [1, 2, 0] rfl)
        · have g18 := g18
          refine lv_sipush (v := 258) hx hb d_M_readSign_48 (by decide) ?_
          refine lv_goto hx hb d_M_readSign_51 (tgt := 55) rfl ?_
          exact J55 258 (by simp [sgTwo, *]) H _ ls hP hD hS (lv_sub hl [1, 2, 0] rfl)
    · have g15 := g15
      refine lv_sipush (v := 256) hx hb d_M_readSign_12 (by decide) ?_
      refine lv_goto hx hb d_M_readSign_15 (tgt := 55) rfl ?_
      exact J55 256 (by simp [sgTwo, *]) H _ ls hP hD hS (lv_sub hl [1, 2, 0] rfl)
theorem d_M_readSign_153 : decode prog_14_method_59_code 153 = .ok (.iload_n 3, 1) := by decide +kernel
theorem d_M_readSign_154 : decode prog_14_method_59_code 154 = .ok (.goto 4, 3) := by decide +kernel
theorem d_M_readSign_170 : decode prog_14_method_59_code 170 = .ok (.iconst 2, 1) := by decide +kernel
theorem d_M_readSign_171 : decode prog_14_method_59_code 171 = .ok (.goto 4, 3) := by decide +kernel
set_option maxHeartbeats 4000000 in
set_option maxRecDepth 100000 in
theorem k_readSign_2 (l : Launch) (D : va_G) (dA : Nat → ClassId) (sz : Nat) (h : Nat) (ad : Nat → Nat) (x : MS) (a : Int32) (b : Int32) (n : Nat) (h0 : sgTwo a b = n) (h2 : 0 < n) (h3 : n ≤ 258) : Met l ⟨"SeriesVaultModel", "readSign", "(II)Z"⟩ [Cond.code ⟨"SeriesVaultModel", "readSign", "(II)Z"⟩ prog_14_method_59_code 5 (some FieldType.boolean)] { frames := 1, cells := 0, slots := 0, locals := 0 } (pC D dA [.ref h, .int a, .int b] (MW dA h ad x) sz) (va_Qi (fun (r9 : Int32) (u9 : Unit) => r9 = bI true) (fun (u9 : Unit) t9 => bW D (va_A (MW dA h ad x) sz) (MW dA h ad (MS.s_too (MS.s_kind x (nI n)) (x.frm + 2))) t9) (va_A (MW dA h ad x) sz)) 0 0 (va_A (MW dA h ad x) sz) := by
  refine mkC (y := ⟨"SeriesVaultModel", "readSign", "(II)Z"⟩) (cc := prog_14_method_59_code) (maxL := 5) (av := [.ref h, .int a, .int b]) (ws := MW dA h ad x) (sz := sz) (Qc := fun A => va_Qi (fun (r9 : Int32) (u9 : Unit) => r9 = bI true) (fun (u9 : Unit) t9 => bW D A (MW dA h ad (MS.s_too (MS.s_kind x (nI n)) (x.frm + 2))) t9) A) (by decide) (Nat.le_of_ble_eq_true rfl) ?_
  intro A p e s m below meth c ls hsz hB
  obtain ⟨hx, hb, hr, hml, hown, hin, hlk, hE, hK, hP, hD, hS, hA, hN, hl⟩ := hB
  have hown : s.vm.findClass "SeriesVaultModel" = some m.cls := hown
  have hl : lv_has ls 5 [(0, .ref h), (1, .int a), (2, .int b)] := hl
  obtain ⟨H, hH⟩ : ∃ z, z = s.heap := ⟨_, rfl⟩
  have hP : va_P D vwCl (MW dA h ad x) H := by rw [hH]; exact hP
  have hS : va_S A s.heap H [] := by rw [hH]; exact hS
  rw [← hH]
  have J55 : ∀ (w : Nat) (j1 : sgTwo a b = w), ∀ (H : Heap) (locs : List Loc) (ls : Array Slot) (hP : va_P D vwCl (MW dA h ad x) H) (hD : va_D A (MW dA h ad x)) (hS : va_S A s.heap H locs) (hl : lv_has ls 5 [(1, .int a), (2, .int b), (0, .ref h)]), W p l e ({ frames := 1, cells := 0, slots := 0, locals := 0 } : Room) s m ([.ref h, .int a, .int b] : List Value).toArray below meth c H locs 0 0 (MQ below (va_Qi (fun (r9 : Int32) (u9 : Unit) => r9 = bI true) (fun (u9 : Unit) t9 => bW D A (MW dA h ad (MS.s_too (MS.s_kind x (nI n)) (x.frm + 2))) t9) A) ([.ref h, .int a, .int b] : List Value).toArray s 0 0 A) (F0 m 55 ls [.int (nI w)]) := by
    intro w j1 H locs ls hP hD hS hl
    refine lv_istore_n hx hb d_M_readSign_55 rfl hl (by decide) rfl (fun ls hl => ?_)
    have hl : lv_has ls 5 [(3, .int (nI w)), (1, .int a), (2, .int b), (0, .ref h)] := hl
    have J127 : ∀ (v : Bool) (j2 : sgOne a = v), ∀ (H : Heap) (locs : List Loc) (ls : Array Slot) (hP : va_P D vwCl (MW dA h ad x) H) (hD : va_D A (MW dA h ad x)) (hS : va_S A s.heap H locs) (hl : lv_has ls 5 [(3, .int (nI w)), (1, .int a), (2, .int b), (0, .ref h)]), W p l e ({ frames := 1, cells := 0, slots := 0, locals := 0 } : Room) s m ([.ref h, .int a, .int b] : List Value).toArray below meth c H locs 0 0 (MQ below (va_Qi (fun (r9 : Int32) (u9 : Unit) => r9 = bI true) (fun (u9 : Unit) t9 => bW D A (MW dA h ad (MS.s_too (MS.s_kind x (nI n)) (x.frm + 2))) t9) A) ([.ref h, .int a, .int b] : List Value).toArray s 0 0 A) (F0 m 127 ls [.int (bI v)]) := by
      intro v j2 H locs ls hP hD hS hl
      have w0 : w = n := j1.symm.trans h0
      refine lv_istore hx hb d_M_readSign_127 hl (by decide) rfl (fun ls hl => ?_)
      have hl : lv_has ls 5 [(4, .int (bI v)), (3, .int (nI w)), (1, .int a), (2, .int b), (0, .ref h)] := hl
      refine lv_iload_n hx hb d_M_readSign_129 rfl (lv_at hl 1 rfl) ?_
      refine lv_if_ne hx hb d_M_readSign_130 (tgt := 148) rfl (fun _ => ?_) (fun h9 => absurd h9 (nI_ne0 (by omega) (by omega)))
      refine lv_aload_n hx hb d_M_readSign_148 rfl (lv_at hl 4 rfl) ?_
      refine lv_iload_n hx hb d_M_readSign_149 rfl (lv_at hl 1 rfl) ?_
      refine lv_if_le hx hb d_M_readSign_150 (tgt := 157) rfl (fun h9 => absurd h9 (nI_nle (by omega) (by omega))) (fun _ => ?_)
      refine lv_iload_n hx hb d_M_readSign_153 rfl (lv_at hl 1 rfl) ?_
      refine lv_goto hx hb d_M_readSign_154 (tgt := 158) rfl ?_
      refine pF (v := .int (nI w)) hx hb hown hE hK hP hD hS 0 rfl rfl layM tyM tokM nmM 44 (by decide) w469 rfl rfl rfl (Nat.le_of_ble_eq_true rfl) d_M_readSign_158 (fun H locs hP hD hS => ?_)
      have hP : va_P D vwCl (MW dA h ad (MS.s_kind x (nI w))) H := hP
      have hD : va_D A (MW dA h ad (MS.s_kind x (nI w))) := hD
      refine lv_aload_n hx hb d_M_readSign_161 rfl (lv_at hl 4 rfl) ?_
      refine lv_aload_n hx hb d_M_readSign_162 rfl (lv_at hl 4 rfl) ?_
      refine gF (v := .int (nI x.frm)) hx hb hown hE hK hP 0 rfl rfl layM 45 (by decide) w464 rfl d_M_readSign_163 ?_
      refine lv_iload_n hx hb d_M_readSign_166 rfl (lv_at hl 1 rfl) ?_
      refine lv_if_le hx hb d_M_readSign_167 (tgt := 174) rfl (fun h9 => absurd h9 (nI_nle (by omega) (by omega))) (fun _ => ?_)
      refine lv_iconst (v := 2) hx hb d_M_readSign_170 (by decide) ?_
      refine lv_goto hx hb d_M_readSign_171 (tgt := 175) rfl ?_
      refine lv_iadd hx hb d_M_readSign_175 (tpi (y := nI (x.frm + 2)) (nI_add (x.frm) (2)) ?_)
      refine pF (v := .int (nI (x.frm + 2))) hx hb hown hE hK hP hD hS 0 rfl rfl layM tyM tokM nmM 46 (by decide) w463 rfl rfl rfl (Nat.le_of_ble_eq_true rfl) d_M_readSign_176 (fun H locs hP hD hS => ?_)
      have hP : va_P D vwCl (MW dA h ad (MS.s_too (MS.s_kind x (nI w)) (x.frm + 2))) H := hP
      have hD : va_D A (MW dA h ad (MS.s_too (MS.s_kind x (nI w)) (x.frm + 2))) := hD
      refine lv_iconst (v := 1) hx hb d_M_readSign_179 (by decide) ?_
      have e9 : (MS.s_too (MS.s_kind x (nI w)) (x.frm + 2) : MS) = MS.s_too (MS.s_kind x (nI n)) (x.frm + 2) := by rw [show (nI n) = (nI w) from by (rw [w0])] <;> rfl
      exact rfZ hx hb hr (bI_nar true) hlk hS () rfl (cvP e9 hP) (cvD e9 hD) (Nat.le_of_ble_eq_true rfl) (Nat.le_of_ble_eq_true rfl) d_M_readSign_180
    refine lv_iload_n hx hb d_M_readSign_56 rfl (lv_at hl 1 rfl) ?_
    refine lv_bipush (v := 43) hx hb d_M_readSign_57 (by decide) ?_
    refine lv_icmp_eq hx hb d_M_readSign_59 (tgt := 122) rfl (fun g1 => ?_) (fun g1 => ?_)
    · have g1 := g1
      refine lv_iconst (v := 1) hx hb d_M_readSign_122 (by decide) ?_
      refine lv_goto hx hb d_M_readSign_123 (tgt := 127) rfl ?_
      exact J127 true (by simp [sgOne, *]) H _ ls hP hD hS (lv_sub hl [0, 1, 2, 3] rfl)
    · have g1 := g1
      refine lv_iload_n hx hb d_M_readSign_62 rfl (lv_at hl 1 rfl) ?_
      refine lv_bipush (v := 45) hx hb d_M_readSign_63 (by decide) ?_
      refine lv_icmp_eq hx hb d_M_readSign_65 (tgt := 122) rfl (fun g2 => ?_) (fun g2 => ?_)
      · have g2 := g2
        refine lv_iconst (v := 1) hx hb d_M_readSign_122 (by decide) ?_
        refine lv_goto hx hb d_M_readSign_123 (tgt := 127) rfl ?_
        exact J127 true (by simp [sgOne, *]) H _ ls hP hD hS (lv_sub hl [0, 1, 2, 3] rfl)
      · have g2 := g2
        refine lv_iload_n hx hb d_M_readSign_68 rfl (lv_at hl 1 rfl) ?_
        refine lv_bipush (v := 42) hx hb d_M_readSign_69 (by decide) ?_
        refine lv_icmp_eq hx hb d_M_readSign_71 (tgt := 122) rfl (fun g3 => ?_) (fun g3 => ?_)
        · have g3 := g3
          refine lv_iconst (v := 1) hx hb d_M_readSign_122 (by decide) ?_
          refine lv_goto hx hb d_M_readSign_123 (tgt := 127) rfl ?_
          exact J127 true (by simp [sgOne, *]) H _ ls hP hD hS (lv_sub hl [0, 1, 2, 3] rfl)
        · have g3 := g3
          refine lv_iload_n hx hb d_M_readSign_74 rfl (lv_at hl 1 rfl) ?_
          refine lv_bipush (v := 47) hx hb d_M_readSign_75 (by decide) ?_
          refine lv_icmp_eq hx hb d_M_readSign_77 (tgt := 122) rfl (fun g4 => ?_) (fun g4 => ?_)
          · have g4 := g4
            refine lv_iconst (v := 1) hx hb d_M_readSign_122 (by decide) ?_
            refine lv_goto hx hb d_M_readSign_123 (tgt := 127) rfl ?_
            exact J127 true (by simp [sgOne, *]) H _ ls hP hD hS (lv_sub hl [0, 1, 2, 3] rfl)
          · have g4 := g4
            refine lv_iload_n hx hb d_M_readSign_80 rfl (lv_at hl 1 rfl) ?_
            refine lv_bipush (v := 37) hx hb d_M_readSign_81 (by decide) ?_
            refine lv_icmp_eq hx hb d_M_readSign_83 (tgt := 122) rfl (fun g5 => ?_) (fun g5 => ?_)
            · have g5 := g5
              refine lv_iconst (v := 1) hx hb d_M_readSign_122 (by decide) ?_
              refine lv_goto hx hb d_M_readSign_123 (tgt := 127) rfl ?_
              exact J127 true (by simp [sgOne, *]) H _ ls hP hD hS (lv_sub hl [0, 1, 2, 3] rfl)
            · have g5 := g5
              refine lv_iload_n hx hb d_M_readSign_86 rfl (lv_at hl 1 rfl) ?_
              refine lv_bipush (v := 40) hx hb d_M_readSign_87 (by decide) ?_
              refine lv_icmp_eq hx hb d_M_readSign_89 (tgt := 122) rfl (fun g6 => ?_) (fun g6 => ?_)
              · have g6 := g6
                refine lv_iconst (v := 1) hx hb d_M_readSign_122 (by decide) ?_
                refine lv_goto hx hb d_M_readSign_123 (tgt := 127) rfl ?_
                exact J127 true (by simp [sgOne, *]) H _ ls hP hD hS (lv_sub hl [0, 1, 2, 3] rfl)
              · have g6 := g6
                refine lv_iload_n hx hb d_M_readSign_92 rfl (lv_at hl 1 rfl) ?_
                refine lv_bipush (v := 41) hx hb d_M_readSign_93 (by decide) ?_
                refine lv_icmp_eq hx hb d_M_readSign_95 (tgt := 122) rfl (fun g7 => ?_) (fun g7 => ?_)
                · have g7 := g7
                  refine lv_iconst (v := 1) hx hb d_M_readSign_122 (by decide) ?_
                  refine lv_goto hx hb d_M_readSign_123 (tgt := 127) rfl ?_
                  exact J127 true (by simp [sgOne, *]) H _ ls hP hD hS (lv_sub hl [0, 1, 2, 3] rfl)
                · have g7 := g7
                  refine lv_iload_n hx hb d_M_readSign_98 rfl (lv_at hl 1 rfl) ?_
                  refine lv_bipush (v := 123) hx hb d_M_readSign_99 (by decide) ?_
                  refine lv_icmp_eq hx hb d_M_readSign_101 (tgt := 122) rfl (fun g8 => ?_) (fun g8 => ?_)
                  · have g8 := g8
                    refine lv_iconst (v := 1) hx hb d_M_readSign_122 (by decide) ?_
                    refine lv_goto hx hb d_M_readSign_123 (tgt := 127) rfl ?_
                    exact J127 true (by simp [sgOne, *]) H _ ls hP hD hS (lv_sub hl [0, 1, 2, 3] rfl)
                  · have g8 := g8
                    refine lv_iload_n hx hb d_M_readSign_104 rfl (lv_at hl 1 rfl) ?_
                    refine lv_bipush (v := 125) hx hb d_M_readSign_105 (by decide) ?_
                    refine lv_icmp_eq hx hb d_M_readSign_107 (tgt := 122) rfl (fun g9 => ?_) (fun g9 => ?_)
                    · have g9 := g9
                      refine lv_iconst (v := 1) hx hb d_M_readSign_122 (by decide) ?_
                      refine lv_goto hx hb d_M_readSign_123 (tgt := 127) rfl ?_
                      exact J127 true (by simp [sgOne, *]) H _ ls hP hD hS (lv_sub hl [0, 1, 2, 3] rfl)
                    · have g9 := g9
                      refine lv_iload_n hx hb d_M_readSign_110 rfl (lv_at hl 1 rfl) ?_
                      refine lv_bipush (v := 44) hx hb d_M_readSign_111 (by decide) ?_
                      refine lv_icmp_eq hx hb d_M_readSign_113 (tgt := 122) rfl (fun g10 => ?_) (fun g10 => ?_)
                      · have g10 := g10
                        refine lv_iconst (v := 1) hx hb d_M_readSign_122 (by decide) ?_
                        refine lv_goto hx hb d_M_readSign_123 (tgt := 127) rfl ?_
                        exact J127 true (by simp [sgOne, *]) H _ ls hP hD hS (lv_sub hl [0, 1, 2, 3] rfl)
                      · have g10 := g10
                        refine lv_iload_n hx hb d_M_readSign_116 rfl (lv_at hl 1 rfl) ?_
                        refine lv_bipush (v := 61) hx hb d_M_readSign_117 (by decide) ?_
                        refine lv_icmp_ne hx hb d_M_readSign_119 (tgt := 126) rfl (fun g11 => ?_) (fun g11 => ?_)
                        · have g11 := g11
                          refine lv_iconst (v := 0) hx hb d_M_readSign_126 (by decide) ?_
                          exact J127 false (by simp [sgOne, *]) H _ ls hP hD hS (lv_sub hl [0, 1, 2, 3] rfl)
                        · have g11 := g11
                          refine lv_iconst (v := 1) hx hb d_M_readSign_122 (by decide) ?_
                          refine lv_goto hx hb d_M_readSign_123 (tgt := 127) rfl ?_
                          exact J127 true (by simp [sgOne, *]) H _ ls hP hD hS (lv_sub hl [0, 1, 2, 3] rfl)
  refine lv_iload_n hx hb d_M_readSign_0 rfl (lv_at hl 1 rfl) ?_
  refine lv_bipush (v := 33) hx hb d_M_readSign_1 (by decide) ?_
  refine lv_icmp_ne hx hb d_M_readSign_3 (tgt := 18) rfl (fun g12 => ?_) (fun g12 => ?_)
  · have g12 := g12
    refine lv_iload_n hx hb d_M_readSign_18 rfl (lv_at hl 1 rfl) ?_
    refine lv_bipush (v := 94) hx hb d_M_readSign_19 (by decide) ?_
    refine lv_icmp_ne hx hb d_M_readSign_21 (tgt := 36) rfl (fun g13 => ?_) (fun g13 => ?_)
    · have g13 := g13
      refine lv_iload_n hx hb d_M_readSign_36 rfl (lv_at hl 1 rfl) ?_
      refine lv_bipush (v := 33) hx hb d_M_readSign_37 (by decide) ?_
      refine lv_icmp_ne hx hb d_M_readSign_39 (tgt := 54) rfl (fun _ => ?_) (fun h9 => absurd h9 g12)
      refine lv_iconst (v := 0) hx hb d_M_readSign_54 (by decide) ?_
      exact J55 0 (by simp [sgTwo, *]) H _ ls hP hD hS (lv_sub hl [1, 2, 0] rfl)
    · have g13 := g13
      refine lv_iload_n hx hb d_M_readSign_24 rfl (lv_at hl 2 rfl) ?_
      refine lv_bipush (v := 61) hx hb d_M_readSign_25 (by decide) ?_
      refine lv_icmp_ne hx hb d_M_readSign_27 (tgt := 36) rfl (fun g14 => ?_) (fun g14 => ?_)
      · have g14 := g14
        refine lv_iload_n hx hb d_M_readSign_36 rfl (lv_at hl 1 rfl) ?_
        refine lv_bipush (v := 33) hx hb d_M_readSign_37 (by decide) ?_
        refine lv_icmp_ne hx hb d_M_readSign_39 (tgt := 54) rfl (fun _ => ?_) (fun h9 => absurd h9 g12)
        refine lv_iconst (v := 0) hx hb d_M_readSign_54 (by decide) ?_
        exact J55 0 (by simp [sgTwo, *]) H _ ls hP hD hS (lv_sub hl [1, 2, 0] rfl)
      · have g14 := g14
        refine lv_sipush (v := 257) hx hb d_M_readSign_30 (by decide) ?_
        refine lv_goto hx hb d_M_readSign_33 (tgt := 55) rfl ?_
        exact J55 257 (by simp [sgTwo, *]) H _ ls hP hD hS (lv_sub hl [1, 2, 0] rfl)
  · have g12 := g12
    refine lv_iload_n hx hb d_M_readSign_6 rfl (lv_at hl 2 rfl) ?_
    refine lv_bipush (v := 61) hx hb d_M_readSign_7 (by decide) ?_
    refine lv_icmp_ne hx hb d_M_readSign_9 (tgt := 18) rfl (fun g15 => ?_) (fun g15 => ?_)
    · have g15 := g15
      refine lv_iload_n hx hb d_M_readSign_18 rfl (lv_at hl 1 rfl) ?_
      refine lv_bipush (v := 94) hx hb d_M_readSign_19 (by decide) ?_
      refine lv_icmp_ne hx hb d_M_readSign_21 (tgt := 36) rfl (fun g16 => ?_) (fun g16 => ?_)
      · have g16 := g16
        refine lv_iload_n hx hb d_M_readSign_36 rfl (lv_at hl 1 rfl) ?_
        refine lv_bipush (v := 33) hx hb d_M_readSign_37 (by decide) ?_
        refine lv_icmp_ne hx hb d_M_readSign_39 (tgt := 54) rfl (fun h9 => absurd g12 h9) (fun _ => ?_)
        refine lv_iload_n hx hb d_M_readSign_42 rfl (lv_at hl 2 rfl) ?_
        refine lv_bipush (v := 94) hx hb d_M_readSign_43 (by decide) ?_
        refine lv_icmp_ne hx hb d_M_readSign_45 (tgt := 54) rfl (fun g17 => ?_) (fun g17 => ?_)
        · have g17 := g17
          refine lv_iconst (v := 0) hx hb d_M_readSign_54 (by decide) ?_
          exact J55 0 (by simp [sgTwo, *]) H _ ls hP hD hS (lv_sub hl [1, 2, 0] rfl)
        · have g17 := g17
          refine lv_sipush (v := 258) hx hb d_M_readSign_48 (by decide) ?_
          refine lv_goto hx hb d_M_readSign_51 (tgt := 55) rfl ?_
          exact J55 258 (by simp [sgTwo, *]) H _ ls hP hD hS (lv_sub hl [1, 2, 0] rfl)
      · have g16 := g16
        refine lv_iload_n hx hb d_M_readSign_24 rfl (lv_at hl 2 rfl) ?_
        refine lv_bipush (v := 61) hx hb d_M_readSign_25 (by decide) ?_
        refine lv_icmp_ne hx hb d_M_readSign_27 (tgt := 36) rfl (fun _ => ?_) (fun h9 => absurd h9 g15)
        refine lv_iload_n hx hb d_M_readSign_36 rfl (lv_at hl 1 rfl) ?_
        refine lv_bipush (v := 33) hx hb d_M_readSign_37 (by decide) ?_
        refine lv_icmp_ne hx hb d_M_readSign_39 (tgt := 54) rfl (fun h9 => absurd g12 h9) (fun _ => ?_)
        refine lv_iload_n hx hb d_M_readSign_42 rfl (lv_at hl 2 rfl) ?_
        refine lv_bipush (v := 94) hx hb d_M_readSign_43 (by decide) ?_
        refine lv_icmp_ne hx hb d_M_readSign_45 (tgt := 54) rfl (fun g18 => ?_) (fun g18 => ?_)
        · have g18 := g18
          refine lv_iconst (v := 0) hx hb d_M_readSign_54 (by decide) ?_
          exact J55 0 (by simp [sgTwo, *]) H _ ls hP hD hS (lv_sub hl [1, 2, 0] rfl)
        · have g18 := g18
          refine lv_sipush (v := 258) hx hb d_M_readSign_48 (by decide) ?_
          refine lv_goto hx hb d_M_readSign_51 (tgt := 55) rfl ?_
          exact J55 258 (by simp [sgTwo, *]) H _ ls hP hD hS (lv_sub hl [1, 2, 0] rfl)
    · have g15 := g15
      refine lv_sipush (v := 256) hx hb d_M_readSign_12 (by decide) ?_
      refine lv_goto hx hb d_M_readSign_15 (tgt := 55) rfl ?_
      exact J55 256 (by simp [sgTwo, *]) H _ ls hP hD hS (lv_sub hl [1, 2, 0] rfl)
theorem d_M_readNumber_0 : decode prog_14_method_58_code 0 = .ok (.aload_n 0, 1) := by decide +kernel
theorem d_M_readNumber_1 : decode prog_14_method_58_code 1 = .ok (.iconst 1, 1) := by decide +kernel
theorem d_M_readNumber_2 : decode prog_14_method_58_code 2 = .ok (.putfield 351, 3) := by decide +kernel
theorem d_M_readNumber_5 : decode prog_14_method_58_code 5 = .ok (.aload_n 0, 1) := by decide +kernel
theorem d_M_readNumber_6 : decode prog_14_method_58_code 6 = .ok (.lconst 0, 1) := by decide +kernel
theorem d_M_readNumber_7 : decode prog_14_method_58_code 7 = .ok (.putfield 366, 3) := by decide +kernel
theorem d_M_readNumber_10 : decode prog_14_method_58_code 10 = .ok (.iconst 1, 1) := by decide +kernel
theorem d_M_readNumber_11 : decode prog_14_method_58_code 11 = .ok (.istore_n 1, 1) := by decide +kernel
theorem d_M_readNumber_12 : decode prog_14_method_58_code 12 = .ok (.aload_n 0, 1) := by decide +kernel
theorem d_M_readNumber_13 : decode prog_14_method_58_code 13 = .ok (.aload_n 0, 1) := by decide +kernel
theorem d_M_readNumber_14 : decode prog_14_method_58_code 14 = .ok (.getfield 342, 3) := by decide +kernel
theorem d_M_readNumber_17 : decode prog_14_method_58_code 17 = .ok (.invokevirtual 348, 3) := by decide +kernel
theorem d_M_readNumber_20 : decode prog_14_method_58_code 20 = .ok (.invokestatic 354, 3) := by decide +kernel
theorem d_M_readNumber_23 : decode prog_14_method_58_code 23 = .ok (.ifCond .eq 92, 3) := by decide +kernel
theorem d_M_readNumber_115 : decode prog_14_method_58_code 115 = .ok (.iload_n 1, 1) := by decide +kernel
theorem d_M_readNumber_116 : decode prog_14_method_58_code 116 = .ok (.ifCond .ne 15, 3) := by decide +kernel
theorem d_M_readNumber_131 : decode prog_14_method_58_code 131 = .ok (.iconst 1, 1) := by decide +kernel
theorem d_M_readNumber_132 : decode prog_14_method_58_code 132 = .ok (.goto 4, 3) := by decide +kernel
theorem d_M_readNumber_136 : decode prog_14_method_58_code 136 = .ok (.ireturn, 1) := by decide +kernel
theorem d_M_readNumber_26 : decode prog_14_method_58_code 26 = .ok (.aload_n 0, 1) := by decide +kernel
theorem d_M_readNumber_27 : decode prog_14_method_58_code 27 = .ok (.aload_n 0, 1) := by decide +kernel
theorem d_M_readNumber_28 : decode prog_14_method_58_code 28 = .ok (.getfield 342, 3) := by decide +kernel
theorem d_M_readNumber_31 : decode prog_14_method_58_code 31 = .ok (.invokevirtual 348, 3) := by decide +kernel
theorem d_M_readNumber_34 : decode prog_14_method_58_code 34 = .ok (.bipush 48, 2) := by decide +kernel
theorem d_M_readNumber_36 : decode prog_14_method_58_code 36 = .ok (.isub, 1) := by decide +kernel
theorem d_M_readNumber_37 : decode prog_14_method_58_code 37 = .ok (.istore_n 2, 1) := by decide +kernel
theorem d_M_readNumber_75 : decode prog_14_method_58_code 75 = .ok (.istore_n 1, 1) := by decide +kernel
theorem d_M_readNumber_99 : decode prog_14_method_58_code 99 = .ok (.putfield 366, 3) := by decide +kernel
theorem d_M_readNumber_102 : decode prog_14_method_58_code 102 = .ok (.aload_n 0, 1) := by decide +kernel
theorem d_M_readNumber_103 : decode prog_14_method_58_code 103 = .ok (.dup, 1) := by decide +kernel
theorem d_M_readNumber_104 : decode prog_14_method_58_code 104 = .ok (.getfield 342, 3) := by decide +kernel
theorem d_M_readNumber_107 : decode prog_14_method_58_code 107 = .ok (.iconst 1, 1) := by decide +kernel
theorem d_M_readNumber_108 : decode prog_14_method_58_code 108 = .ok (.iadd, 1) := by decide +kernel
theorem d_M_readNumber_109 : decode prog_14_method_58_code 109 = .ok (.putfield 342, 3) := by decide +kernel
theorem d_M_readNumber_112 : decode prog_14_method_58_code 112 = .ok (.goto (-100), 3) := by decide +kernel
theorem d_M_readNumber_76 : decode prog_14_method_58_code 76 = .ok (.aload_n 0, 1) := by decide +kernel
theorem d_M_readNumber_77 : decode prog_14_method_58_code 77 = .ok (.iload_n 1, 1) := by decide +kernel
theorem d_M_readNumber_78 : decode prog_14_method_58_code 78 = .ok (.ifCond .eq 17, 3) := by decide +kernel
theorem d_M_readNumber_95 : decode prog_14_method_58_code 95 = .ok (.aload_n 0, 1) := by decide +kernel
theorem d_M_readNumber_96 : decode prog_14_method_58_code 96 = .ok (.getfield 366, 3) := by decide +kernel
theorem d_M_readNumber_81 : decode prog_14_method_58_code 81 = .ok (.ldc2_w 371, 3) := by decide +kernel
theorem d_M_readNumber_84 : decode prog_14_method_58_code 84 = .ok (.aload_n 0, 1) := by decide +kernel
theorem d_M_readNumber_85 : decode prog_14_method_58_code 85 = .ok (.getfield 366, 3) := by decide +kernel
theorem d_M_readNumber_88 : decode prog_14_method_58_code 88 = .ok (.lmul, 1) := by decide +kernel
theorem d_M_readNumber_89 : decode prog_14_method_58_code 89 = .ok (.iload_n 2, 1) := by decide +kernel
theorem d_M_readNumber_90 : decode prog_14_method_58_code 90 = .ok (.i2l, 1) := by decide +kernel
theorem d_M_readNumber_91 : decode prog_14_method_58_code 91 = .ok (.ladd, 1) := by decide +kernel
theorem d_M_readNumber_92 : decode prog_14_method_58_code 92 = .ok (.goto 7, 3) := by decide +kernel
theorem d_M_readNumber_38 : decode prog_14_method_58_code 38 = .ok (.iload_n 1, 1) := by decide +kernel
theorem d_M_readNumber_39 : decode prog_14_method_58_code 39 = .ok (.ifCond .eq 35, 3) := by decide +kernel
theorem d_M_readNumber_74 : decode prog_14_method_58_code 74 = .ok (.iconst 0, 1) := by decide +kernel
theorem d_M_readNumber_42 : decode prog_14_method_58_code 42 = .ok (.aload_n 0, 1) := by decide +kernel
theorem d_M_readNumber_43 : decode prog_14_method_58_code 43 = .ok (.getfield 366, 3) := by decide +kernel
theorem d_M_readNumber_46 : decode prog_14_method_58_code 46 = .ok (.ldc2_w 369, 3) := by decide +kernel
theorem d_M_readNumber_49 : decode prog_14_method_58_code 49 = .ok (.lcmp, 1) := by decide +kernel
theorem d_M_readNumber_50 : decode prog_14_method_58_code 50 = .ok (.ifCond .lt 20, 3) := by decide +kernel
theorem d_M_readNumber_70 : decode prog_14_method_58_code 70 = .ok (.iconst 1, 1) := by decide +kernel
theorem d_M_readNumber_71 : decode prog_14_method_58_code 71 = .ok (.goto 4, 3) := by decide +kernel
theorem d_M_readNumber_53 : decode prog_14_method_58_code 53 = .ok (.aload_n 0, 1) := by decide +kernel
theorem d_M_readNumber_54 : decode prog_14_method_58_code 54 = .ok (.getfield 366, 3) := by decide +kernel
theorem d_M_readNumber_57 : decode prog_14_method_58_code 57 = .ok (.ldc2_w 369, 3) := by decide +kernel
theorem d_M_readNumber_60 : decode prog_14_method_58_code 60 = .ok (.lcmp, 1) := by decide +kernel
theorem d_M_readNumber_61 : decode prog_14_method_58_code 61 = .ok (.ifCond .ne 13, 3) := by decide +kernel
theorem d_M_readNumber_64 : decode prog_14_method_58_code 64 = .ok (.iload_n 2, 1) := by decide +kernel
theorem d_M_readNumber_65 : decode prog_14_method_58_code 65 = .ok (.bipush 8, 2) := by decide +kernel
theorem d_M_readNumber_67 : decode prog_14_method_58_code 67 = .ok (.if_icmp .ge 7, 3) := by decide +kernel
theorem w953 : Cond.fieldLink "SeriesVaultModel" 366 "SeriesVaultModel" "amount" "J" ∈ aW := aw_of (tb_8 (List.mem_of_getElem? (i := 221) rfl)) rfl
theorem w954 : Cond.methodLink "SeriesVaultModel" 354 ⟨"SeriesVaultModel", "isDigit", "(I)Z"⟩ ∈ aW := aw_of (tb_10 (List.mem_of_getElem? (i := 165) rfl)) rfl
theorem w955 : Cond.code ⟨"SeriesVaultModel", "isDigit", "(I)Z"⟩ prog_14_method_54_code 1 (some FieldType.boolean) ∈ aW := aw_of (tb_10 (List.mem_of_getElem? (i := 167) rfl)) rfl
theorem w956 : Cond.static ⟨"SeriesVaultModel", "isDigit", "(I)Z"⟩ ∈ aW := aw_of (tb_10 (List.mem_of_getElem? (i := 166) rfl)) rfl
theorem w957 : Cond.constantLong "SeriesVaultModel" 371 10 ∈ aW := aw_of (tb_10 (List.mem_of_getElem? (i := 173) rfl)) rfl
theorem w958 : Cond.constantLong "SeriesVaultModel" 369 922337203685477580 ∈ aW := aw_of (tb_10 (List.mem_of_getElem? (i := 172) rfl)) rfl
set_option maxHeartbeats 4000000 in
set_option maxRecDepth 100000 in
theorem k_readNumber_0 (l : Launch) (D : va_G) (dA : Nat → ClassId) (sz : Nat) (h : Nat) (ad : Nat → Nat) (x : MS) (b : Nat) (k : Int64) (hl1 : x.length ≤ 65536) (ht : x.too ≤ x.length) (hg : numG x.tape x.length (x.length + 1 - x.too) x.too true 0 = (b, true, k)) : Met l ⟨"SeriesVaultModel", "readNumber", "()Z"⟩ [Cond.code ⟨"SeriesVaultModel", "readNumber", "()Z"⟩ prog_14_method_58_code 3 (some FieldType.boolean)] { frames := 2, cells := 0, slots := 0, locals := 21 } (pC D dA [.ref h] (MW dA h ad x) sz) (va_Qi (fun (r9 : Int32) (u9 : MS) => r9 = bI true ∧ u9 = ((x.s_kind 1).s_too b).s_amount k) (fun (u9 : MS) t9 => bW D (va_A (MW dA h ad x) sz) (MW dA h ad u9) t9) (va_A (MW dA h ad x) sz)) 0 0 (va_A (MW dA h ad x) sz) := by
  refine mkC (y := ⟨"SeriesVaultModel", "readNumber", "()Z"⟩) (cc := prog_14_method_58_code) (maxL := 3) (av := [.ref h]) (ws := MW dA h ad x) (sz := sz) (Qc := fun A => va_Qi (fun (r9 : Int32) (u9 : MS) => r9 = bI true ∧ u9 = ((x.s_kind 1).s_too b).s_amount k) (fun (u9 : MS) t9 => bW D A (MW dA h ad u9) t9) A) (by decide) (Nat.le_of_ble_eq_true rfl) ?_
  intro A p e s m below meth c ls hsz hB
  obtain ⟨hx, hb, hr, hml, hown, hin, hlk, hE, hK, hP, hD, hS, hA, hN, hl⟩ := hB
  have hown : s.vm.findClass "SeriesVaultModel" = some m.cls := hown
  have hl : lv_has ls 3 [(0, .ref h)] := hl
  obtain ⟨H, hH⟩ : ∃ z, z = s.heap := ⟨_, rfl⟩
  have hP : va_P D vwCl (MW dA h ad x) H := by rw [hH]; exact hP
  have hS : va_S A s.heap H [] := by rw [hH]; exact hS
  rw [← hH]
  refine lv_aload_n hx hb d_M_readNumber_0 rfl (lv_at hl 0 rfl) ?_
  refine lv_iconst (v := 1) hx hb d_M_readNumber_1 (by decide) ?_
  refine pF (v := .int 1) hx hb hown hE hK hP hD hS 0 rfl rfl layM tyM tokM nmM 44 (by decide) w469 rfl rfl rfl (Nat.le_of_ble_eq_true rfl) d_M_readNumber_2 (fun H locs hP hD hS => ?_)
  have hP : va_P D vwCl (MW dA h ad (MS.s_kind x 1)) H := hP
  have hD : va_D A (MW dA h ad (MS.s_kind x 1)) := hD
  refine lv_aload_n hx hb d_M_readNumber_5 rfl (lv_at hl 0 rfl) ?_
  refine lv_lconst (v := 0) hx hb d_M_readNumber_6 (by decide) ?_
  refine pF (v := .long 0) hx hb hown hE hK hP hD hS 0 rfl rfl layM tyM tokM nmM 47 (by decide) w953 rfl rfl rfl (Nat.le_of_ble_eq_true rfl) d_M_readNumber_7 (fun H locs hP hD hS => ?_)
  have hP : va_P D vwCl (MW dA h ad (MS.s_amount (MS.s_kind x 1) 0)) H := hP
  have hD : va_D A (MW dA h ad (MS.s_amount (MS.s_kind x 1) 0)) := hD
  refine lv_iconst (v := 1) hx hb d_M_readNumber_10 (by decide) ?_
  refine lv_istore_n hx hb d_M_readNumber_11 rfl hl (by decide) rfl (fun ls hl => ?_)
  have hl : lv_has ls 3 [(1, .int 1), (0, .ref h)] := hl
  have L12 : ∀ (k9 : Nat) (q : Nat) (g : Bool) (am : Int64) (i1 : numG x.tape x.length (x.length + 1 - q) q g am = numG x.tape x.length (x.length + 1 - x.too) x.too true 0) (i2 : q ≤ 65537) (hk9 : x.length + 1 - q = k9), ∀ (H : Heap) (locs : List Loc) (ls : Array Slot) (hP : va_P D vwCl (MW dA h ad (MS.s_amount (MS.s_too (MS.s_kind x 1) q) am)) H) (hD : va_D A (MW dA h ad (MS.s_amount (MS.s_too (MS.s_kind x 1) q) am))) (hS : va_S A s.heap H locs) (hl : lv_has ls 3 [(1, .int (bI g)), (0, .ref h)]), W p l e ({ frames := 2, cells := 0, slots := 0, locals := 21 } : Room) s m ([.ref h] : List Value).toArray below meth c H locs 0 0 (MQ below (va_Qi (fun (r9 : Int32) (u9 : MS) => r9 = bI true ∧ u9 = ((x.s_kind 1).s_too b).s_amount k) (fun (u9 : MS) t9 => bW D A (MW dA h ad u9) t9) A) ([.ref h] : List Value).toArray s 0 0 A) (F0 m 12 ls []) := by
    intro k9
    induction k9 using Nat.strongRecOn with
    | ind k9 ih12 =>
      intro q g am i1 i2 hk9 H locs ls hP hD hS hl
      refine lv_aload_n hx hb d_M_readNumber_12 rfl (lv_at hl 1 rfl) ?_
      refine lv_aload_n hx hb d_M_readNumber_13 rfl (lv_at hl 1 rfl) ?_
      refine gF (v := .int (nI q)) hx hb hown hE hK hP 0 rfl rfl layM 46 (by decide) w463 rfl d_M_readNumber_14 ?_
      refine jfI (rnV (As := [.int (nI q)]) (rest := []) hx hb hml hown hE hK (hN _ _ hS) hP hD (k_at l D dA H.size h ad (MS.s_amount (MS.s_too (MS.s_kind x 1) q) am) q (show q < 2 ^ 31 from by omega) (show x.length ≤ 65536 from by omega)) (q0 := 0) rfl rfl w466 w465 w467 w468 w328 rfl rfl ⟨⟨by decide, by decide⟩, rfl⟩ ⟨(Nat.le_of_ble_eq_true rfl), (Nat.le_of_ble_eq_true rfl)⟩ rfl hl.1 rfl (Nat.le_of_ble_eq_true rfl) d_M_readNumber_17 ⟨(Nat.le_of_ble_eq_true rfl), (Nat.le_of_ble_eq_true rfl)⟩) hP hD hS hA (fun r1 u2 H locs hp9 hP hD hS => ?_)
      have hP : va_P D vwCl (MW dA h ad (MS.s_amount (MS.s_too (MS.s_kind x 1) q) am)) H := hP
      have hD : va_D A (MW dA h ad (MS.s_amount (MS.s_too (MS.s_kind x 1) q) am)) := hD
      replace hp9 : x.atN q = r1 := Eq.symm hp9
      subst hp9
      have hPc := hP.sub (ws' := []) [] rfl
      have hDc := hD.sub (ws' := []) [] (by decide) rfl
      refine jnI (rnS (As := [.int (x.atN q)]) (rest := []) hx hb hml hown hE hK (hN _ _ hS) hPc hDc (k_isDigit l D dA H.size (x.atN q)) w955 w954 w956 w328 rfl rfl ⟨⟨by decide, by decide⟩, rfl⟩ ⟨(Nat.le_of_ble_eq_true rfl), (Nat.le_of_ble_eq_true rfl)⟩ rfl hl.1 rfl (Nat.le_of_ble_eq_true rfl) d_M_readNumber_20 ⟨(Nat.le_of_ble_eq_true rfl), (Nat.le_of_ble_eq_true rfl)⟩) hP hD hS hA [] [0, 1, 2, 3, 4, 5, 6, 7, 8, 9, 10, 11, 12, 13, 14, 15, 16, 17, 18, 19, 20, 21, 22, 23, 24, 25, 26, 27, 28, 29, 30, 31, 32, 33, 34, 35, 36, 37, 38] (wr := MW dA h ad (MS.s_amount (MS.s_too (MS.s_kind x 1) q) am)) rfl rfl (by decide) (by decide) (fun r3 u9 H locs hp9 hP hD hS => ?_)
      have hP : va_P D vwCl (MW dA h ad (MS.s_amount (MS.s_too (MS.s_kind x 1) q) am)) H := hP
      have hD : va_D A (MW dA h ad (MS.s_amount (MS.s_too (MS.s_kind x 1) q) am)) := hD
      replace hp9 : bI (isDg (x.atN q)) = r3 := Eq.symm hp9
      subst hp9
      refine lv_if_eq hx hb d_M_readNumber_23 (tgt := 115) rfl (fun g5 => ?_) (fun g5 => ?_)
      · have g5 := bI_0 g5
        refine lv_iload_n hx hb d_M_readNumber_115 rfl (lv_at hl 0 rfl) ?_
        refine lv_if_ne hx hb d_M_readNumber_116 (tgt := 131) rfl (fun _ => ?_) (fun h9 => absurd h9 (by have i6 := (numG_f (w := x.length + 1 - q) (g := g) (m := am) g5).symm.trans i1; rw [hg] at i6; cases i6; decide))
        refine lv_iconst (v := 1) hx hb d_M_readNumber_131 (by decide) ?_
        refine lv_goto hx hb d_M_readNumber_132 (tgt := 136) rfl ?_
        exact rfZ hx hb hr (bI_nar true) hlk hS (MS.s_amount (MS.s_too (MS.s_kind x 1) q) am) ⟨rfl, by have i6 := (numG_f (w := x.length + 1 - q) (g := g) (m := am) g5).symm.trans i1; rw [hg] at i6; cases i6; rfl⟩ hP hD (Nat.le_of_ble_eq_true rfl) (Nat.le_of_ble_eq_true rfl) d_M_readNumber_136
      · have g5 := bI_n0 g5
        refine lv_aload_n hx hb d_M_readNumber_26 rfl (lv_at hl 1 rfl) ?_
        have dq := atI_lt (f := x.tape) (len := x.length) (q := q) g5
        refine lv_aload_n hx hb d_M_readNumber_27 rfl (lv_at hl 1 rfl) ?_
        refine gF (v := .int (nI q)) hx hb hown hE hK hP 0 rfl rfl layM 46 (by decide) w463 rfl d_M_readNumber_28 ?_
        refine jfI (rnV (As := [.int (nI q)]) (rest := []) hx hb hml hown hE hK (hN _ _ hS) hP hD (k_at l D dA H.size h ad (MS.s_amount (MS.s_too (MS.s_kind x 1) q) am) q (show q < 2 ^ 31 from by omega) (show x.length ≤ 65536 from by omega)) (q0 := 0) rfl rfl w466 w465 w467 w468 w328 rfl rfl ⟨⟨by decide, by decide⟩, rfl⟩ ⟨(Nat.le_of_ble_eq_true rfl), (Nat.le_of_ble_eq_true rfl)⟩ rfl hl.1 rfl (Nat.le_of_ble_eq_true rfl) d_M_readNumber_31 ⟨(Nat.le_of_ble_eq_true rfl), (Nat.le_of_ble_eq_true rfl)⟩) hP hD hS hA (fun r6 u7 H locs hp9 hP hD hS => ?_)
        have hP : va_P D vwCl (MW dA h ad (MS.s_amount (MS.s_too (MS.s_kind x 1) q) am)) H := hP
        have hD : va_D A (MW dA h ad (MS.s_amount (MS.s_too (MS.s_kind x 1) q) am)) := hD
        replace hp9 : x.atN q = r6 := Eq.symm hp9
        subst hp9
        refine lv_bipush (v := 48) hx hb d_M_readNumber_34 (by decide) ?_
        refine lv_isub hx hb d_M_readNumber_36 ?_
        refine lv_istore_n hx hb d_M_readNumber_37 rfl hl (by decide) rfl (fun ls hl => ?_)
        have hl : lv_has ls 3 [(2, .int ((x.atN q) - 48)), (1, .int (bI g)), (0, .ref h)] := hl
        have J75 : ∀ (v : Bool) (j3 : ngB g am (x.atN q - 48) = v), ∀ (H : Heap) (locs : List Loc) (ls : Array Slot) (hP : va_P D vwCl (MW dA h ad (MS.s_amount (MS.s_too (MS.s_kind x 1) q) am)) H) (hD : va_D A (MW dA h ad (MS.s_amount (MS.s_too (MS.s_kind x 1) q) am))) (hS : va_S A s.heap H locs) (hl : lv_has ls 3 [(2, .int (x.atN q - 48)), (1, .int (bI g)), (0, .ref h)]), W p l e ({ frames := 2, cells := 0, slots := 0, locals := 21 } : Room) s m ([.ref h] : List Value).toArray below meth c H locs 0 0 (MQ below (va_Qi (fun (r9 : Int32) (u9 : MS) => r9 = bI true ∧ u9 = ((x.s_kind 1).s_too b).s_amount k) (fun (u9 : MS) t9 => bW D A (MW dA h ad u9) t9) A) ([.ref h] : List Value).toArray s 0 0 A) (F0 m 75 ls [.int (bI v)]) := by
          intro v j3 H locs ls hP hD hS hl
          refine lv_istore_n hx hb d_M_readNumber_75 rfl hl (by decide) rfl (fun ls hl => ?_)
          have hl : lv_has ls 3 [(1, .int (bI v)), (2, .int (x.atN q - 48)), (0, .ref h)] := hl
          have J99 : ∀ (m7 : Int64) (j4 : ngA g am (x.atN q - 48) = m7), ∀ (H : Heap) (locs : List Loc) (ls : Array Slot) (hP : va_P D vwCl (MW dA h ad (MS.s_amount (MS.s_too (MS.s_kind x 1) q) am)) H) (hD : va_D A (MW dA h ad (MS.s_amount (MS.s_too (MS.s_kind x 1) q) am))) (hS : va_S A s.heap H locs) (hl : lv_has ls 3 [(1, .int (bI v)), (0, .ref h)]), W p l e ({ frames := 2, cells := 0, slots := 0, locals := 21 } : Room) s m ([.ref h] : List Value).toArray below meth c H locs 0 0 (MQ below (va_Qi (fun (r9 : Int32) (u9 : MS) => r9 = bI true ∧ u9 = ((x.s_kind 1).s_too b).s_amount k) (fun (u9 : MS) t9 => bW D A (MW dA h ad u9) t9) A) ([.ref h] : List Value).toArray s 0 0 A) (F0 m 99 ls [.long m7, .ref h]) := by
            intro m7 j4 H locs ls hP hD hS hl
            refine pF (v := .long m7) hx hb hown hE hK hP hD hS 0 rfl rfl layM tyM tokM nmM 47 (by decide) w953 rfl rfl rfl (Nat.le_of_ble_eq_true rfl) d_M_readNumber_99 (fun H locs hP hD hS => ?_)
            have hP : va_P D vwCl (MW dA h ad (MS.s_amount (MS.s_too (MS.s_kind x 1) q) m7)) H := hP
            have hD : va_D A (MW dA h ad (MS.s_amount (MS.s_too (MS.s_kind x 1) q) m7)) := hD
            refine lv_aload_n hx hb d_M_readNumber_102 rfl (lv_at hl 1 rfl) ?_
            refine lv_dup hx hb d_M_readNumber_103 rfl ?_
            refine gF (v := .int (nI q)) hx hb hown hE hK hP 0 rfl rfl layM 46 (by decide) w463 rfl d_M_readNumber_104 ?_
            refine lv_iconst (v := 1) hx hb d_M_readNumber_107 (by decide) ?_
            refine lv_iadd hx hb d_M_readNumber_108 (tpi (y := nI (q + 1)) (nI_add (q) (1)) ?_)
            refine pF (v := .int (nI (q + 1))) hx hb hown hE hK hP hD hS 0 rfl rfl layM tyM tokM nmM 46 (by decide) w463 rfl rfl rfl (Nat.le_of_ble_eq_true rfl) d_M_readNumber_109 (fun H locs hP hD hS => ?_)
            have hP : va_P D vwCl (MW dA h ad (MS.s_amount (MS.s_too (MS.s_kind x 1) (q + 1)) m7)) H := hP
            have hD : va_D A (MW dA h ad (MS.s_amount (MS.s_too (MS.s_kind x 1) (q + 1)) m7)) := hD
            refine lv_goto hx hb d_M_readNumber_112 (tgt := 12) rfl ?_
            exact ih12 _ (by omega) (q + 1) v m7 (by rw [← i1, numG_t (w := x.length + 1 - q) (by omega) g5, show x.length + 1 - q - 1 = x.length + 1 - (q + 1) by omega]; show _ = numG _ _ _ _ (ngB g am (x.atN q - 48)) (ngA g am (x.atN q - 48)); rw [j3, j4]) (by omega) rfl H _ ls hP hD hS (lv_sub hl [0, 1] rfl)
          refine lv_aload_n hx hb d_M_readNumber_76 rfl (lv_at hl 2 rfl) ?_
          refine lv_iload_n hx hb d_M_readNumber_77 rfl (lv_at hl 0 rfl) ?_
          refine lv_if_eq hx hb d_M_readNumber_78 (tgt := 95) rfl (fun g8 => ?_) (fun g8 => ?_)
          · have g8 := bI_0 g8
            refine lv_aload_n hx hb d_M_readNumber_95 rfl (lv_at hl 2 rfl) ?_
            refine gF (v := .long am) hx hb hown hE hK hP 0 rfl rfl layM 47 (by decide) w953 rfl d_M_readNumber_96 ?_
            exact J99 am (if_neg (by rw [j3, g8]; decide)) H _ ls hP hD hS (lv_sub hl [0, 2] rfl)
          · have g8 := bI_n0 g8
            refine lv_ldc2 (v := 10) hx hb hown (hE.t w957 rfl) d_M_readNumber_81 ?_
            refine lv_aload_n hx hb d_M_readNumber_84 rfl (lv_at hl 2 rfl) ?_
            refine gF (v := .long am) hx hb hown hE hK hP 0 rfl rfl layM 47 (by decide) w953 rfl d_M_readNumber_85 ?_
            refine lv_lmul hx hb d_M_readNumber_88 ?_
            refine lv_iload_n hx hb d_M_readNumber_89 rfl (lv_at hl 1 rfl) ?_
            refine lv_i2l hx hb d_M_readNumber_90 rfl ?_
            refine lv_ladd hx hb d_M_readNumber_91 ?_
            refine lv_goto hx hb d_M_readNumber_92 (tgt := 99) rfl ?_
            exact J99 ((10 * am) + ((x.atN q - 48).toInt64)) (if_pos (j3.trans g8)) H _ ls hP hD hS (lv_sub hl [0, 2] rfl)
        refine lv_iload_n hx hb d_M_readNumber_38 rfl (lv_at hl 1 rfl) ?_
        refine lv_if_eq hx hb d_M_readNumber_39 (tgt := 74) rfl (fun g9 => ?_) (fun g9 => ?_)
        · have g9 := bI_0 g9
          refine lv_iconst (v := 0) hx hb d_M_readNumber_74 (by decide) ?_
          exact J75 false (by simp [ngB, *]) H _ ls hP hD hS (lv_sub hl [0, 1, 2] rfl)
        · have g9 := bI_n0 g9
          refine lv_aload_n hx hb d_M_readNumber_42 rfl (lv_at hl 2 rfl) ?_
          refine gF (v := .long am) hx hb hown hE hK hP 0 rfl rfl layM 47 (by decide) w953 rfl d_M_readNumber_43 ?_
          refine lv_ldc2 (v := 922337203685477580) hx hb hown (hE.t w958 rfl) d_M_readNumber_46 ?_
          refine W.lcmp hx hb d_M_readNumber_49 ?_
          refine lv_if_lt hx hb d_M_readNumber_50 (tgt := 70) rfl (fun g10 => ?_) (fun g10 => ?_)
          · have g10 := (lg_cmp_lt _ _).mp g10
            refine lv_iconst (v := 1) hx hb d_M_readNumber_70 (by decide) ?_
            refine lv_goto hx hb d_M_readNumber_71 (tgt := 75) rfl ?_
            exact J75 true (by simp [ngB, *]) H _ ls hP hD hS (lv_sub hl [0, 1, 2] rfl)
          · have g10 := mt (lg_cmp_lt _ _).mpr g10
            refine lv_aload_n hx hb d_M_readNumber_53 rfl (lv_at hl 2 rfl) ?_
            refine gF (v := .long am) hx hb hown hE hK hP 0 rfl rfl layM 47 (by decide) w953 rfl d_M_readNumber_54 ?_
            refine lv_ldc2 (v := 922337203685477580) hx hb hown (hE.t w958 rfl) d_M_readNumber_57 ?_
            refine W.lcmp hx hb d_M_readNumber_60 ?_
            refine lv_if_ne hx hb d_M_readNumber_61 (tgt := 74) rfl (fun g11 => ?_) (fun g11 => ?_)
            · have g11 := mt (lg_cmp_eq _ _).mpr g11
              refine lv_iconst (v := 0) hx hb d_M_readNumber_74 (by decide) ?_
              exact J75 false (by simp [ngB, *]) H _ ls hP hD hS (lv_sub hl [0, 1, 2] rfl)
            · have g11 := (lg_cmp_eq _ _).mp g11
              refine lv_iload_n hx hb d_M_readNumber_64 rfl (lv_at hl 0 rfl) ?_
              refine lv_bipush (v := 8) hx hb d_M_readNumber_65 (by decide) ?_
              refine lv_icmp_ge hx hb d_M_readNumber_67 (tgt := 74) rfl (fun g12 => ?_) (fun g12 => ?_)
              · have g12 := g12
                refine lv_iconst (v := 0) hx hb d_M_readNumber_74 (by decide) ?_
                exact J75 false (by simp [ngB, *]) H _ ls hP hD hS (lv_sub hl [0, 1, 2] rfl)
              · have g12 := g12
                refine lv_iconst (v := 1) hx hb d_M_readNumber_70 (by decide) ?_
                refine lv_goto hx hb d_M_readNumber_71 (tgt := 75) rfl ?_
                exact J75 true (by simp [ngB, *]) H _ ls hP hD hS (lv_sub hl [0, 1, 2] rfl)
  exact L12 _ x.too true 0 rfl (by omega) rfl H _ ls hP hD hS (lv_sub hl [0, 1] rfl)
theorem d_M_readNumber_119 : decode prog_14_method_58_code 119 = .ok (.aload_n 0, 1) := by decide +kernel
theorem d_M_readNumber_120 : decode prog_14_method_58_code 120 = .ok (.iconst 1, 1) := by decide +kernel
theorem d_M_readNumber_121 : decode prog_14_method_58_code 121 = .ok (.aload_n 0, 1) := by decide +kernel
theorem d_M_readNumber_122 : decode prog_14_method_58_code 122 = .ok (.getfield 345, 3) := by decide +kernel
theorem d_M_readNumber_125 : decode prog_14_method_58_code 125 = .ok (.invokevirtual 224, 3) := by decide +kernel
theorem d_M_readNumber_128 : decode prog_14_method_58_code 128 = .ok (.ifCond .eq 7, 3) := by decide +kernel
theorem d_M_readNumber_135 : decode prog_14_method_58_code 135 = .ok (.iconst 0, 1) := by decide +kernel
set_option maxHeartbeats 4000000 in
set_option maxRecDepth 100000 in
theorem k_readNumber_x (l : Launch) (D : va_G) (dA : Nat → ClassId) (sz : Nat) (h : Nat) (ad : Nat → Nat) (x : MS) (b : Nat) (k : Int64) (hl1 : x.length ≤ 65536) (ht : x.too ≤ x.length) (hg : numG x.tape x.length (x.length + 1 - x.too) x.too true 0 = (b, false, k)) (hf : x.faultCode = 0) : Met l ⟨"SeriesVaultModel", "readNumber", "()Z"⟩ [Cond.code ⟨"SeriesVaultModel", "readNumber", "()Z"⟩ prog_14_method_58_code 3 (some FieldType.boolean)] { frames := 2, cells := 0, slots := 0, locals := 22 } (pC D dA [.ref h] (MW dA h ad x) sz) (va_Qi (fun (r9 : Int32) (u9 : MS) => r9 = bI false ∧ u9 = ((((x.s_kind 1).s_too b).s_amount k).s_faultCode 1).s_faultPlace (nI x.frm)) (fun (u9 : MS) t9 => bW D (va_A (MW dA h ad x) sz) (MW dA h ad u9) t9) (va_A (MW dA h ad x) sz)) 0 0 (va_A (MW dA h ad x) sz) := by
  refine mkC (y := ⟨"SeriesVaultModel", "readNumber", "()Z"⟩) (cc := prog_14_method_58_code) (maxL := 3) (av := [.ref h]) (ws := MW dA h ad x) (sz := sz) (Qc := fun A => va_Qi (fun (r9 : Int32) (u9 : MS) => r9 = bI false ∧ u9 = ((((x.s_kind 1).s_too b).s_amount k).s_faultCode 1).s_faultPlace (nI x.frm)) (fun (u9 : MS) t9 => bW D A (MW dA h ad u9) t9) A) (by decide) (Nat.le_of_ble_eq_true rfl) ?_
  intro A p e s m below meth c ls hsz hB
  obtain ⟨hx, hb, hr, hml, hown, hin, hlk, hE, hK, hP, hD, hS, hA, hN, hl⟩ := hB
  have hown : s.vm.findClass "SeriesVaultModel" = some m.cls := hown
  have hl : lv_has ls 3 [(0, .ref h)] := hl
  obtain ⟨H, hH⟩ : ∃ z, z = s.heap := ⟨_, rfl⟩
  have hP : va_P D vwCl (MW dA h ad x) H := by rw [hH]; exact hP
  have hS : va_S A s.heap H [] := by rw [hH]; exact hS
  rw [← hH]
  refine lv_aload_n hx hb d_M_readNumber_0 rfl (lv_at hl 0 rfl) ?_
  refine lv_iconst (v := 1) hx hb d_M_readNumber_1 (by decide) ?_
  refine pF (v := .int 1) hx hb hown hE hK hP hD hS 0 rfl rfl layM tyM tokM nmM 44 (by decide) w469 rfl rfl rfl (Nat.le_of_ble_eq_true rfl) d_M_readNumber_2 (fun H locs hP hD hS => ?_)
  have hP : va_P D vwCl (MW dA h ad (MS.s_kind x 1)) H := hP
  have hD : va_D A (MW dA h ad (MS.s_kind x 1)) := hD
  refine lv_aload_n hx hb d_M_readNumber_5 rfl (lv_at hl 0 rfl) ?_
  refine lv_lconst (v := 0) hx hb d_M_readNumber_6 (by decide) ?_
  refine pF (v := .long 0) hx hb hown hE hK hP hD hS 0 rfl rfl layM tyM tokM nmM 47 (by decide) w953 rfl rfl rfl (Nat.le_of_ble_eq_true rfl) d_M_readNumber_7 (fun H locs hP hD hS => ?_)
  have hP : va_P D vwCl (MW dA h ad (MS.s_amount (MS.s_kind x 1) 0)) H := hP
  have hD : va_D A (MW dA h ad (MS.s_amount (MS.s_kind x 1) 0)) := hD
  refine lv_iconst (v := 1) hx hb d_M_readNumber_10 (by decide) ?_
  refine lv_istore_n hx hb d_M_readNumber_11 rfl hl (by decide) rfl (fun ls hl => ?_)
  have hl : lv_has ls 3 [(1, .int 1), (0, .ref h)] := hl
  have L12 : ∀ (k9 : Nat) (q : Nat) (g : Bool) (am : Int64) (i1 : numG x.tape x.length (x.length + 1 - q) q g am = numG x.tape x.length (x.length + 1 - x.too) x.too true 0) (i2 : q ≤ 65537) (hk9 : x.length + 1 - q = k9), ∀ (H : Heap) (locs : List Loc) (ls : Array Slot) (hP : va_P D vwCl (MW dA h ad (MS.s_amount (MS.s_too (MS.s_kind x 1) q) am)) H) (hD : va_D A (MW dA h ad (MS.s_amount (MS.s_too (MS.s_kind x 1) q) am))) (hS : va_S A s.heap H locs) (hl : lv_has ls 3 [(1, .int (bI g)), (0, .ref h)]), W p l e ({ frames := 2, cells := 0, slots := 0, locals := 22 } : Room) s m ([.ref h] : List Value).toArray below meth c H locs 0 0 (MQ below (va_Qi (fun (r9 : Int32) (u9 : MS) => r9 = bI false ∧ u9 = ((((x.s_kind 1).s_too b).s_amount k).s_faultCode 1).s_faultPlace (nI x.frm)) (fun (u9 : MS) t9 => bW D A (MW dA h ad u9) t9) A) ([.ref h] : List Value).toArray s 0 0 A) (F0 m 12 ls []) := by
    intro k9
    induction k9 using Nat.strongRecOn with
    | ind k9 ih12 =>
      intro q g am i1 i2 hk9 H locs ls hP hD hS hl
      refine lv_aload_n hx hb d_M_readNumber_12 rfl (lv_at hl 1 rfl) ?_
      refine lv_aload_n hx hb d_M_readNumber_13 rfl (lv_at hl 1 rfl) ?_
      refine gF (v := .int (nI q)) hx hb hown hE hK hP 0 rfl rfl layM 46 (by decide) w463 rfl d_M_readNumber_14 ?_
      refine jfI (rnV (As := [.int (nI q)]) (rest := []) hx hb hml hown hE hK (hN _ _ hS) hP hD (k_at l D dA H.size h ad (MS.s_amount (MS.s_too (MS.s_kind x 1) q) am) q (show q < 2 ^ 31 from by omega) (show x.length ≤ 65536 from by omega)) (q0 := 0) rfl rfl w466 w465 w467 w468 w328 rfl rfl ⟨⟨by decide, by decide⟩, rfl⟩ ⟨(Nat.le_of_ble_eq_true rfl), (Nat.le_of_ble_eq_true rfl)⟩ rfl hl.1 rfl (Nat.le_of_ble_eq_true rfl) d_M_readNumber_17 ⟨(Nat.le_of_ble_eq_true rfl), (Nat.le_of_ble_eq_true rfl)⟩) hP hD hS hA (fun r1 u2 H locs hp9 hP hD hS => ?_)
      have hP : va_P D vwCl (MW dA h ad (MS.s_amount (MS.s_too (MS.s_kind x 1) q) am)) H := hP
      have hD : va_D A (MW dA h ad (MS.s_amount (MS.s_too (MS.s_kind x 1) q) am)) := hD
      replace hp9 : x.atN q = r1 := Eq.symm hp9
      subst hp9
      have hPc := hP.sub (ws' := []) [] rfl
      have hDc := hD.sub (ws' := []) [] (by decide) rfl
      refine jnI (rnS (As := [.int (x.atN q)]) (rest := []) hx hb hml hown hE hK (hN _ _ hS) hPc hDc (k_isDigit l D dA H.size (x.atN q)) w955 w954 w956 w328 rfl rfl ⟨⟨by decide, by decide⟩, rfl⟩ ⟨(Nat.le_of_ble_eq_true rfl), (Nat.le_of_ble_eq_true rfl)⟩ rfl hl.1 rfl (Nat.le_of_ble_eq_true rfl) d_M_readNumber_20 ⟨(Nat.le_of_ble_eq_true rfl), (Nat.le_of_ble_eq_true rfl)⟩) hP hD hS hA [] [0, 1, 2, 3, 4, 5, 6, 7, 8, 9, 10, 11, 12, 13, 14, 15, 16, 17, 18, 19, 20, 21, 22, 23, 24, 25, 26, 27, 28, 29, 30, 31, 32, 33, 34, 35, 36, 37, 38] (wr := MW dA h ad (MS.s_amount (MS.s_too (MS.s_kind x 1) q) am)) rfl rfl (by decide) (by decide) (fun r3 u9 H locs hp9 hP hD hS => ?_)
      have hP : va_P D vwCl (MW dA h ad (MS.s_amount (MS.s_too (MS.s_kind x 1) q) am)) H := hP
      have hD : va_D A (MW dA h ad (MS.s_amount (MS.s_too (MS.s_kind x 1) q) am)) := hD
      replace hp9 : bI (isDg (x.atN q)) = r3 := Eq.symm hp9
      subst hp9
      refine lv_if_eq hx hb d_M_readNumber_23 (tgt := 115) rfl (fun g5 => ?_) (fun g5 => ?_)
      · have g5 := bI_0 g5
        refine lv_iload_n hx hb d_M_readNumber_115 rfl (lv_at hl 0 rfl) ?_
        refine lv_if_ne hx hb d_M_readNumber_116 (tgt := 131) rfl (fun h9 => absurd (by have i6 := (numG_f (w := x.length + 1 - q) (g := g) (m := am) g5).symm.trans i1; rw [hg] at i6; cases i6; decide) h9) (fun _ => ?_)
        refine lv_aload_n hx hb d_M_readNumber_119 rfl (lv_at hl 1 rfl) ?_
        refine lv_iconst (v := 1) hx hb d_M_readNumber_120 (by decide) ?_
        refine lv_aload_n hx hb d_M_readNumber_121 rfl (lv_at hl 1 rfl) ?_
        refine gF (v := .int (nI x.frm)) hx hb hown hE hK hP 0 rfl rfl layM 45 (by decide) w464 rfl d_M_readNumber_122 ?_
        refine jfI (rnV (As := [.int 1, .int (nI x.frm)]) (rest := []) hx hb hml hown hE hK (hN _ _ hS) hP hD (k_flaw_0 l D dA H.size h ad (MS.s_amount (MS.s_too (MS.s_kind x 1) q) am) 1 (nI x.frm) hf) (q0 := 0) rfl rfl w431 w430 w432 w433 w328 rfl rfl ⟨⟨by decide, by decide⟩, rfl⟩ ⟨(Nat.le_of_ble_eq_true rfl), (Nat.le_of_ble_eq_true rfl)⟩ rfl hl.1 rfl (Nat.le_of_ble_eq_true rfl) d_M_readNumber_125 ⟨(Nat.le_of_ble_eq_true rfl), (Nat.le_of_ble_eq_true rfl)⟩) hP hD hS hA (fun r6 u7 H locs hp9 hP hD hS => ?_)
        have hP : va_P D vwCl (MW dA h ad (MS.s_amount (MS.s_too (MS.s_kind (MS.s_faultPlace (MS.s_faultCode x 1) (nI x.frm)) 1) q) am)) H := hP
        have hD : va_D A (MW dA h ad (MS.s_amount (MS.s_too (MS.s_kind (MS.s_faultPlace (MS.s_faultCode x 1) (nI x.frm)) 1) q) am)) := hD
        replace hp9 : bI false = r6 := Eq.symm hp9
        subst hp9
        refine lv_if_eq hx hb d_M_readNumber_128 (tgt := 135) rfl (fun _ => ?_) (fun h9 => absurd (by decide) h9)
        refine lv_iconst (v := 0) hx hb d_M_readNumber_135 (by decide) ?_
        exact rfZ hx hb hr (bI_nar false) hlk hS (MS.s_amount (MS.s_too (MS.s_kind (MS.s_faultPlace (MS.s_faultCode x 1) (nI x.frm)) 1) q) am) ⟨rfl, by have i6 := (numG_f (w := x.length + 1 - q) (g := g) (m := am) g5).symm.trans i1; rw [hg] at i6; cases i6; rfl⟩ hP hD (Nat.le_of_ble_eq_true rfl) (Nat.le_of_ble_eq_true rfl) d_M_readNumber_136
      · have g5 := bI_n0 g5
        refine lv_aload_n hx hb d_M_readNumber_26 rfl (lv_at hl 1 rfl) ?_
        have dq := atI_lt (f := x.tape) (len := x.length) (q := q) g5
        refine lv_aload_n hx hb d_M_readNumber_27 rfl (lv_at hl 1 rfl) ?_
        refine gF (v := .int (nI q)) hx hb hown hE hK hP 0 rfl rfl layM 46 (by decide) w463 rfl d_M_readNumber_28 ?_
        refine jfI (rnV (As := [.int (nI q)]) (rest := []) hx hb hml hown hE hK (hN _ _ hS) hP hD (k_at l D dA H.size h ad (MS.s_amount (MS.s_too (MS.s_kind x 1) q) am) q (show q < 2 ^ 31 from by omega) (show x.length ≤ 65536 from by omega)) (q0 := 0) rfl rfl w466 w465 w467 w468 w328 rfl rfl ⟨⟨by decide, by decide⟩, rfl⟩ ⟨(Nat.le_of_ble_eq_true rfl), (Nat.le_of_ble_eq_true rfl)⟩ rfl hl.1 rfl (Nat.le_of_ble_eq_true rfl) d_M_readNumber_31 ⟨(Nat.le_of_ble_eq_true rfl), (Nat.le_of_ble_eq_true rfl)⟩) hP hD hS hA (fun r8 u9 H locs hp9 hP hD hS => ?_)
        have hP : va_P D vwCl (MW dA h ad (MS.s_amount (MS.s_too (MS.s_kind x 1) q) am)) H := hP
        have hD : va_D A (MW dA h ad (MS.s_amount (MS.s_too (MS.s_kind x 1) q) am)) := hD
        replace hp9 : x.atN q = r8 := Eq.symm hp9
        subst hp9
        refine lv_bipush (v := 48) hx hb d_M_readNumber_34 (by decide) ?_
        refine lv_isub hx hb d_M_readNumber_36 ?_
        refine lv_istore_n hx hb d_M_readNumber_37 rfl hl (by decide) rfl (fun ls hl => ?_)
        have hl : lv_has ls 3 [(2, .int ((x.atN q) - 48)), (1, .int (bI g)), (0, .ref h)] := hl
        have J75 : ∀ (v : Bool) (j3 : ngB g am (x.atN q - 48) = v), ∀ (H : Heap) (locs : List Loc) (ls : Array Slot) (hP : va_P D vwCl (MW dA h ad (MS.s_amount (MS.s_too (MS.s_kind x 1) q) am)) H) (hD : va_D A (MW dA h ad (MS.s_amount (MS.s_too (MS.s_kind x 1) q) am))) (hS : va_S A s.heap H locs) (hl : lv_has ls 3 [(2, .int (x.atN q - 48)), (1, .int (bI g)), (0, .ref h)]), W p l e ({ frames := 2, cells := 0, slots := 0, locals := 22 } : Room) s m ([.ref h] : List Value).toArray below meth c H locs 0 0 (MQ below (va_Qi (fun (r9 : Int32) (u9 : MS) => r9 = bI false ∧ u9 = ((((x.s_kind 1).s_too b).s_amount k).s_faultCode 1).s_faultPlace (nI x.frm)) (fun (u9 : MS) t9 => bW D A (MW dA h ad u9) t9) A) ([.ref h] : List Value).toArray s 0 0 A) (F0 m 75 ls [.int (bI v)]) := by
          intro v j3 H locs ls hP hD hS hl
          refine lv_istore_n hx hb d_M_readNumber_75 rfl hl (by decide) rfl (fun ls hl => ?_)
          have hl : lv_has ls 3 [(1, .int (bI v)), (2, .int (x.atN q - 48)), (0, .ref h)] := hl
          have J99 : ∀ (m7 : Int64) (j4 : ngA g am (x.atN q - 48) = m7), ∀ (H : Heap) (locs : List Loc) (ls : Array Slot) (hP : va_P D vwCl (MW dA h ad (MS.s_amount (MS.s_too (MS.s_kind x 1) q) am)) H) (hD : va_D A (MW dA h ad (MS.s_amount (MS.s_too (MS.s_kind x 1) q) am))) (hS : va_S A s.heap H locs) (hl : lv_has ls 3 [(1, .int (bI v)), (0, .ref h)]), W p l e ({ frames := 2, cells := 0, slots := 0, locals := 22 } : Room) s m ([.ref h] : List Value).toArray below meth c H locs 0 0 (MQ below (va_Qi (fun (r9 : Int32) (u9 : MS) => r9 = bI false ∧ u9 = ((((x.s_kind 1).s_too b).s_amount k).s_faultCode 1).s_faultPlace (nI x.frm)) (fun (u9 : MS) t9 => bW D A (MW dA h ad u9) t9) A) ([.ref h] : List Value).toArray s 0 0 A) (F0 m 99 ls [.long m7, .ref h]) := by
            intro m7 j4 H locs ls hP hD hS hl
            refine pF (v := .long m7) hx hb hown hE hK hP hD hS 0 rfl rfl layM tyM tokM nmM 47 (by decide) w953 rfl rfl rfl (Nat.le_of_ble_eq_true rfl) d_M_readNumber_99 (fun H locs hP hD hS => ?_)
            have hP : va_P D vwCl (MW dA h ad (MS.s_amount (MS.s_too (MS.s_kind x 1) q) m7)) H := hP
            have hD : va_D A (MW dA h ad (MS.s_amount (MS.s_too (MS.s_kind x 1) q) m7)) := hD
            refine lv_aload_n hx hb d_M_readNumber_102 rfl (lv_at hl 1 rfl) ?_
            refine lv_dup hx hb d_M_readNumber_103 rfl ?_
            refine gF (v := .int (nI q)) hx hb hown hE hK hP 0 rfl rfl layM 46 (by decide) w463 rfl d_M_readNumber_104 ?_
            refine lv_iconst (v := 1) hx hb d_M_readNumber_107 (by decide) ?_
            refine lv_iadd hx hb d_M_readNumber_108 (tpi (y := nI (q + 1)) (nI_add (q) (1)) ?_)
            refine pF (v := .int (nI (q + 1))) hx hb hown hE hK hP hD hS 0 rfl rfl layM tyM tokM nmM 46 (by decide) w463 rfl rfl rfl (Nat.le_of_ble_eq_true rfl) d_M_readNumber_109 (fun H locs hP hD hS => ?_)
            have hP : va_P D vwCl (MW dA h ad (MS.s_amount (MS.s_too (MS.s_kind x 1) (q + 1)) m7)) H := hP
            have hD : va_D A (MW dA h ad (MS.s_amount (MS.s_too (MS.s_kind x 1) (q + 1)) m7)) := hD
            refine lv_goto hx hb d_M_readNumber_112 (tgt := 12) rfl ?_
            exact ih12 _ (by omega) (q + 1) v m7 (by rw [← i1, numG_t (w := x.length + 1 - q) (by omega) g5, show x.length + 1 - q - 1 = x.length + 1 - (q + 1) by omega]; show _ = numG _ _ _ _ (ngB g am (x.atN q - 48)) (ngA g am (x.atN q - 48)); rw [j3, j4]) (by omega) rfl H _ ls hP hD hS (lv_sub hl [0, 1] rfl)
          refine lv_aload_n hx hb d_M_readNumber_76 rfl (lv_at hl 2 rfl) ?_
          refine lv_iload_n hx hb d_M_readNumber_77 rfl (lv_at hl 0 rfl) ?_
          refine lv_if_eq hx hb d_M_readNumber_78 (tgt := 95) rfl (fun g10 => ?_) (fun g10 => ?_)
          · have g10 := bI_0 g10
            refine lv_aload_n hx hb d_M_readNumber_95 rfl (lv_at hl 2 rfl) ?_
            refine gF (v := .long am) hx hb hown hE hK hP 0 rfl rfl layM 47 (by decide) w953 rfl d_M_readNumber_96 ?_
            exact J99 am (if_neg (by rw [j3, g10]; decide)) H _ ls hP hD hS (lv_sub hl [0, 2] rfl)
          · have g10 := bI_n0 g10
            refine lv_ldc2 (v := 10) hx hb hown (hE.t w957 rfl) d_M_readNumber_81 ?_
            refine lv_aload_n hx hb d_M_readNumber_84 rfl (lv_at hl 2 rfl) ?_
            refine gF (v := .long am) hx hb hown hE hK hP 0 rfl rfl layM 47 (by decide) w953 rfl d_M_readNumber_85 ?_
            refine lv_lmul hx hb d_M_readNumber_88 ?_
            refine lv_iload_n hx hb d_M_readNumber_89 rfl (lv_at hl 1 rfl) ?_
            refine lv_i2l hx hb d_M_readNumber_90 rfl ?_
            refine lv_ladd hx hb d_M_readNumber_91 ?_
            refine lv_goto hx hb d_M_readNumber_92 (tgt := 99) rfl ?_
            exact J99 ((10 * am) + ((x.atN q - 48).toInt64)) (if_pos (j3.trans g10)) H _ ls hP hD hS (lv_sub hl [0, 2] rfl)
        refine lv_iload_n hx hb d_M_readNumber_38 rfl (lv_at hl 1 rfl) ?_
        refine lv_if_eq hx hb d_M_readNumber_39 (tgt := 74) rfl (fun g11 => ?_) (fun g11 => ?_)
        · have g11 := bI_0 g11
          refine lv_iconst (v := 0) hx hb d_M_readNumber_74 (by decide) ?_
          exact J75 false (by simp [ngB, *]) H _ ls hP hD hS (lv_sub hl [0, 1, 2] rfl)
        · have g11 := bI_n0 g11
          refine lv_aload_n hx hb d_M_readNumber_42 rfl (lv_at hl 2 rfl) ?_
          refine gF (v := .long am) hx hb hown hE hK hP 0 rfl rfl layM 47 (by decide) w953 rfl d_M_readNumber_43 ?_
          refine lv_ldc2 (v := 922337203685477580) hx hb hown (hE.t w958 rfl) d_M_readNumber_46 ?_
          refine W.lcmp hx hb d_M_readNumber_49 ?_
          refine lv_if_lt hx hb d_M_readNumber_50 (tgt := 70) rfl (fun g12 => ?_) (fun g12 => ?_)
          · have g12 := (lg_cmp_lt _ _).mp g12
            refine lv_iconst (v := 1) hx hb d_M_readNumber_70 (by decide) ?_
            refine lv_goto hx hb d_M_readNumber_71 (tgt := 75) rfl ?_
            exact J75 true (by simp [ngB, *]) H _ ls hP hD hS (lv_sub hl [0, 1, 2] rfl)
          · have g12 := mt (lg_cmp_lt _ _).mpr g12
            refine lv_aload_n hx hb d_M_readNumber_53 rfl (lv_at hl 2 rfl) ?_
            refine gF (v := .long am) hx hb hown hE hK hP 0 rfl rfl layM 47 (by decide) w953 rfl d_M_readNumber_54 ?_
            refine lv_ldc2 (v := 922337203685477580) hx hb hown (hE.t w958 rfl) d_M_readNumber_57 ?_
            refine W.lcmp hx hb d_M_readNumber_60 ?_
            refine lv_if_ne hx hb d_M_readNumber_61 (tgt := 74) rfl (fun g13 => ?_) (fun g13 => ?_)
            · have g13 := mt (lg_cmp_eq _ _).mpr g13
              refine lv_iconst (v := 0) hx hb d_M_readNumber_74 (by decide) ?_
              exact J75 false (by simp [ngB, *]) H _ ls hP hD hS (lv_sub hl [0, 1, 2] rfl)
            · have g13 := (lg_cmp_eq _ _).mp g13
              refine lv_iload_n hx hb d_M_readNumber_64 rfl (lv_at hl 0 rfl) ?_
              refine lv_bipush (v := 8) hx hb d_M_readNumber_65 (by decide) ?_
              refine lv_icmp_ge hx hb d_M_readNumber_67 (tgt := 74) rfl (fun g14 => ?_) (fun g14 => ?_)
              · have g14 := g14
                refine lv_iconst (v := 0) hx hb d_M_readNumber_74 (by decide) ?_
                exact J75 false (by simp [ngB, *]) H _ ls hP hD hS (lv_sub hl [0, 1, 2] rfl)
              · have g14 := g14
                refine lv_iconst (v := 1) hx hb d_M_readNumber_70 (by decide) ?_
                refine lv_goto hx hb d_M_readNumber_71 (tgt := 75) rfl ?_
                exact J75 true (by simp [ngB, *]) H _ ls hP hD hS (lv_sub hl [0, 1, 2] rfl)
  exact L12 _ x.too true 0 rfl (by omega) rfl H _ ls hP hD hS (lv_sub hl [0, 1] rfl)
/-- behind the spaces -/
def skG (f : Nat → Int32) (len : Nat) : Nat → Nat → Nat
  | 0, q => q
  | w + 1, q => if len ≤ q then q else if f q = 32 then skG f len w (q + 1) else q
theorem skG_t {f : Nat → Int32} {len w q : Nat} (hw : 0 < w) (h0 : ¬ len ≤ q) (h : f q = 32) : skG f len w q = skG f len (w - 1) (q + 1) := by
  obtain ⟨k, rfl⟩ : ∃ k, w = k + 1 := ⟨w - 1, by omega⟩
  show (if len ≤ q then q else if f q = 32 then skG f len k (q + 1) else q) = _
  rw [if_neg h0, if_pos h]
  rfl
theorem skG_n {f : Nat → Int32} {len w q : Nat} (h : len ≤ q ∨ ¬ f q = 32) : skG f len w q = q := by
  cases w with
  | zero => rfl
  | succ w =>
    show (if len ≤ q then q else if f q = 32 then skG f len w (q + 1) else q) = _
    by_cases h1 : len ≤ q
    · rw [if_pos h1]
    · rw [if_neg h1, if_neg (h.resolve_left h1)]
def isNm (z : Int32) : Bool := isLt z || isDg z
def idG (f : Nat → Int32) (len : Nat) : Nat → Nat → Nat
  | 0, q => q
  | w + 1, q => if isNm (atI f len q) = true then idG f len w (q + 1) else q
def isTx (z : Int32) : Bool := !decide (z ≤ 31) && (!decide (127 ≤ z) && !decide (z = 34))
def txG (f : Nat → Int32) (len : Nat) : Nat → Nat → Nat
  | 0, q => q
  | w + 1, q => if len ≤ q then q else if isTx (atI f len q) = true then txG f len w (q + 1) else q
