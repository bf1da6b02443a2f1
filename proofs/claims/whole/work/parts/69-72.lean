section
def sgTwo (a b : Int32) : Nat := if a = 33 ∧ b = 61 then 256 else if a = 94 ∧ b = 61 then 257 else if a = 33 ∧ b = 94 then 258 else 0
def sgOne (a : Int32) : Bool := decide (a = 43) || (decide (a = 45) || (decide (a = 42) || (decide (a = 47) || (decide (a = 37) || (decide (a = 40) || (decide (a = 41) || (decide (a = 123) || (decide (a = 125) || (decide (a = 44) || decide (a = 61))))))))))
/-- may a digit come behind this number -/
def ngB (g : Bool) (m : Int64) (d : Int32) : Bool := g && (decide (m < 922337203685477580) || (decide (m = 922337203685477580) && !decide (8 ≤ d)))
def ngA (g : Bool) (m : Int64) (d : Int32) : Int64 := if ngB g m d = true then 10 * m + d.toInt64 else m
/-- a number's digits: their end, is it small enough, its amount -/
def numG (f : Nat → Int32) (len : Nat) : Nat → Nat → Bool → Int64 → Nat × Bool × Int64
  | 0, q, g, m => (q, g, m)
  | w + 1, q, g, m => if isDg (atI f len q) = true then numG f len w (q + 1) (ngB g m (atI f len q - 48)) (ngA g m (atI f len q - 48)) else (q, g, m)
theorem numG_t {f : Nat → Int32} {len w q : Nat} {g : Bool} {m : Int64} (hw : 0 < w) (h : isDg (atI f len q) = true) : numG f len w q g m = numG f len (w - 1) (q + 1) (ngB g m (atI f len q - 48)) (ngA g m (atI f len q - 48)) := by
  obtain ⟨k, rfl⟩ : ∃ k, w = k + 1 := ⟨w - 1, by omega⟩
  exact if_pos h
theorem numG_f {f : Nat → Int32} {len w q : Nat} {g : Bool} {m : Int64} (h : isDg (atI f len q) = false) : numG f len w q g m = (q, g, m) := by
  cases w with
  | zero => rfl
  | succ w => exact if_neg (by rw [h]; decide)
theorem isDg_0 : isDg 0 = false := by decide
theorem atI_lt {f : Nat → Int32} {len q : Nat} (h : isDg (atI f len q) = true) : q < len := by
  refine Nat.lt_of_not_le fun z => ?_
  have e : atI f len q = 0 := if_pos z
  rw [e, isDg_0] at h
  cases h
theorem d_M_readSign_55 : decode prog_14_method_59_code 55 = .ok (.istore_n 3, 1) := by decide +kernel
theorem d_M_readSign_127 : decode prog_14_method_59_code 127 = .ok (.istore 4, 2) := by decide +kernel
theorem d_M_readSign_129 : decode prog_14_method_59_code 129 = .ok (.iload_n 3, 1) := by decide +kernel
theorem d_M_readSign_130 : decode prog_14_method_59_code 130 = .ok (.ifCond .ne 18, 3) := by decide +kernel
theorem d_M_readSign_133 : decode prog_14_method_59_code 133 = .ok (.iload 4, 2) := by decide +kernel
theorem d_M_readSign_135 : decode prog_14_method_59_code 135 = .ok (.ifCond .ne 13, 3) := by decide +kernel
theorem d_M_readSign_138 : decode prog_14_method_59_code 138 = .ok (.aload_n 0, 1) := by decide +kernel
theorem d_M_readSign_139 : decode prog_14_method_59_code 139 = .ok (.iconst 1, 1) := by decide +kernel
theorem d_M_readSign_140 : decode prog_14_method_59_code 140 = .ok (.aload_n 0, 1) := by decide +kernel
theorem d_M_readSign_141 : decode prog_14_method_59_code 141 = .ok (.getfield 345, 3) := by decide +kernel
theorem d_M_readSign_144 : decode prog_14_method_59_code 144 = .ok (.invokevirtual 224, 3) := by decide +kernel
theorem d_M_readSign_147 : decode prog_14_method_59_code 147 = .ok (.ireturn, 1) := by decide +kernel
theorem d_M_readSign_56 : decode prog_14_method_59_code 56 = .ok (.iload_n 1, 1) := by decide +kernel
theorem d_M_readSign_57 : decode prog_14_method_59_code 57 = .ok (.bipush 43, 2) := by decide +kernel
theorem d_M_readSign_59 : decode prog_14_method_59_code 59 = .ok (.if_icmp .eq 63, 3) := by decide +kernel
theorem d_M_readSign_122 : decode prog_14_method_59_code 122 = .ok (.iconst 1, 1) := by decide +kernel
theorem d_M_readSign_123 : decode prog_14_method_59_code 123 = .ok (.goto 4, 3) := by decide +kernel
theorem d_M_readSign_62 : decode prog_14_method_59_code 62 = .ok (.iload_n 1, 1) := by decide +kernel
theorem d_M_readSign_63 : decode prog_14_method_59_code 63 = .ok (.bipush 45, 2) := by decide +kernel
theorem d_M_readSign_65 : decode prog_14_method_59_code 65 = .ok (.if_icmp .eq 57, 3) := by decide +kernel
theorem d_M_readSign_68 : decode prog_14_method_59_code 68 = .ok (.iload_n 1, 1) := by decide +kernel
theorem d_M_readSign_69 : decode prog_14_method_59_code 69 = .ok (.bipush 42, 2) := by decide +kernel
theorem d_M_readSign_71 : decode prog_14_method_59_code 71 = .ok (.if_icmp .eq 51, 3) := by decide +kernel
theorem d_M_readSign_74 : decode prog_14_method_59_code 74 = .ok (.iload_n 1, 1) := by decide +kernel
theorem d_M_readSign_75 : decode prog_14_method_59_code 75 = .ok (.bipush 47, 2) := by decide +kernel
theorem d_M_readSign_77 : decode prog_14_method_59_code 77 = .ok (.if_icmp .eq 45, 3) := by decide +kernel
theorem d_M_readSign_80 : decode prog_14_method_59_code 80 = .ok (.iload_n 1, 1) := by decide +kernel
theorem d_M_readSign_81 : decode prog_14_method_59_code 81 = .ok (.bipush 37, 2) := by decide +kernel
theorem d_M_readSign_83 : decode prog_14_method_59_code 83 = .ok (.if_icmp .eq 39, 3) := by decide +kernel
theorem d_M_readSign_86 : decode prog_14_method_59_code 86 = .ok (.iload_n 1, 1) := by decide +kernel
theorem d_M_readSign_87 : decode prog_14_method_59_code 87 = .ok (.bipush 40, 2) := by decide +kernel
theorem d_M_readSign_89 : decode prog_14_method_59_code 89 = .ok (.if_icmp .eq 33, 3) := by decide +kernel
theorem d_M_readSign_92 : decode prog_14_method_59_code 92 = .ok (.iload_n 1, 1) := by decide +kernel
theorem d_M_readSign_93 : decode prog_14_method_59_code 93 = .ok (.bipush 41, 2) := by decide +kernel
theorem d_M_readSign_95 : decode prog_14_method_59_code 95 = .ok (.if_icmp .eq 27, 3) := by decide +kernel
theorem d_M_readSign_98 : decode prog_14_method_59_code 98 = .ok (.iload_n 1, 1) := by decide +kernel
theorem d_M_readSign_99 : decode prog_14_method_59_code 99 = .ok (.bipush 123, 2) := by decide +kernel
theorem d_M_readSign_101 : decode prog_14_method_59_code 101 = .ok (.if_icmp .eq 21, 3) := by decide +kernel
theorem d_M_readSign_104 : decode prog_14_method_59_code 104 = .ok (.iload_n 1, 1) := by decide +kernel
theorem d_M_readSign_105 : decode prog_14_method_59_code 105 = .ok (.bipush 125, 2) := by decide +kernel
theorem d_M_readSign_107 : decode prog_14_method_59_code 107 = .ok (.if_icmp .eq 15, 3) := by decide +kernel
theorem d_M_readSign_110 : decode prog_14_method_59_code 110 = .ok (.iload_n 1, 1) := by decide +kernel
theorem d_M_readSign_111 : decode prog_14_method_59_code 111 = .ok (.bipush 44, 2) := by decide +kernel
theorem d_M_readSign_113 : decode prog_14_method_59_code 113 = .ok (.if_icmp .eq 9, 3) := by decide +kernel
theorem d_M_readSign_116 : decode prog_14_method_59_code 116 = .ok (.iload_n 1, 1) := by decide +kernel
theorem d_M_readSign_117 : decode prog_14_method_59_code 117 = .ok (.bipush 61, 2) := by decide +kernel
theorem d_M_readSign_119 : decode prog_14_method_59_code 119 = .ok (.if_icmp .ne 7, 3) := by decide +kernel
theorem d_M_readSign_126 : decode prog_14_method_59_code 126 = .ok (.iconst 0, 1) := by decide +kernel
theorem d_M_readSign_0 : decode prog_14_method_59_code 0 = .ok (.iload_n 1, 1) := by decide +kernel
theorem d_M_readSign_1 : decode prog_14_method_59_code 1 = .ok (.bipush 33, 2) := by decide +kernel
theorem d_M_readSign_3 : decode prog_14_method_59_code 3 = .ok (.if_icmp .ne 15, 3) := by decide +kernel
theorem d_M_readSign_18 : decode prog_14_method_59_code 18 = .ok (.iload_n 1, 1) := by decide +kernel
theorem d_M_readSign_19 : decode prog_14_method_59_code 19 = .ok (.bipush 94, 2) := by decide +kernel
theorem d_M_readSign_21 : decode prog_14_method_59_code 21 = .ok (.if_icmp .ne 15, 3) := by decide +kernel
theorem d_M_readSign_36 : decode prog_14_method_59_code 36 = .ok (.iload_n 1, 1) := by decide +kernel
theorem d_M_readSign_37 : decode prog_14_method_59_code 37 = .ok (.bipush 33, 2) := by decide +kernel
theorem d_M_readSign_39 : decode prog_14_method_59_code 39 = .ok (.if_icmp .ne 15, 3) := by decide +kernel
theorem d_M_readSign_54 : decode prog_14_method_59_code 54 = .ok (.iconst 0, 1) := by decide +kernel
theorem d_M_readSign_24 : decode prog_14_method_59_code 24 = .ok (.iload_n 2, 1) := by decide +kernel
theorem d_M_readSign_25 : decode prog_14_method_59_code 25 = .ok (.bipush 61, 2) := by decide +kernel
theorem d_M_readSign_27 : decode prog_14_method_59_code 27 = .ok (.if_icmp .ne 9, 3) := by decide +kernel
theorem d_M_readSign_30 : decode prog_14_method_59_code 30 = .ok (.sipush 257, 3) := by decide +kernel
theorem d_M_readSign_33 : decode prog_14_method_59_code 33 = .ok (.goto 22, 3) := by decide +kernel
theorem d_M_readSign_6 : decode prog_14_method_59_code 6 = .ok (.iload_n 2, 1) := by decide +kernel
theorem d_M_readSign_7 : decode prog_14_method_59_code 7 = .ok (.bipush 61, 2) := by decide +kernel
theorem d_M_readSign_9 : decode prog_14_method_59_code 9 = .ok (.if_icmp .ne 9, 3) := by decide +kernel
theorem d_M_readSign_42 : decode prog_14_method_59_code 42 = .ok (.iload_n 2, 1) := by decide +kernel
theorem d_M_readSign_43 : decode prog_14_method_59_code 43 = .ok (.bipush 94, 2) := by decide +kernel
theorem d_M_readSign_45 : decode prog_14_method_59_code 45 = .ok (.if_icmp .ne 9, 3) := by decide +kernel
theorem d_M_readSign_48 : decode prog_14_method_59_code 48 = .ok (.sipush 258, 3) := by decide +kernel
theorem d_M_readSign_51 : decode prog_14_method_59_code 51 = .ok (.goto 4, 3) := by decide +kernel
theorem d_M_readSign_12 : decode prog_14_method_59_code 12 = .ok (.sipush 256, 3) := by decide +kernel
theorem d_M_readSign_15 : decode prog_14_method_59_code 15 = .ok (.goto 40, 3) := by decide +kernel
set_option maxHeartbeats 4000000 in
set_option maxRecDepth 100000 in
theorem k_readSign_x (l : Launch) (D : va_G) (dA : Nat → ClassId) (sz : Nat) (h : Nat) (ad : Nat → Nat) (x : MS) (a : Int32) (b : Int32) (h0 : sgTwo a b = 0) (h1 : sgOne a = false) (hf : x.faultCode = 0) : Met l ⟨"SeriesVaultModel", "readSign", "(II)Z"⟩ [Cond.code ⟨"SeriesVaultModel", "readSign", "(II)Z"⟩ prog_14_method_59_code 5 (some FieldType.boolean)] { frames := 2, cells := 0, slots := 0, locals := 22 } (pC D dA [.ref h, .int a, .int b] (MW dA h ad x) sz) (va_Qi (fun (r9 : Int32) (u9 : Unit) => r9 = bI false) (fun (u9 : Unit) t9 => bW D (va_A (MW dA h ad x) sz) (MW dA h ad (MS.s_faultPlace (MS.s_faultCode x 1) (nI x.frm))) t9) (va_A (MW dA h ad x) sz)) 0 0 (va_A (MW dA h ad x) sz) := by
  refine mkC (y := ⟨"SeriesVaultModel", "readSign", "(II)Z"⟩) (cc := prog_14_method_59_code) (maxL := 5) (av := [.ref h, .int a, .int b]) (ws := MW dA h ad x) (sz := sz) (Qc := fun A => va_Qi (fun (r9 : Int32) (u9 : Unit) => r9 = bI false) (fun (u9 : Unit) t9 => bW D A (MW dA h ad (MS.s_faultPlace (MS.s_faultCode x 1) (nI x.frm))) t9) A) (by decide) (Nat.le_of_ble_eq_true rfl) ?_
  intro A p e s m below meth c ls hsz hB
  obtain ⟨hx, hb, hr, hml, hown, hin, hlk, hE, hK, hP, hD, hS, hA, hN, hl⟩ := hB
  have hown : s.vm.findClass "SeriesVaultModel" = some m.cls := hown
  have hl : lv_has ls 5 [(0, .ref h), (1, .int a), (2, .int b)] := hl
  obtain ⟨H, hH⟩ : ∃ z, z = s.heap := ⟨_, rfl⟩
  have hP : va_P D vwCl (MW dA h ad x) H := by rw [hH]; exact hP
  have hS : va_S A s.heap H [] := by rw [hH]; exact hS
  rw [← hH]
  have J55 : ∀ (w : Nat) (j1 : sgTwo a b = w), ∀ (H : Heap) (locs : List Loc) (ls : Array Slot) (hP : va_P D vwCl (MW dA h ad x) H) (hD : va_D A (MW dA h ad x)) (hS : va_S A s.heap H locs) (hl : lv_has ls 5 [(1, .int a), (2, .int b), (0, .ref h)]), W p l e ({ frames := 2, cells := 0, slots := 0, locals := 22 } : Room) s m ([.ref h, .int a, .int b] : List Value).toArray below meth c H locs 0 0 (MQ below (va_Qi (fun (r9 : Int32) (u9 : Unit) => r9 = bI false) (fun (u9 : Unit) t9 => bW D A (MW dA h ad (MS.s_faultPlace (MS.s_faultCode x 1) (nI x.frm))) t9) A) ([.ref h, .int a, .int b] : List Value).toArray s 0 0 A) (F0 m 55 ls [.int (nI w)]) := by
    intro w j1 H locs ls hP hD hS hl
    refine lv_istore_n hx hb d_M_readSign_55 rfl hl (by decide) rfl (fun ls hl => ?_)
    have hl : lv_has ls 5 [(3, .int (nI w)), (1, .int a), (2, .int b), (0, .ref h)] := hl
    have J127 : ∀ (v : Bool) (j2 : sgOne a = v), ∀ (H : Heap) (locs : List Loc) (ls : Array Slot) (hP : va_P D vwCl (MW dA h ad x) H) (hD : va_D A (MW dA h ad x)) (hS : va_S A s.heap H locs) (hl : lv_has ls 5 [(3, .int (nI w)), (1, .int a), (2, .int b), (0, .ref h)]), W p l e ({ frames := 2, cells := 0, slots := 0, locals := 22 } : Room) s m ([.ref h, .int a, .int b] : List Value).toArray below meth c H locs 0 0 (MQ below (va_Qi (fun (r9 : Int32) (u9 : Unit) => r9 = bI false) (fun (u9 : Unit) t9 => bW D A (MW dA h ad (MS.s_faultPlace (MS.s_faultCode x 1) (nI x.frm))) t9) A) ([.ref h, .int a, .int b] : List Value).toArray s 0 0 A) (F0 m 127 ls [.int (bI v)]) := by
      intro v j2 H locs ls hP hD hS hl
      have w0 : w = 0 := j1.symm.trans h0
      have v0 : v = false := j2.symm.trans h1
      refine lv_istore hx hb d_M_readSign_127 hl (by decide) rfl (fun ls hl => ?_)
      have hl : lv_has ls 5 [(4, .int (bI v)), (3, .int (nI w)), (1, .int a), (2, .int b), (0, .ref h)] := hl
      refine lv_iload_n hx hb d_M_readSign_129 rfl (lv_at hl 1 rfl) ?_
      refine lv_if_ne hx hb d_M_readSign_130 (tgt := 148) rfl (fun h9 => absurd (by rw [w0]; decide) h9) (fun _ => ?_)
      refine lv_iload hx hb d_M_readSign_133 (lv_at hl 0 rfl) ?_
      refine lv_if_ne hx hb d_M_readSign_135 (tgt := 148) rfl (fun h9 => absurd (by rw [v0]; decide) h9) (fun _ => ?_)
      refine lv_aload_n hx hb d_M_readSign_138 rfl (lv_at hl 4 rfl) ?_
      refine lv_iconst (v := 1) hx hb d_M_readSign_139 (by decide) ?_
      refine lv_aload_n hx hb d_M_readSign_140 rfl (lv_at hl 4 rfl) ?_
      refine gF (v := .int (nI x.frm)) hx hb hown hE hK hP 0 rfl rfl layM 45 (by decide) w464 rfl d_M_readSign_141 ?_
      refine jfI (rnV (As := [.int 1, .int (nI x.frm)]) (rest := []) hx hb hml hown hE hK (hN _ _ hS) hP hD (k_flaw_0 l D dA H.size h ad x 1 (nI x.frm) hf) (q0 := 0) rfl rfl w431 w430 w432 w433 w328 rfl rfl ⟨⟨by decide, by decide⟩, rfl⟩ ⟨(Nat.le_of_ble_eq_true rfl), (Nat.le_of_ble_eq_true rfl)⟩ rfl hl.1 rfl (Nat.le_of_ble_eq_true rfl) d_M_readSign_144 ⟨(Nat.le_of_ble_eq_true rfl), (Nat.le_of_ble_eq_true rfl)⟩) hP hD hS hA (fun r1 u2 H locs hp9 hP hD hS => ?_)
      have hP : va_P D vwCl (MW dA h ad (MS.s_faultPlace (MS.s_faultCode x 1) (nI x.frm))) H := hP
      have hD : va_D A (MW dA h ad (MS.s_faultPlace (MS.s_faultCode x 1) (nI x.frm))) := hD
      replace hp9 : bI false = r1 := Eq.symm hp9
      subst hp9
      exact rfZ hx hb hr (bI_nar false) hlk hS () rfl hP hD (Nat.le_of_ble_eq_true rfl) (Nat.le_of_ble_eq_true rfl) d_M_readSign_147
    refine lv_iload_n hx hb d_M_readSign_56 rfl (lv_at hl 1 rfl) ?_
    refine lv_bipush (v := 43) hx hb d_M_readSign_57 (by decide) ?_
    refine lv_icmp_eq hx hb d_M_readSign_59 (tgt := 122) rfl (fun g3 => ?_) (fun g3 => ?_)
    · have g3 := g3
      refine lv_iconst (v := 1) hx hb d_M_readSign_122 (by decide) ?_
      refine lv_goto hx hb d_M_readSign_123 (tgt := 127) rfl ?_
      exact J127 true (by simp [sgOne, *]) H _ ls hP hD hS (lv_sub hl [0, 1, 2, 3] rfl)
    · have g3 := g3
      refine lv_iload_n hx hb d_M_readSign_62 rfl (lv_at hl 1 rfl) ?_
      refine lv_bipush (v := 45) hx hb d_M_readSign_63 (by decide) ?_
      refine lv_icmp_eq hx hb d_M_readSign_65 (tgt := 122) rfl (fun g4 => ?_) (fun g4 => ?_)
      · have g4 := g4
        refine lv_iconst (v := 1) hx hb d_M_readSign_122 (by decide) ?_
        refine lv_goto hx hb d_M_readSign_123 (tgt := 127) rfl ?_
        exact J127 true (by simp [sgOne, *]) H _ ls hP hD hS (lv_sub hl [0, 1, 2, 3] rfl)
      · have g4 := g4
        refine lv_iload_n hx hb d_M_readSign_68 rfl (lv_at hl 1 rfl) ?_
        refine lv_bipush (v := 42) hx hb d_M_readSign_69 (by decide) ?_
        refine lv_icmp_eq hx hb d_M_readSign_71 (tgt := 122) rfl (fun g5 => ?_) (fun g5 => ?_)
        · have g5 := g5
          refine lv_iconst (v := 1) hx hb d_M_readSign_122 (by decide) ?_
          refine lv_goto hx hb d_M_readSign_123 (tgt := 127) rfl ?_
          exact J127 true (by simp [sgOne, *]) H _ ls hP hD hS (lv_sub hl [0, 1, 2, 3] rfl)
        · have g5 := g5
          refine lv_iload_n hx hb d_M_readSign_74 rfl (lv_at hl 1 rfl) ?_
          refine lv_bipush (v := 47) hx hb d_M_readSign_75 (by decide) ?_
          refine lv_icmp_eq hx hb d_M_readSign_77 (tgt := 122) rfl (fun g6 => ?_) (fun g6 => ?_)
          · have g6 := g6
            refine lv_iconst (v := 1) hx hb d_M_readSign_122 (by decide) ?_
            refine lv_goto hx hb d_M_readSign_123 (tgt := 127) rfl ?_
            exact J127 true (by simp [sgOne, *]) H _ ls hP hD hS (lv_sub hl [0, 1, 2, 3] rfl)
          · have g6 := g6
            refine lv_iload_n hx hb d_M_readSign_80 rfl (lv_at hl 1 rfl) ?_
            refine lv_bipush (v := 37) hx hb d_M_readSign_81 (by decide) ?_
            refine lv_icmp_eq hx hb d_M_readSign_83 (tgt := 122) rfl (fun g7 => ?_) (fun g7 => ?_)
            · have g7 := g7
              refine lv_iconst (v := 1) hx hb d_M_readSign_122 (by decide) ?_
              refine lv_goto hx hb d_M_readSign_123 (tgt := 127) rfl ?_
              exact J127 true (by simp [sgOne, *]) H _ ls hP hD hS (lv_sub hl [0, 1, 2, 3] rfl)
            · have g7 := g7
              refine lv_iload_n hx hb d_M_readSign_86 rfl (lv_at hl 1 rfl) ?_
              refine lv_bipush (v := 40) hx hb d_M_readSign_87 (by decide) ?_
              refine lv_icmp_eq hx hb d_M_readSign_89 (tgt := 122) rfl (fun g8 => ?_) (fun g8 => ?_)
              · have g8 := g8
                refine lv_iconst (v := 1) hx hb d_M_readSign_122 (by decide) ?_
                refine lv_goto hx hb d_M_readSign_123 (tgt := 127) rfl ?_
                exact J127 true (by simp [sgOne, *]) H _ ls hP hD hS (lv_sub hl [0, 1, 2, 3] rfl)
              · have g8 := g8
                refine lv_iload_n hx hb d_M_readSign_92 rfl (lv_at hl 1 rfl) ?_
                refine lv_bipush (v := 41) hx hb d_M_readSign_93 (by decide) ?_
                refine lv_icmp_eq hx hb d_M_readSign_95 (tgt := 122) rfl (fun g9 => ?_) (fun g9 => ?_)
                · have g9 := g9
                  refine lv_iconst (v := 1) hx hb d_M_readSign_122 (by decide) ?_
                  refine lv_goto hx hb d_M_readSign_123 (tgt := 127) rfl ?_
                  exact J127 true (by simp [sgOne, *]) H _ ls hP hD hS (lv_sub hl [0, 1, 2, 3] rfl)
                · have g9 := g9
                  refine lv_iload_n hx hb d_M_readSign_98 rfl (lv_at hl 1 rfl) ?_
                  refine lv_bipush (v := 123) hx hb d_M_readSign_99 (by decide) ?_
                  refine lv_icmp_eq hx hb d_M_readSign_101 (tgt := 122) rfl (fun g10 => ?_) (fun g10 => ?_)
                  · have g10 := g10
                    refine lv_iconst (v := 1) hx hb d_M_readSign_122 (by decide) ?_
                    refine lv_goto hx hb d_M_readSign_123 (tgt := 127) rfl ?_
                    exact J127 true (by simp [sgOne, *]) H _ ls hP hD hS (lv_sub hl [0, 1, 2, 3] rfl)
                  · have g10 := g10
                    refine lv_iload_n hx hb d_M_readSign_104 rfl (lv_at hl 1 rfl) ?_
                    refine lv_bipush (v := 125) hx hb d_M_readSign_105 (by decide) ?_
                    refine lv_icmp_eq hx hb d_M_readSign_107 (tgt := 122) rfl (fun g11 => ?_) (fun g11 => ?_)
                    · have g11 := g11
                      refine lv_iconst (v := 1) hx hb d_M_readSign_122 (by decide) ?_
                      refine lv_goto hx hb d_M_readSign_123 (tgt := 127) rfl ?_
                      exact J127 true (by simp [sgOne, *]) H _ ls hP hD hS (lv_sub hl [0, 1, 2, 3] rfl)
                    · have g11 := g11
                      refine lv_iload_n hx hb d_M_readSign_110 rfl (lv_at hl 1 rfl) ?_
                      refine lv_bipush (v := 44) hx hb d_M_readSign_111 (by decide) ?_
                      refine lv_icmp_eq hx hb d_M_readSign_113 (tgt := 122) rfl (fun g12 => ?_) (fun g12 => ?_)
                      · have g12 := g12
                        refine lv_iconst (v := 1) hx hb d_M_readSign_122 (by decide) ?_
                        refine lv_goto hx hb d_M_readSign_123 (tgt := 127) rfl ?_
                        exact J127 true (by simp [sgOne, *]) H _ ls hP hD hS (lv_sub hl [0, 1, 2, 3] rfl)
                      · have g12 := g12
                        refine lv_iload_n hx hb d_M_readSign_116 rfl (lv_at hl 1 rfl) ?_
                        refine lv_bipush (v := 61) hx hb d_M_readSign_117 (by decide) ?_
                        refine lv_icmp_ne hx hb d_M_readSign_119 (tgt := 126) rfl (fun g13 => ?_) (fun g13 => ?_)
                        · have g13 := g13
                          refine lv_iconst (v := 0) hx hb d_M_readSign_126 (by decide) ?_
                          exact J127 false (by simp [sgOne, *]) H _ ls hP hD hS (lv_sub hl [0, 1, 2, 3] rfl)
                        · have g13 := g13
                          refine lv_iconst (v := 1) hx hb d_M_readSign_122 (by decide) ?_
                          refine lv_goto hx hb d_M_readSign_123 (tgt := 127) rfl ?_
                          exact J127 true (by simp [sgOne, *]) H _ ls hP hD hS (lv_sub hl [0, 1, 2, 3] rfl)
  refine lv_iload_n hx hb d_M_readSign_0 rfl (lv_at hl 1 rfl) ?_
  refine lv_bipush (v := 33) hx hb d_M_readSign_1 (by decide) ?_
  refine lv_icmp_ne hx hb d_M_readSign_3 (tgt := 18) rfl (fun g14 => ?_) (fun g14 => ?_)
  · have g14 := g14
    refine lv_iload_n hx hb d_M_readSign_18 rfl (lv_at hl 1 rfl) ?_
    refine lv_bipush (v := 94) hx hb d_M_readSign_19 (by decide) ?_
    refine lv_icmp_ne hx hb d_M_readSign_21 (tgt := 36) rfl (fun g15 => ?_) (fun g15 => ?_)
    · have g15 := g15
      refine lv_iload_n hx hb d_M_readSign_36 rfl (lv_at hl 1 rfl) ?_
      refine lv_bipush (v := 33) hx hb d_M_readSign_37 (by decide) ?_
      refine lv_icmp_ne hx hb d_M_readSign_39 (tgt := 54) rfl (fun _ => ?_) (fun h9 => absurd h9 g14)
      refine lv_iconst (v := 0) hx hb d_M_readSign_54 (by decide) ?_
      exact J55 0 (by simp [sgTwo, *]) H _ ls hP hD hS (lv_sub hl [1, 2, 0] rfl)
    · have g15 := g15
      refine lv_iload_n hx hb d_M_readSign_24 rfl (lv_at hl 2 rfl) ?_
      refine lv_bipush (v := 61) hx hb d_M_readSign_25 (by decide) ?_
      refine lv_icmp_ne hx hb d_M_readSign_27 (tgt := 36) rfl (fun g16 => ?_) (fun g16 => ?_)
      · have g16 := g16
        refine lv_iload_n hx hb d_M_readSign_36 rfl (lv_at hl 1 rfl) ?_
        refine lv_bipush (v := 33) hx hb d_M_readSign_37 (by decide) ?_
        refine lv_icmp_ne hx hb d_M_readSign_39 (tgt := 54) rfl (fun _ => ?_) (fun h9 => absurd h9 g14)
        refine lv_iconst (v := 0) hx hb d_M_readSign_54 (by decide) ?_
        exact J55 0 (by simp [sgTwo, *]) H _ ls hP hD hS (lv_sub hl [1, 2, 0] rfl)
      · have g16 := g16
        refine lv_sipush (v := 257) hx hb d_M_readSign_30 (by decide) ?_
        refine lv_goto hx hb d_M_readSign_33 (tgt := 55) rfl ?_
        exact J55 257 (by simp [sgTwo, *]) H _ ls hP hD hS (lv_sub hl [1, 2, 0] rfl)
  · have g14 := g14
    refine lv_iload_n hx hb d_M_readSign_6 rfl (lv_at hl 2 rfl) ?_
    refine lv_bipush (v := 61) hx hb d_M_readSign_7 (by decide) ?_
    refine lv_icmp_ne hx hb d_M_readSign_9 (tgt := 18) rfl (fun g17 => ?_) (fun g17 => ?_)
    · have g17 := g17
      refine lv_iload_n hx hb d_M_readSign_18 rfl (lv_at hl 1 rfl) ?_
      refine lv_bipush (v := 94) hx hb d_M_readSign_19 (by decide) ?_
      refine lv_icmp_ne hx hb d_M_readSign_21 (tgt := 36) rfl (fun g18 => ?_) (fun g18 => ?_)
      · have g18 := g18
        refine lv_iload_n hx hb d_M_readSign_36 rfl (lv_at hl 1 rfl) ?_
        refine lv_bipush (v := 33) hx hb d_M_readSign_37 (by decide) ?_
        refine lv_icmp_ne hx hb d_M_readSign_39 (tgt := 54) rfl (fun h9 => absurd g14 h9) (fun _ => ?_)
        refine lv_iload_n hx hb d_M_readSign_42 rfl (lv_at hl 2 rfl) ?_
        refine lv_bipush (v := 94) hx hb d_M_readSign_43 (by decide) ?_
        refine lv_icmp_ne hx hb d_M_readSign_45 (tgt := 54) rfl (fun g19 => ?_) (fun g19 => ?_)
        · have g19 := g19
          refine lv_iconst (v := 0) hx hb d_M_readSign_54 (by decide) ?_
          exact J55 0 (by simp [sgTwo, *]) H _ ls hP hD hS (lv_sub hl [1, 2, 0] rfl)
        · have g19 := g19
          refine lv_sipush (v := 258) hx hb d_M_readSign_48 (by decide) ?_
          refine lv_goto hx hb d_M_readSign_51 (tgt := 55) rfl ?_
          exact J55 258 (by simp [sgTwo, *]) H _ ls hP hD hS (lv_sub hl [1, 2, 0] rfl)
      · have g18 := g18
        refine lv_iload_n hx hb d_M_readSign_24 rfl (lv_at hl 2 rfl) ?_
        refine lv_bipush (v := 61) hx hb d_M_readSign_25 (by decide) ?_
        refine lv_icmp_ne hx hb d_M_readSign_27 (tgt := 36) rfl (fun _ => ?_) (fun h9 => absurd h9 g17)
        refine lv_iload_n hx hb d_M_readSign_36 rfl (lv_at hl 1 rfl) ?_
        refine lv_bipush (v := 33) hx hb d_M_readSign_37 (by decide) ?_
        refine lv_icmp_ne hx hb d_M_readSign_39 (tgt := 54) rfl (fun h9 => absurd g14 h9) (fun _ => ?_)
        refine lv_iload_n hx hb d_M_readSign_42 rfl (lv_at hl 2 rfl) ?_
        refine lv_bipush (v := 94) hx hb d_M_readSign_43 (by decide) ?_
        refine lv_icmp_ne hx hb d_M_readSign_45 (tgt := 54) rfl (fun g20 => ?_) (fun g20 => ?_)
        · have g20 := g20
          refine lv_iconst (v := 0) hx hb d_M_readSign_54 (by decide) ?_
          exact J55 0 (by simp [sgTwo, *]) H _ ls hP hD hS (lv_sub hl [1, 2, 0] rfl)
        · have g20 := g20
          refine lv_sipush (v := 258) hx hb d_M_readSign_48 (by decide) ?_
          refine lv_goto hx hb d_M_readSign_51 (tgt := 55) rfl ?_
          exact J55 258 (by simp [sgTwo, *]) H _ ls hP hD hS (lv_sub hl [1, 2, 0] rfl)
    · have g17 := g17
      refine lv_sipush (v := 256) hx hb d_M_readSign_12 (by decide) ?_
      refine lv_goto hx hb d_M_readSign_15 (tgt := 55) rfl ?_
      exact J55 256 (by simp [sgTwo, *]) H _ ls hP hD hS (lv_sub hl [1, 2, 0] rfl)
theorem d_M_readSign_148 : decode prog_14_method_59_code 148 = .ok (.aload_n 0, 1) := by decide +kernel
theorem d_M_readSign_149 : decode prog_14_method_59_code 149 = .ok (.iload_n 3, 1) := by decide +kernel
theorem d_M_readSign_150 : decode prog_14_method_59_code 150 = .ok (.ifCond .le 7, 3) := by decide +kernel
theorem d_M_readSign_157 : decode prog_14_method_59_code 157 = .ok (.iload_n 1, 1) := by decide +kernel
theorem d_M_readSign_158 : decode prog_14_method_59_code 158 = .ok (.putfield 351, 3) := by decide +kernel
theorem d_M_readSign_161 : decode prog_14_method_59_code 161 = .ok (.aload_n 0, 1) := by decide +kernel
theorem d_M_readSign_162 : decode prog_14_method_59_code 162 = .ok (.aload_n 0, 1) := by decide +kernel
theorem d_M_readSign_163 : decode prog_14_method_59_code 163 = .ok (.getfield 345, 3) := by decide +kernel
theorem d_M_readSign_166 : decode prog_14_method_59_code 166 = .ok (.iload_n 3, 1) := by decide +kernel
theorem d_M_readSign_167 : decode prog_14_method_59_code 167 = .ok (.ifCond .le 7, 3) := by decide +kernel
theorem d_M_readSign_174 : decode prog_14_method_59_code 174 = .ok (.iconst 1, 1) := by decide +kernel
theorem d_M_readSign_175 : decode prog_14_method_59_code 175 = .ok (.iadd, 1) := by decide +kernel
theorem d_M_readSign_176 : decode prog_14_method_59_code 176 = .ok (.putfield 342, 3) := by decide +kernel
theorem d_M_readSign_179 : decode prog_14_method_59_code 179 = .ok (.iconst 1, 1) := by decide +kernel
theorem d_M_readSign_180 : decode prog_14_method_59_code 180 = .ok (.ireturn, 1) := by decide +kernel
set_option maxHeartbeats 4000000 in
set_option maxRecDepth 100000 in
theorem k_readSign_1 (l : Launch) (D : va_G) (dA : Nat → ClassId) (sz : Nat) (h : Nat) (ad : Nat → Nat) (x : MS) (a : Int32) (b : Int32) (h0 : sgTwo a b = 0) (h1 : sgOne a = true) : Met l ⟨"SeriesVaultModel", "readSign", "(II)Z"⟩ [Cond.code ⟨"SeriesVaultModel", "readSign", "(II)Z"⟩ prog_14_method_59_code 5 (some FieldType.boolean)] { frames := 1, cells := 0, slots := 0, locals := 0 } (pC D dA [.ref h, .int a, .int b] (MW dA h ad x) sz) (va_Qi (fun (r9 : Int32) (u9 : Unit) => r9 = bI true) (fun (u9 : Unit) t9 => bW D (va_A (MW dA h ad x) sz) (MW dA h ad (MS.s_too (MS.s_kind x a) (x.frm + 1))) t9) (va_A (MW dA h ad x) sz)) 0 0 (va_A (MW dA h ad x) sz) := by
  refine mkC (y := ⟨"SeriesVaultModel", "readSign", "(II)Z"⟩) (cc := prog_14_method_59_code) (maxL := 5) (av := [.ref h, .int a, .int b]) (ws := MW dA h ad x) (sz := sz) (Qc := fun A => va_Qi (fun (r9 : Int32) (u9 : Unit) => r9 = bI true) (fun (u9 : Unit) t9 => bW D A (MW dA h ad (MS.s_too (MS.s_kind x a) (x.frm + 1))) t9) A) (by decide) (Nat.le_of_ble_eq_true rfl) ?_
  intro A p e s m below meth c ls hsz hB
  obtain ⟨hx, hb, hr, hml, hown, hin, hlk, hE, hK, hP, hD, hS, hA, hN, hl⟩ := hB
  have hown : s.vm.findClass "SeriesVaultModel" = some m.cls := hown
  have hl : lv_has ls 5 [(0, .ref h), (1, .int a), (2, .int b)] := hl
  obtain ⟨H, hH⟩ : ∃ z, z = s.heap := ⟨_, rfl⟩
  have hP : va_P D vwCl (MW dA h ad x) H := by rw [hH]; exact hP
  have hS : va_S A s.heap H [] := by rw [hH]; exact hS
  rw [← hH]
  have J55 : ∀ (w : Nat) (j1 : sgTwo a b = w), ∀ (H : Heap) (locs : List Loc) (ls : Array Slot) (hP : va_P D vwCl (MW dA h ad x) H) (hD : va_D A (MW dA h ad x)) (hS : va_S A s.heap H locs) (hl : lv_has ls 5 [(1, .int a), (2, .int b), (0, .ref h)]), W p l e ({ frames := 1, cells := 0, slots := 0, locals := 0 } : Room) s m ([.ref h, .int a, .int b] : List Value).toArray below meth c H locs 0 0 (MQ below (va_Qi (fun (r9 : Int32) (u9 : Unit) => r9 = bI true) (fun (u9 : Unit) t9 => bW D A (MW dA h ad (MS.s_too (MS.s_kind x a) (x.frm + 1))) t9) A) ([.ref h, .int a, .int b] : List Value).toArray s 0 0 A) (F0 m 55 ls [.int (nI w)]) := by
    intro w j1 H locs ls hP hD hS hl
    refine lv_istore_n hx hb d_M_readSign_55 rfl hl (by decide) rfl (fun ls hl => ?_)
    have hl : lv_has ls 5 [(3, .int (nI w)), (1, .int a), (2, .int b), (0, .ref h)] := hl
    have J127 : ∀ (v : Bool) (j2 : sgOne a = v), ∀ (H : Heap) (locs : List Loc) (ls : Array Slot) (hP : va_P D vwCl (MW dA h ad x) H) (hD : va_D A (MW dA h ad x)) (hS : va_S A s.heap H locs) (hl : lv_has ls 5 [(3, .int (nI w)), (1, .int a), (2, .int b), (0, .ref h)]), W p l e ({ frames := 1, cells := 0, slots := 0, locals := 0 } : Room) s m ([.ref h, .int a, .int b] : List Value).toArray below meth c H locs 0 0 (MQ below (va_Qi (fun (r9 : Int32) (u9 : Unit) => r9 = bI true) (fun (u9 : Unit) t9 => bW D A (MW dA h ad (MS.s_too (MS.s_kind x a) (x.frm + 1))) t9) A) ([.ref h, .int a, .int b] : List Value).toArray s 0 0 A) (F0 m 127 ls [.int (bI v)]) := by
      intro v j2 H locs ls hP hD hS hl
      have w0 : w = 0 := j1.symm.trans h0
      have v0 : v = true := j2.symm.trans h1
      refine lv_istore hx hb d_M_readSign_127 hl (by decide) rfl (fun ls hl => ?_)
      have hl : lv_has ls 5 [(4, .int (bI v)), (3, .int (nI w)), (1, .int a), (2, .int b), (0, .ref h)] := hl
      refine lv_iload_n hx hb d_M_readSign_129 rfl (lv_at hl 1 rfl) ?_
      refine lv_if_ne hx hb d_M_readSign_130 (tgt := 148) rfl (fun h9 => absurd (by rw [w0]; decide) h9) (fun _ => ?_)
      refine lv_iload hx hb d_M_readSign_133 (lv_at hl 0 rfl) ?_
      refine lv_if_ne hx hb d_M_readSign_135 (tgt := 148) rfl (fun _ => ?_) (fun h9 => absurd h9 (by rw [v0]; decide))
      refine lv_aload_n hx hb d_M_readSign_148 rfl (lv_at hl 4 rfl) ?_
      refine lv_iload_n hx hb d_M_readSign_149 rfl (lv_at hl 1 rfl) ?_
      refine lv_if_le hx hb d_M_readSign_150 (tgt := 157) rfl (fun _ => ?_) (fun h9 => absurd (by rw [w0]; decide) h9)
      refine lv_iload_n hx hb d_M_readSign_157 rfl (lv_at hl 2 rfl) ?_
      refine pF (v := .int a) hx hb hown hE hK hP hD hS 0 rfl rfl layM tyM tokM nmM 44 (by decide) w469 rfl rfl rfl (Nat.le_of_ble_eq_true rfl) d_M_readSign_158 (fun H locs hP hD hS => ?_)
      have hP : va_P D vwCl (MW dA h ad (MS.s_kind x a)) H := hP
      have hD : va_D A (MW dA h ad (MS.s_kind x a)) := hD
      refine lv_aload_n hx hb d_M_readSign_161 rfl (lv_at hl 4 rfl) ?_
      refine lv_aload_n hx hb d_M_readSign_162 rfl (lv_at hl 4 rfl) ?_
      refine gF (v := .int (nI x.frm)) hx hb hown hE hK hP 0 rfl rfl layM 45 (by decide) w464 rfl d_M_readSign_163 ?_
      refine lv_iload_n hx hb d_M_readSign_166 rfl (lv_at hl 1 rfl) ?_
      refine lv_if_le hx hb d_M_readSign_167 (tgt := 174) rfl (fun _ => ?_) (fun h9 => absurd (by rw [w0]; decide) h9)
      refine lv_iconst (v := 1) hx hb d_M_readSign_174 (by decide) ?_
      refine lv_iadd hx hb d_M_readSign_175 (tpi (y := nI (x.frm + 1)) (nI_add (x.frm) (1)) ?_)
      refine pF (v := .int (nI (x.frm + 1))) hx hb hown hE hK hP hD hS 0 rfl rfl layM tyM tokM nmM 46 (by decide) w463 rfl rfl rfl (Nat.le_of_ble_eq_true rfl) d_M_readSign_176 (fun H locs hP hD hS => ?_)
      have hP : va_P D vwCl (MW dA h ad (MS.s_too (MS.s_kind x a) (x.frm + 1))) H := hP
      have hD : va_D A (MW dA h ad (MS.s_too (MS.s_kind x a) (x.frm + 1))) := hD
      refine lv_iconst (v := 1) hx hb d_M_readSign_179 (by decide) ?_
      exact rfZ hx hb hr (bI_nar true) hlk hS () rfl hP hD (Nat.le_of_ble_eq_true rfl) (Nat.le_of_ble_eq_true rfl) d_M_readSign_180
    refine lv_iload_n hx hb d_M_readSign_56 rfl (lv_at hl 1 rfl) ?_
    refine lv_bipush (v := 43) hx hb d_M_readSign_57 (by decide) ?_
    refine lv_icmp_eq hx hb d_M_readSign_59 (tgt := 122) rfl (fun g1 => ?_) (fun g1 => ?_)
    · have g1 := g1
      refine lv_iconst (v := 1) hx hb d_M_readSign_122 (by decide) ?_
      refine lv_goto hx hb d_M_readSign_123 (tgt := 127) rfl ?_
      exact J127 true (by simp [sgOne, *]) H _ ls hP hD hS (lv_sub hl [0, 1, 2, 3] rfl)
    · have g1 := g1
      refine lv_iload_n hx hb d_M_readSign_62 rfl (lv_at hl 1 rfl) ?_
      refine lv_bipush (v := 45) hx hb d_M_readSign_63 (by decide) ?_
      refine lv_icmp_eq hx hb d_M_readSign_65 (tgt := 122) rfl (fun g2 => ?_) (fun g2 => ?_)
      · have g2 := g2
        refine lv_iconst (v := 1) hx hb d_M_readSign_122 (by decide) ?_
        refine lv_goto hx hb d_M_readSign_123 (tgt := 127) rfl ?_
        exact J127 true (by simp [sgOne, *]) H _ ls hP hD hS (lv_sub hl [0, 1, 2, 3] rfl)
      · have g2 := g2
        refine lv_iload_n hx hb d_M_readSign_68 rfl (lv_at hl 1 rfl) ?_
        refine lv_bipush (v := 42) hx hb d_M_readSign_69 (by decide) ?_
        refine lv_icmp_eq hx hb d_M_readSign_71 (tgt := 122) rfl (fun g3 => ?_) (fun g3 => ?_)
        · have g3 := g3
          refine lv_iconst (v := 1) hx hb d_M_readSign_122 (by decide) ?_
          refine lv_goto hx hb d_M_readSign_123 (tgt := 127) rfl ?_
          exact J127 true (by simp [sgOne, *]) H _ ls hP hD hS (lv_sub hl [0, 1, 2, 3] rfl)
        · have g3 := g3
          refine lv_iload_n hx hb d_M_readSign_74 rfl (lv_at hl 1 rfl) ?_
          refine lv_bipush (v := 47) hx hb d_M_readSign_75 (by decide) ?_
          refine lv_icmp_eq hx hb d_M_readSign_77 (tgt := 122) rfl (fun g4 => ?_) (fun g4 => ?_)
          · have g4 := g4
            refine lv_iconst (v := 1) hx hb d_M_readSign_122 (by decide) ?_
            refine lv_goto hx hb d_M_readSign_123 (tgt := 127) rfl ?_
            exact J127 true (by simp [sgOne, *]) H _ ls hP hD hS (lv_sub hl [0, 1, 2, 3] rfl)
          · have g4 := g4
            refine lv_iload_n hx hb d_M_readSign_80 rfl (lv_at hl 1 rfl) ?_
            refine lv_bipush (v := 37) hx hb d_M_readSign_81 (by decide) ?_
            refine lv_icmp_eq hx hb d_M_readSign_83 (tgt := 122) rfl (fun g5 => ?_) (fun g5 => ?_)
            · have g5 := g5
              refine lv_iconst (v := 1) hx hb d_M_readSign_122 (by decide) ?_
              refine lv_goto hx hb d_M_readSign_123 (tgt := 127) rfl ?_
              exact J127 true (by simp [sgOne, *]) H _ ls hP hD hS (lv_sub hl [0, 1, 2, 3] rfl)
            · have g5 := g5
              refine lv_iload_n hx hb d_M_readSign_86 rfl (lv_at hl 1 rfl) ?_
              refine lv_bipush (v := 40) hx hb d_M_readSign_87 (by decide) ?_
              refine lv_icmp_eq hx hb d_M_readSign_89 (tgt := 122) rfl (fun g6 => ?_) (fun g6 => ?_)
              · have g6 := g6
                refine lv_iconst (v := 1) hx hb d_M_readSign_122 (by decide) ?_
                refine lv_goto hx hb d_M_readSign_123 (tgt := 127) rfl ?_
                exact J127 true (by simp [sgOne, *]) H _ ls hP hD hS (lv_sub hl [0, 1, 2, 3] rfl)
              · have g6 := g6
                refine lv_iload_n hx hb d_M_readSign_92 rfl (lv_at hl 1 rfl) ?_
                refine lv_bipush (v := 41) hx hb d_M_readSign_93 (by decide) ?_
                refine lv_icmp_eq hx hb d_M_readSign_95 (tgt := 122) rfl (fun g7 => ?_) (fun g7 => ?_)
                · have g7 := g7
                  refine lv_iconst (v := 1) hx hb d_M_readSign_122 (by decide) ?_
                  refine lv_goto hx hb d_M_readSign_123 (tgt := 127) rfl ?_
                  exact J127 true (by simp [sgOne, *]) H _ ls hP hD hS (lv_sub hl [0, 1, 2, 3] rfl)
                · have g7 := g7
                  refine lv_iload_n hx hb d_M_readSign_98 rfl (lv_at hl 1 rfl) ?_
                  refine lv_bipush (v := 123) hx hb d_M_readSign_99 (by decide) ?_
                  refine lv_icmp_eq hx hb d_M_readSign_101 (tgt := 122) rfl (fun g8 => ?_) (fun g8 => ?_)
                  · have g8 := g8
                    refine lv_iconst (v := 1) hx hb d_M_readSign_122 (by decide) ?_
                    refine lv_goto hx hb d_M_readSign_123 (tgt := 127) rfl ?_
                    exact J127 true (by simp [sgOne, *]) H _ ls hP hD hS (lv_sub hl [0, 1, 2, 3] rfl)
                  · have g8 := g8
                    refine lv_iload_n hx hb d_M_readSign_104 rfl (lv_at hl 1 rfl) ?_
                    refine lv_bipush (v := 125) hx hb d_M_readSign_105 (by decide) ?_
                    refine lv_icmp_eq hx hb d_M_readSign_107 (tgt := 122) rfl (fun g9 => ?_) (fun g9 => ?_)
                    · have g9 := g9
                      refine lv_iconst (v := 1) hx hb d_M_readSign_122 (by decide) ?_
                      refine lv_goto hx hb d_M_readSign_123 (tgt := 127) rfl ?_
                      exact J127 true (by simp [sgOne, *]) H _ ls hP hD hS (lv_sub hl [0, 1, 2, 3] rfl)
                    · have g9 := g9
                      refine lv_iload_n hx hb d_M_readSign_110 rfl (lv_at hl 1 rfl) ?_
                      refine lv_bipush (v := 44) hx hb d_M_readSign_111 (by decide) ?_
                      refine lv_icmp_eq hx hb d_M_readSign_113 (tgt := 122) rfl (fun g10 => ?_) (fun g10 => ?_)
                      · have g10 := g10
                        refine lv_iconst (v := 1) hx hb d_M_readSign_122 (by decide) ?_
                        refine lv_goto hx hb d_M_readSign_123 (tgt := 127) rfl ?_
                        exact J127 true (by simp [sgOne, *]) H _ ls hP hD hS (lv_sub hl [0, 1, 2, 3] rfl)
                      · have g10 := g10
                        refine lv_iload_n hx hb d_M_readSign_116 rfl (lv_at hl 1 rfl) ?_
                        refine lv_bipush (v := 61) hx hb d_M_readSign_117 (by decide) ?_
                        refine lv_icmp_ne hx hb d_M_readSign_119 (tgt := 126) rfl (fun g11 => ?_) (fun g11 => ?_)
                        · have g11 := g11
                          refine lv_iconst (v := 0) hx hb d_M_readSign_126 (by decide) ?_
                          exact J127 false (by simp [sgOne, *]) H _ ls hP hD hS (lv_sub hl [0, 1, 2, 3] rfl)
                        · have g11 := g11
                          refine lv_iconst (v := 1) hx hb d_M_readSign_122 (by decide) ?_
                          refine lv_goto hx hb d_M_readSign_123 (tgt := 127) rfl ?_
                          exact J127 true (by simp [sgOne, *]) H _ ls hP hD hS (lv_sub hl [0, 1, 2, 3] rfl)
  refine lv_iload_n hx hb d_M_readSign_0 rfl (lv_at hl 1 rfl) ?_
  refine lv_bipush (v := 33) hx hb d_M_readSign_1 (by decide) ?_
  refine lv_icmp_ne hx hb d_M_readSign_3 (tgt := 18) rfl (fun g12 => ?_) (fun g12 => ?_)
  · have g12 := g12
    refine lv_iload_n hx hb d_M_readSign_18 rfl (lv_at hl 1 rfl) ?_
    refine lv_bipush (v := 94) hx hb d_M_readSign_19 (by decide) ?_
    refine lv_icmp_ne hx hb d_M_readSign_21 (tgt := 36) rfl (fun g13 => ?_) (fun g13 => ?_)
    · have g13 := g13
      refine lv_iload_n hx hb d_M_readSign_36 rfl (lv_at hl 1 rfl) ?_
      refine lv_bipush (v := 33) hx hb d_M_readSign_37 (by decide) ?_
      refine lv_icmp_ne hx hb d_M_readSign_39 (tgt := 54) rfl (fun _ => ?_) (fun h9 => absurd h9 g12)
      refine lv_iconst (v := 0) hx hb d_M_readSign_54 (by decide) ?_
      exact J55 0 (by simp [sgTwo, *]) H _ ls hP hD hS (lv_sub hl [1, 2, 0] rfl)
    · have g13 := g13
      refine lv_iload_n hx hb d_M_readSign_24 rfl (lv_at hl 2 rfl) ?_
      refine lv_bipush (v := 61) hx hb d_M_readSign_25 (by decide) ?_
      refine lv_icmp_ne hx hb d_M_readSign_27 (tgt := 36) rfl (fun g14 => ?_) (fun g14 => ?_)
      · have g14 := g14
        refine lv_iload_n hx hb d_M_readSign_36 rfl (lv_at hl 1 rfl) ?_
        refine lv_bipush (v := 33) hx hb d_M_readSign_37 (by decide) ?_
        refine lv_icmp_ne hx hb d_M_readSign_39 (tgt := 54) rfl (fun _ => ?_) (fun h9 => absurd h9 g12)
        refine lv_iconst (v := 0) hx hb d_M_readSign_54 (by decide) ?_
        exact J55 0 (by simp [sgTwo, *]) H _ ls hP hD hS (lv_sub hl [1, 2, 0] rfl)
      · have g14 := g14
        refine lv_sipush (v := 257) hx hb d_M_readSign_30 (by decide) ?_
        refine lv_goto hx hb d_M_readSign_33 (tgt := 55) rfl ?_
        exact J55 257 (by simp [sgTwo, *]) H _ ls hP hD hS (lv_sub hl [1, 2, 0] rfl)
  · have g12 := g12
    refine lv_iload_n hx hb d_M_readSign_6 rfl (lv_at hl 2 rfl) ?_
    refine lv_bipush (v := 61) hx hb d_M_readSign_7 (by decide) ?_
    refine lv_icmp_ne hx hb d_M_readSign_9 (tgt := 18) rfl (fun g15 => ?_) (fun g15 => ?_)
    · have g15 := g15
      refine lv_iload_n hx hb d_M_readSign_18 rfl (lv_at hl 1 rfl) ?_
      refine lv_bipush (v := 94) hx hb d_M_readSign_19 (by decide) ?_
      refine lv_icmp_ne hx hb d_M_readSign_21 (tgt := 36) rfl (fun g16 => ?_) (fun g16 => ?_)
      · have g16 := g16
        refine lv_iload_n hx hb d_M_readSign_36 rfl (lv_at hl 1 rfl) ?_
        refine lv_bipush (v := 33) hx hb d_M_readSign_37 (by decide) ?_
        refine lv_icmp_ne hx hb d_M_readSign_39 (tgt := 54) rfl (fun h9 => absurd g12 h9) (fun _ => ?_)
        refine lv_iload_n hx hb d_M_readSign_42 rfl (lv_at hl 2 rfl) ?_
        refine lv_bipush (v := 94) hx hb d_M_readSign_43 (by decide) ?_
        refine lv_icmp_ne hx hb d_M_readSign_45 (tgt := 54) rfl (fun g17 => ?_) (fun g17 => ?_)
        · have g17 := g17
          refine lv_iconst (v := 0) hx hb d_M_readSign_54 (by decide) ?_
          exact J55 0 (by simp [sgTwo, *]) H _ ls hP hD hS (lv_sub hl [1, 2, 0] rfl)
        · have g17 := g17
          refine lv_sipush (v := 258) hx hb d_M_readSign_48 (by decide) ?_
          refine lv_goto hx hb d_M_readSign_51 (tgt := 55) rfl ?_
          exact J55 258 (by simp [sgTwo, *]) H _ ls hP hD hS (lv_sub hl [1, 2, 0] rfl)
      · have g16 := g16
        refine lv_iload_n hx hb d_M_readSign_24 rfl (lv_at hl 2 rfl) ?_
        refine lv_bipush (v := 61) hx hb d_M_readSign_25 (by decide) ?_
        refine lv_icmp_ne hx hb d_M_readSign_27 (tgt := 36) rfl (fun _ => ?_) (fun h9 => absurd h9 g15)
        refine lv_iload_n hx hb d_M_readSign_36 rfl (lv_at hl 1 rfl) ?_
        refine lv_bipush (v := 33) hx hb d_M_readSign_37 (by decide) ?_
        refine lv_icmp_ne hx hb d_M_readSign_39 (tgt := 54) rfl (fun h9 => absurd g12 h9) (fun _ => ?_)
        refine lv_iload_n hx hb d_M_readSign_42 rfl (lv_at hl 2 rfl) ?_
        refine lv_bipush (v := 94) hx hb d_M_readSign_43 (by decide) ?_
        refine lv_icmp_ne hx hb d_M_readSign_45 (tgt := 54) rfl (fun g18 => ?_) (fun g18 => ?_)
        · have g18 := g18
          refine lv_iconst (v := 0) hx hb d_M_readSign_54 (by decide) ?_
          exact J55 0 (by simp [sgTwo, *]) H _ ls hP hD hS (lv_sub hl [1, 2, 0] rfl)
        · have g18 := g18
          refine lv_sipush (v := 258) hx hb d_M_readSign_48 (by decide) ?_
          refine lv_goto hx hb d_M_readSign_51 (tgt := 55) rfl ?_
          exact J55 258 (by simp [sgTwo, *]) H _ ls hP hD hS (lv_sub hl [1, 2, 0] rfl)
    · have g15 := g15
      refine lv_sipush (v := 256) hx hb d_M_readSign_12 (by decide) ?_
      refine lv_goto hx hb d_M_readSign_15 (tgt := 55) rfl ?_
      exact J55 256 (by simp [sgTwo, *]) H _ ls hP hD hS (lv_sub hl [1, 2, 0] rfl)
theorem d_M_readSign_153 : decode prog_14_method_59_code 153 = .ok (.iload_n 3, 1) := by decide +kernel
theorem d_M_readSign_154 : decode prog_14_method_59_code 154 = .ok (.goto 4, 3) := by decide +kernel
theorem d_M_readSign_170 : decode prog_14_method_59_code 170 = .ok (.iconst 2, 1) := by decide +kernel
theorem d_M_readSign_171 : decode prog_14_method_59_code 171 = .ok (.goto 4, 3) := by decide +kernel
set_option maxHeartbeats 4000000 in
set_option maxRecDepth 100000 in
theorem k_readSign_2 (l : Launch) (D : va_G) (dA : Nat → ClassId) (sz : Nat) (h : Nat) (ad : Nat → Nat) (x : MS) (a : Int32) (b : Int32) (n : Nat) (h0 : sgTwo a b = n) (h2 : 0 < n) (h3 : n ≤ 258) : Met l ⟨"SeriesVaultModel", "readSign", "(II)Z"⟩ [Cond.code ⟨"SeriesVaultModel", "readSign", "(II)Z"⟩ prog_14_method_59_code 5 (some FieldType.boolean)] { frames := 1, cells := 0, slots := 0, locals := 0 } (pC D dA [.ref h, .int a, .int b] (MW dA h ad x) sz) (va_Qi (fun (r9 : Int32) (u9 : Unit) => r9 = bI true) (fun (u9 : Unit) t9 => bW D (va_A (MW dA h ad x) sz) (MW dA h ad (MS.s_too (MS.s_kind x (nI n)) (x.frm + 2))) t9) (va_A (MW dA h ad x) sz)) 0 0 (va_A (MW dA h ad x) sz) := by
  refine mkC (y := ⟨"SeriesVaultModel", "readSign", "(II)Z"⟩) (cc := prog_14_method_59_code) (maxL := 5) (av := [.ref h, .int a, .int b]) (ws := MW dA h ad x) (sz := sz) (Qc := fun A => va_Qi (fun (r9 : Int32) (u9 : Unit) => r9 = bI true) (fun (u9 : Unit) t9 => bW D A (MW dA h ad (MS.s_too (MS.s_kind x (nI n)) (x.frm + 2))) t9) A) (by decide) (Nat.le_of_ble_eq_true rfl) ?_
  intro A p e s m below meth c ls hsz hB
  obtain ⟨hx, hb, hr, hml, hown, hin, hlk, hE, hK, hP, hD, hS, hA, hN, hl⟩ := hB
  have hown : s.vm.findClass "SeriesVaultModel" = some m.cls := hown
  have hl : lv_has ls 5 [(0, .ref h), (1, .int a), (2, .int b)] := hl
  obtain ⟨H, hH⟩ : ∃ z, z = s.heap := ⟨_, rfl⟩
  have hP : va_P D vwCl (MW dA h ad x) H := by rw [hH]; exact hP
  have hS : va_S A s.heap H [] := by rw [hH]; exact hS
  rw [← hH]
  have J55 : ∀ (w : Nat) (j1 : sgTwo a b = w), ∀ (H : Heap) (locs : List Loc) (ls : Array Slot) (hP : va_P D vwCl (MW dA h ad x) H) (hD : va_D A (MW dA h ad x)) (hS : va_S A s.heap H locs) (hl : lv_has ls 5 [(1, .int a), (2, .int b), (0, .ref h)]), W p l e ({ frames := 1, cells := 0, slots := 0, locals := 0 } : Room) s m ([.ref h, .int a, .int b] : List Value).toArray below meth c H locs 0 0 (MQ below (va_Qi (fun (r9 : Int32) (u9 : Unit) => r9 = bI true) (fun (u9 : Unit) t9 => bW D A (MW dA h ad (MS.s_too (MS.s_kind x (nI n)) (x.frm + 2))) t9) A) ([.ref h, .int a, .int b] : List Value).toArray s 0 0 A) (F0 m 55 ls [.int (nI w)]) := by
    intro w j1 H locs ls hP hD hS hl
    refine lv_istore_n hx hb d_M_readSign_55 rfl hl (by decide) rfl (fun ls hl => ?_)
    have hl : lv_has ls 5 [(3, .int (nI w)), (1, .int a), (2, .int b), (0, .ref h)] := hl
    have J127 : ∀ (v : Bool) (j2 : sgOne a = v), ∀ (H : Heap) (locs : List Loc) (ls : Array Slot) (hP : va_P D vwCl (MW dA h ad x) H) (hD : va_D A (MW dA h ad x)) (hS : va_S A s.heap H locs) (hl : lv_has ls 5 [(3, .int (nI w)), (1, .int a), (2, .int b), (0, .ref h)]), W p l e ({ frames := 1, cells := 0, slots := 0, locals := 0 } : Room) s m ([.ref h, .int a, .int b] : List Value).toArray below meth c H locs 0 0 (MQ below (va_Qi (fun (r9 : Int32) (u9 : Unit) => r9 = bI true) (fun (u9 : Unit) t9 => bW D A (MW dA h ad (MS.s_too (MS.s_kind x (nI n)) (x.frm + 2))) t9) A) ([.ref h, .int a, .int b] : List Value).toArray s 0 0 A) (F0 m 127 ls [.int (bI v)]) := by
      intro v j2 H locs ls hP hD hS hl
      have w0 : w = n := j1.symm.trans h0
      refine lv_istore hx hb d_M_readSign_127 hl (by decide) rfl (fun ls hl => ?_)
      have hl : lv_has ls 5 [(4, .int (bI v)), (3, .int (nI w)), (1, .int a), (2, .int b), (0, .ref h)] := hl
      refine lv_iload_n hx hb d_M_readSign_129 rfl (lv_at hl 1 rfl) ?_
      refine lv_if_ne hx hb d_M_readSign_130 (tgt := 148) rfl (fun _ => ?_) (fun h9 => absurd h9 (nI_ne0 (by omega) (by omega)))
      refine lv_aload_n hx hb d_M_readSign_148 rfl (lv_at hl 4 rfl) ?_
      refine lv_iload_n hx hb d_M_readSign_149 rfl (lv_at hl 1 rfl) ?_
      refine lv_if_le hx hb d_M_readSign_150 (tgt := 157) rfl (fun h9 => absurd h9 (nI_nle (by omega) (by omega))) (fun _ => ?_)
      refine lv_iload_n hx hb d_M_readSign_153 rfl (lv_at hl 1 rfl) ?_
      refine lv_goto hx hb d_M_readSign_154 (tgt := 158) rfl ?_
      refine pF (v := .int (nI w)) hx hb hown hE hK hP hD hS 0 rfl rfl layM tyM tokM nmM 44 (by decide) w469 rfl rfl rfl (Nat.le_of_ble_eq_true rfl) d_M_readSign_158 (fun H locs hP hD hS => ?_)
      have hP : va_P D vwCl (MW dA h ad (MS.s_kind x (nI w))) H := hP
      have hD : va_D A (MW dA h ad (MS.s_kind x (nI w))) := hD
      refine lv_aload_n hx hb d_M_readSign_161 rfl (lv_at hl 4 rfl) ?_
      refine lv_aload_n hx hb d_M_readSign_162 rfl (lv_at hl 4 rfl) ?_
      refine gF (v := .int (nI x.frm)) hx hb hown hE hK hP 0 rfl rfl layM 45 (by decide) w464 rfl d_M_readSign_163 ?_
      refine lv_iload_n hx hb d_M_readSign_166 rfl (lv_at hl 1 rfl) ?_
      refine lv_if_le hx hb d_M_readSign_167 (tgt := 174) rfl (fun h9 => absurd h9 (nI_nle (by omega) (by omega))) (fun _ => ?_)
      refine lv_iconst (v := 2) hx hb d_M_readSign_170 (by decide) ?_
      refine lv_goto hx hb d_M_readSign_171 (tgt := 175) rfl ?_
      refine lv_iadd hx hb d_M_readSign_175 (tpi (y := nI (x.frm + 2)) (nI_add (x.frm) (2)) ?_)
      refine pF (v := .int (nI (x.frm + 2))) hx hb hown hE hK hP hD hS 0 rfl rfl layM tyM tokM nmM 46 (by decide) w463 rfl rfl rfl (Nat.le_of_ble_eq_true rfl) d_M_readSign_176 (fun H locs hP hD hS => ?_)
      have hP : va_P D vwCl (MW dA h ad (MS.s_too (MS.s_kind x (nI w)) (x.frm + 2))) H := hP
      have hD : va_D A (MW dA h ad (MS.s_too (MS.s_kind x (nI w)) (x.frm + 2))) := hD
      refine lv_iconst (v := 1) hx hb d_M_readSign_179 (by decide) ?_
      have e9 : (MS.s_too (MS.s_kind x (nI w)) (x.frm + 2) : MS) = MS.s_too (MS.s_kind x (nI n)) (x.frm + 2) := by rw [show (nI n) = (nI w) from by (rw [w0])] <;> rfl
      exact rfZ hx hb hr (bI_nar true) hlk hS () rfl (cvP e9 hP) (cvD e9 hD) (Nat.le_of_ble_eq_true rfl) (Nat.le_of_ble_eq_true rfl) d_M_readSign_180
    refine lv_iload_n hx hb d_M_readSign_56 rfl (lv_at hl 1 rfl) ?_
    refine lv_bipush (v := 43) hx hb d_M_readSign_57 (by decide) ?_
    refine lv_icmp_eq hx hb d_M_readSign_59 (tgt := 122) rfl (fun g1 => ?_) (fun g1 => ?_)
    · have g1 := g1
      refine lv_iconst (v := 1) hx hb d_M_readSign_122 (by decide) ?_
      refine lv_goto hx hb d_M_readSign_123 (tgt := 127) rfl ?_
      exact J127 true (by simp [sgOne, *]) H _ ls hP hD hS (lv_sub hl [0, 1, 2, 3] rfl)
    · have g1 := g1
      refine lv_iload_n hx hb d_M_readSign_62 rfl (lv_at hl 1 rfl) ?_
      refine lv_bipush (v := 45) hx hb d_M_readSign_63 (by decide) ?_
      refine lv_icmp_eq hx hb d_M_readSign_65 (tgt := 122) rfl (fun g2 => ?_) (fun g2 => ?_)
      · have g2 := g2
        refine lv_iconst (v := 1) hx hb d_M_readSign_122 (by decide) ?_
        refine lv_goto hx hb d_M_readSign_123 (tgt := 127) rfl ?_
        exact J127 true (by simp [sgOne, *]) H _ ls hP hD hS (lv_sub hl [0, 1, 2, 3] rfl)
      · have g2 := g2
        refine lv_iload_n hx hb d_M_readSign_68 rfl (lv_at hl 1 rfl) ?_
        refine lv_bipush (v := 42) hx hb d_M_readSign_69 (by decide) ?_
        refine lv_icmp_eq hx hb d_M_readSign_71 (tgt := 122) rfl (fun g3 => ?_) (fun g3 => ?_)
        · have g3 := g3
          refine lv_iconst (v := 1) hx hb d_M_readSign_122 (by decide) ?_
          refine lv_goto hx hb d_M_readSign_123 (tgt := 127) rfl ?_
          exact J127 true (by simp [sgOne, *]) H _ ls hP hD hS (lv_sub hl [0, 1, 2, 3] rfl)
        · have g3 := g3
          refine lv_iload_n hx hb d_M_readSign_74 rfl (lv_at hl 1 rfl) ?_
          refine lv_bipush (v := 47) hx hb d_M_readSign_75 (by decide) ?_
          refine lv_icmp_eq hx hb d_M_readSign_77 (tgt := 122) rfl (fun g4 => ?_) (fun g4 => ?_)
          · have g4 := g4
            refine lv_iconst (v := 1) hx hb d_M_readSign_122 (by decide) ?_
            refine lv_goto hx hb d_M_readSign_123 (tgt := 127) rfl ?_
            exact J127 true (by simp [sgOne, *]) H _ ls hP hD hS (lv_sub hl [0, 1, 2, 3] rfl)
          · have g4 := g4
            refine lv_iload_n hx hb d_M_readSign_80 rfl (lv_at hl 1 rfl) ?_
            refine lv_bipush (v := 37) hx hb d_M_readSign_81 (by decide) ?_
            refine lv_icmp_eq hx hb d_M_readSign_83 (tgt := 122) rfl (fun g5 => ?_) (fun g5 => ?_)
            · have g5 := g5
              refine lv_iconst (v := 1) hx hb d_M_readSign_122 (by decide) ?_
              refine lv_goto hx hb d_M_readSign_123 (tgt := 127) rfl ?_
              exact J127 true (by simp [sgOne, *]) H _ ls hP hD hS (lv_sub hl [0, 1, 2, 3] rfl)
            · have g5 := g5
              refine lv_iload_n hx hb d_M_readSign_86 rfl (lv_at hl 1 rfl) ?_
              refine lv_bipush (v := 40) hx hb d_M_readSign_87 (by decide) ?_
              refine lv_icmp_eq hx hb d_M_readSign_89 (tgt := 122) rfl (fun g6 => ?_) (fun g6 => ?_)
              · have g6 := g6
                refine lv_iconst (v := 1) hx hb d_M_readSign_122 (by decide) ?_
                refine lv_goto hx hb d_M_readSign_123 (tgt := 127) rfl ?_
                exact J127 true (by simp [sgOne, *]) H _ ls hP hD hS (lv_sub hl [0, 1, 2, 3] rfl)
              · have g6 := g6
                refine lv_iload_n hx hb d_M_readSign_92 rfl (lv_at hl 1 rfl) ?_
                refine lv_bipush (v := 41) hx hb d_M_readSign_93 (by decide) ?_
                refine lv_icmp_eq hx hb d_M_readSign_95 (tgt := 122) rfl (fun g7 => ?_) (fun g7 => ?_)
                · have g7 := g7
                  refine lv_iconst (v := 1) hx hb d_M_readSign_122 (by decide) ?_
                  refine lv_goto hx hb d_M_readSign_123 (tgt := 127) rfl ?_
                  exact J127 true (by simp [sgOne, *]) H _ ls hP hD hS (lv_sub hl [0, 1, 2, 3] rfl)
                · have g7 := g7
                  refine lv_iload_n hx hb d_M_readSign_98 rfl (lv_at hl 1 rfl) ?_
                  refine lv_bipush (v := 123) hx hb d_M_readSign_99 (by decide) ?_
                  refine lv_icmp_eq hx hb d_M_readSign_101 (tgt := 122) rfl (fun g8 => ?_) (fun g8 => ?_)
                  · have g8 := g8
                    refine lv_iconst (v := 1) hx hb d_M_readSign_122 (by decide) ?_
                    refine lv_goto hx hb d_M_readSign_123 (tgt := 127) rfl ?_
                    exact J127 true (by simp [sgOne, *]) H _ ls hP hD hS (lv_sub hl [0, 1, 2, 3] rfl)
                  · have g8 := g8
                    refine lv_iload_n hx hb d_M_readSign_104 rfl (lv_at hl 1 rfl) ?_
                    refine lv_bipush (v := 125) hx hb d_M_readSign_105 (by decide) ?_
                    refine lv_icmp_eq hx hb d_M_readSign_107 (tgt := 122) rfl (fun g9 => ?_) (fun g9 => ?_)
                    · have g9 := g9
                      refine lv_iconst (v := 1) hx hb d_M_readSign_122 (by decide) ?_
                      refine lv_goto hx hb d_M_readSign_123 (tgt := 127) rfl ?_
                      exact J127 true (by simp [sgOne, *]) H _ ls hP hD hS (lv_sub hl [0, 1, 2, 3] rfl)
                    · have g9 := g9
                      refine lv_iload_n hx hb d_M_readSign_110 rfl (lv_at hl 1 rfl) ?_
                      refine lv_bipush (v := 44) hx hb d_M_readSign_111 (by decide) ?_
                      refine lv_icmp_eq hx hb d_M_readSign_113 (tgt := 122) rfl (fun g10 => ?_) (fun g10 => ?_)
                      · have g10 := g10
                        refine lv_iconst (v := 1) hx hb d_M_readSign_122 (by decide) ?_
                        refine lv_goto hx hb d_M_readSign_123 (tgt := 127) rfl ?_
                        exact J127 true (by simp [sgOne, *]) H _ ls hP hD hS (lv_sub hl [0, 1, 2, 3] rfl)
                      · have g10 := g10
                        refine lv_iload_n hx hb d_M_readSign_116 rfl (lv_at hl 1 rfl) ?_
                        refine lv_bipush (v := 61) hx hb d_M_readSign_117 (by decide) ?_
                        refine lv_icmp_ne hx hb d_M_readSign_119 (tgt := 126) rfl (fun g11 => ?_) (fun g11 => ?_)
                        · have g11 := g11
                          refine lv_iconst (v := 0) hx hb d_M_readSign_126 (by decide) ?_
                          exact J127 false (by simp [sgOne, *]) H _ ls hP hD hS (lv_sub hl [0, 1, 2, 3] rfl)
                        · have g11 := g11
                          refine lv_iconst (v := 1) hx hb d_M_readSign_122 (by decide) ?_
                          refine lv_goto hx hb d_M_readSign_123 (tgt := 127) rfl ?_
                          exact J127 true (by simp [sgOne, *]) H _ ls hP hD hS (lv_sub hl [0, 1, 2, 3] rfl)
  refine lv_iload_n hx hb d_M_readSign_0 rfl (lv_at hl 1 rfl) ?_
  refine lv_bipush (v := 33) hx hb d_M_readSign_1 (by decide) ?_
  refine lv_icmp_ne hx hb d_M_readSign_3 (tgt := 18) rfl (fun g12 => ?_) (fun g12 => ?_)
  · have g12 := g12
    refine lv_iload_n hx hb d_M_readSign_18 rfl (lv_at hl 1 rfl) ?_
    refine lv_bipush (v := 94) hx hb d_M_readSign_19 (by decide) ?_
    refine lv_icmp_ne hx hb d_M_readSign_21 (tgt := 36) rfl (fun g13 => ?_) (fun g13 => ?_)
    · have g13 := g13
      refine lv_iload_n hx hb d_M_readSign_36 rfl (lv_at hl 1 rfl) ?_
      refine lv_bipush (v := 33) hx hb d_M_readSign_37 (by decide) ?_
      refine lv_icmp_ne hx hb d_M_readSign_39 (tgt := 54) rfl (fun _ => ?_) (fun h9 => absurd h9 g12)
      refine lv_iconst (v := 0) hx hb d_M_readSign_54 (by decide) ?_
      exact J55 0 (by simp [sgTwo, *]) H _ ls hP hD hS (lv_sub hl [1, 2, 0] rfl)
    · have g13 := g13
      refine lv_iload_n hx hb d_M_readSign_24 rfl (lv_at hl 2 rfl) ?_
      refine lv_bipush (v := 61) hx hb d_M_readSign_25 (by decide) ?_
      refine lv_icmp_ne hx hb d_M_readSign_27 (tgt := 36) rfl (fun g14 => ?_) (fun g14 => ?_)
      · have g14 := g14
        refine lv_iload_n hx hb d_M_readSign_36 rfl (lv_at hl 1 rfl) ?_
        refine lv_bipush (v := 33) hx hb d_M_readSign_37 (by decide) ?_
        refine lv_icmp_ne hx hb d_M_readSign_39 (tgt := 54) rfl (fun _ => ?_) (fun h9 => absurd h9 g12)
        refine lv_iconst (v := 0) hx hb d_M_readSign_54 (by decide) ?_
        exact J55 0 (by simp [sgTwo, *]) H _ ls hP hD hS (lv_sub hl [1, 2, 0] rfl)
      · have g14 := g14
        refine lv_sipush (v := 257) hx hb d_M_readSign_30 (by decide) ?_
        refine lv_goto hx hb d_M_readSign_33 (tgt := 55) rfl ?_
        exact J55 257 (by simp [sgTwo, *]) H _ ls hP hD hS (lv_sub hl [1, 2, 0] rfl)
  · have g12 := g12
    refine lv_iload_n hx hb d_M_readSign_6 rfl (lv_at hl 2 rfl) ?_
    refine lv_bipush (v := 61) hx hb d_M_readSign_7 (by decide) ?_
    refine lv_icmp_ne hx hb d_M_readSign_9 (tgt := 18) rfl (fun g15 => ?_) (fun g15 => ?_)
    · have g15 := g15
      refine lv_iload_n hx hb d_M_readSign_18 rfl (lv_at hl 1 rfl) ?_
      refine lv_bipush (v := 94) hx hb d_M_readSign_19 (by decide) ?_
      refine lv_icmp_ne hx hb d_M_readSign_21 (tgt := 36) rfl (fun g16 => ?_) (fun g16 => ?_)
      · have g16 := g16
        refine lv_iload_n hx hb d_M_readSign_36 rfl (lv_at hl 1 rfl) ?_
        refine lv_bipush (v := 33) hx hb d_M_readSign_37 (by decide) ?_
        refine lv_icmp_ne hx hb d_M_readSign_39 (tgt := 54) rfl (fun h9 => absurd g12 h9) (fun _ => ?_)
        refine lv_iload_n hx hb d_M_readSign_42 rfl (lv_at hl 2 rfl) ?_
        refine lv_bipush (v := 94) hx hb d_M_readSign_43 (by decide) ?_
        refine lv_icmp_ne hx hb d_M_readSign_45 (tgt := 54) rfl (fun g17 => ?_) (fun g17 => ?_)
        · have g17 := g17
          refine lv_iconst (v := 0) hx hb d_M_readSign_54 (by decide) ?_
          exact J55 0 (by simp [sgTwo, *]) H _ ls hP hD hS (lv_sub hl [1, 2, 0] rfl)
        · have g17 := g17
          refine lv_sipush (v := 258) hx hb d_M_readSign_48 (by decide) ?_
          refine lv_goto hx hb d_M_readSign_51 (tgt := 55) rfl ?_
          exact J55 258 (by simp [sgTwo, *]) H _ ls hP hD hS (lv_sub hl [1, 2, 0] rfl)
      · have g16 := g16
        refine lv_iload_n hx hb d_M_readSign_24 rfl (lv_at hl 2 rfl) ?_
        refine lv_bipush (v := 61) hx hb d_M_readSign_25 (by decide) ?_
        refine lv_icmp_ne hx hb d_M_readSign_27 (tgt := 36) rfl (fun _ => ?_) (fun h9 => absurd h9 g15)
        refine lv_iload_n hx hb d_M_readSign_36 rfl (lv_at hl 1 rfl) ?_
        refine lv_bipush (v := 33) hx hb d_M_readSign_37 (by decide) ?_
        refine lv_icmp_ne hx hb d_M_readSign_39 (tgt := 54) rfl (fun h9 => absurd g12 h9) (fun _ => ?_)
        refine lv_iload_n hx hb d_M_readSign_42 rfl (lv_at hl 2 rfl) ?_
        refine lv_bipush (v := 94) hx hb d_M_readSign_43 (by decide) ?_
        refine lv_icmp_ne hx hb d_M_readSign_45 (tgt := 54) rfl (fun g18 => ?_) (fun g18 => ?_)
        · have g18 := g18
          refine lv_iconst (v := 0) hx hb d_M_readSign_54 (by decide) ?_
          exact J55 0 (by simp [sgTwo, *]) H _ ls hP hD hS (lv_sub hl [1, 2, 0] rfl)
        · have g18 := g18
          refine lv_sipush (v := 258) hx hb d_M_readSign_48 (by decide) ?_
          refine lv_goto hx hb d_M_readSign_51 (tgt := 55) rfl ?_
          exact J55 258 (by simp [sgTwo, *]) H _ ls hP hD hS (lv_sub hl [1, 2, 0] rfl)
    · have g15 := g15
      refine lv_sipush (v := 256) hx hb d_M_readSign_12 (by decide) ?_
      refine lv_goto hx hb d_M_readSign_15 (tgt := 55) rfl ?_
      exact J55 256 (by simp [sgTwo, *]) H _ ls hP hD hS (lv_sub hl [1, 2, 0] rfl)
theorem d_M_readNumber_0 : decode prog_14_method_58_code 0 = .ok (.aload_n 0, 1) := by decide +kernel
theorem d_M_readNumber_1 : decode prog_14_method_58_code 1 = .ok (.iconst 1, 1) := by decide +kernel
theorem d_M_readNumber_2 : decode prog_14_method_58_code 2 = .ok (.putfield 351, 3) := by decide +kernel
theorem d_M_readNumber_5 : decode prog_14_method_58_code 5 = .ok (.aload_n 0, 1) := by decide +kernel
theorem d_M_readNumber_6 : decode prog_14_method_58_code 6 = .ok (.lconst 0, 1) := by decide +kernel
theorem d_M_readNumber_7 : decode prog_14_method_58_code 7 = .ok (.putfield 366, 3) := by decide +kernel
theorem d_M_readNumber_10 : decode prog_14_method_58_code 10 = .ok (.iconst 1, 1) := by decide +kernel
theorem d_M_readNumber_11 : decode prog_14_method_58_code 11 = .ok (.istore_n 1, 1) := by decide +kernel
theorem d_M_readNumber_12 : decode prog_14_method_58_code 12 = .ok (.aload_n 0, 1) := by decide +kernel
theorem d_M_readNumber_13 : decode prog_14_method_58_code 13 = .ok (.aload_n 0, 1) := by decide +kernel
theorem d_M_readNumber_14 : decode prog_14_method_58_code 14 = .ok (.getfield 342, 3) := by decide +kernel
theorem d_M_readNumber_17 : decode prog_14_method_58_code 17 = .ok (.invokevirtual 348, 3) := by decide +kernel
theorem d_M_readNumber_20 : decode prog_14_method_58_code 20 = .ok (.invokestatic 354, 3) := by decide +kernel
theorem d_M_readNumber_23 : decode prog_14_method_58_code 23 = .ok (.ifCond .eq 92, 3) := by decide +kernel
theorem d_M_readNumber_115 : decode prog_14_method_58_code 115 = .ok (.iload_n 1, 1) := by decide +kernel
theorem d_M_readNumber_116 : decode prog_14_method_58_code 116 = .ok (.ifCond .ne 15, 3) := by decide +kernel
theorem d_M_readNumber_131 : decode prog_14_method_58_code 131 = .ok (.iconst 1, 1) := by decide +kernel
theorem d_M_readNumber_132 : decode prog_14_method_58_code 132 = .ok (.goto 4, 3) := by decide +kernel
theorem d_M_readNumber_136 : decode prog_14_method_58_code 136 = .ok (.ireturn, 1) := by decide +kernel
theorem d_M_readNumber_26 : decode prog_14_method_58_code 26 = .ok (.aload_n 0, 1) := by decide +kernel
theorem d_M_readNumber_27 : decode prog_14_method_58_code 27 = .ok (.aload_n 0, 1) := by decide +kernel
theorem d_M_readNumber_28 : decode prog_14_method_58_code 28 = .ok (.getfield 342, 3) := by decide +kernel
theorem d_M_readNumber_31 : decode prog_14_method_58_code 31 = .ok (.invokevirtual 348, 3) := by decide +kernel
theorem d_M_readNumber_34 : decode prog_14_method_58_code 34 = .ok (.bipush 48, 2) := by decide +kernel
theorem d_M_readNumber_36 : decode prog_14_method_58_code 36 = .ok (.isub, 1) := by decide +kernel
theorem d_M_readNumber_37 : decode prog_14_method_58_code 37 = .ok (.istore_n 2, 1) := by decide +kernel
theorem d_M_readNumber_75 : decode prog_14_method_58_code 75 = .ok (.istore_n 1, 1) := by decide +kernel
theorem d_M_readNumber_99 : decode prog_14_method_58_code 99 = .ok (.putfield 366, 3) := by decide +kernel
theorem d_M_readNumber_102 : decode prog_14_method_58_code 102 = .ok (.aload_n 0, 1) := by decide +kernel
theorem d_M_readNumber_103 : decode prog_14_method_58_code 103 = .ok (.dup, 1) := by decide +kernel
theorem d_M_readNumber_104 : decode prog_14_method_58_code 104 = .ok (.getfield 342, 3) := by decide +kernel
theorem d_M_readNumber_107 : decode prog_14_method_58_code 107 = .ok (.iconst 1, 1) := by decide +kernel
theorem d_M_readNumber_108 : decode prog_14_method_58_code 108 = .ok (.iadd, 1) := by decide +kernel
theorem d_M_readNumber_109 : decode prog_14_method_58_code 109 = .ok (.putfield 342, 3) := by decide +kernel
theorem d_M_readNumber_112 : decode prog_14_method_58_code 112 = .ok (.goto (-100), 3) := by decide +kernel
theorem d_M_readNumber_76 : decode prog_14_method_58_code 76 = .ok (.aload_n 0, 1) := by decide +kernel
theorem d_M_readNumber_77 : decode prog_14_method_58_code 77 = .ok (.iload_n 1, 1) := by decide +kernel
theorem d_M_readNumber_78 : decode prog_14_method_58_code 78 = .ok (.ifCond .eq 17, 3) := by decide +kernel
theorem d_M_readNumber_95 : decode prog_14_method_58_code 95 = .ok (.aload_n 0, 1) := by decide +kernel
theorem d_M_readNumber_96 : decode prog_14_method_58_code 96 = .ok (.getfield 366, 3) := by decide +kernel
theorem d_M_readNumber_81 : decode prog_14_method_58_code 81 = .ok (.ldc2_w 371, 3) := by decide +kernel
theorem d_M_readNumber_84 : decode prog_14_method_58_code 84 = .ok (.aload_n 0, 1) := by decide +kernel
theorem d_M_readNumber_85 : decode prog_14_method_58_code 85 = .ok (.getfield 366, 3) := by decide +kernel
theorem d_M_readNumber_88 : decode prog_14_method_58_code 88 = .ok (.lmul, 1) := by decide +kernel
theorem d_M_readNumber_89 : decode prog_14_method_58_code 89 = .ok (.iload_n 2, 1) := by decide +kernel
theorem d_M_readNumber_90 : decode prog_14_method_58_code 90 = .ok (.i2l, 1) := by decide +kernel
theorem d_M_readNumber_91 : decode prog_14_method_58_code 91 = .ok (.ladd, 1) := by decide +kernel
theorem d_M_readNumber_92 : decode prog_14_method_58_code 92 = .ok (.goto 7, 3) := by decide +kernel
theorem d_M_readNumber_38 : decode prog_14_method_58_code 38 = .ok (.iload_n 1, 1) := by decide +kernel
theorem d_M_readNumber_39 : decode prog_14_method_58_code 39 = .ok (.ifCond .eq 35, 3) := by decide +kernel
theorem d_M_readNumber_74 : decode prog_14_method_58_code 74 = .ok (.iconst 0, 1) := by decide +kernel
theorem d_M_readNumber_42 : decode prog_14_method_58_code 42 = .ok (.aload_n 0, 1) := by decide +kernel
theorem d_M_readNumber_43 : decode prog_14_method_58_code 43 = .ok (.getfield 366, 3) := by decide +kernel
theorem d_M_readNumber_46 : decode prog_14_method_58_code 46 = .ok (.ldc2_w 369, 3) := by decide +kernel
theorem d_M_readNumber_49 : decode prog_14_method_58_code 49 = .ok (.lcmp, 1) := by decide +kernel
theorem d_M_readNumber_50 : decode prog_14_method_58_code 50 = .ok (.ifCond .lt 20, 3) := by decide +kernel
theorem d_M_readNumber_70 : decode prog_14_method_58_code 70 = .ok (.iconst 1, 1) := by decide +kernel
theorem d_M_readNumber_71 : decode prog_14_method_58_code 71 = .ok (.goto 4, 3) := by decide +kernel
theorem d_M_readNumber_53 : decode prog_14_method_58_code 53 = .ok (.aload_n 0, 1) := by decide +kernel
theorem d_M_readNumber_54 : decode prog_14_method_58_code 54 = .ok (.getfield 366, 3) := by decide +kernel
theorem d_M_readNumber_57 : decode prog_14_method_58_code 57 = .ok (.ldc2_w 369, 3) := by decide +kernel
theorem d_M_readNumber_60 : decode prog_14_method_58_code 60 = .ok (.lcmp, 1) := by decide +kernel
theorem d_M_readNumber_61 : decode prog_14_method_58_code 61 = .ok (.ifCond .ne 13, 3) := by decide +kernel
theorem d_M_readNumber_64 : decode prog_14_method_58_code 64 = .ok (.iload_n 2, 1) := by decide +kernel
theorem d_M_readNumber_65 : decode prog_14_method_58_code 65 = .ok (.bipush 8, 2) := by decide +kernel
theorem d_M_readNumber_67 : decode prog_14_method_58_code 67 = .ok (.if_icmp .ge 7, 3) := by decide +kernel
theorem w953 : Cond.fieldLink "SeriesVaultModel" 366 "SeriesVaultModel" "amount" "J" ∈ aW := aw_of (tb_8 (List.mem_of_getElem? (i := 221) rfl)) rfl
theorem w954 : Cond.methodLink "SeriesVaultModel" 354 ⟨"SeriesVaultModel", "isDigit", "(I)Z"⟩ ∈ aW := aw_of (tb_10 (List.mem_of_getElem? (i := 165) rfl)) rfl
theorem w955 : Cond.code ⟨"SeriesVaultModel", "isDigit", "(I)Z"⟩ prog_14_method_54_code 1 (some FieldType.boolean) ∈ aW := aw_of (tb_10 (List.mem_of_getElem? (i := 167) rfl)) rfl
theorem w956 : Cond.static ⟨"SeriesVaultModel", "isDigit", "(I)Z"⟩ ∈ aW := aw_of (tb_10 (List.mem_of_getElem? (i := 166) rfl)) rfl
theorem w957 : Cond.constantLong "SeriesVaultModel" 371 10 ∈ aW := aw_of (tb_10 (List.mem_of_getElem? (i := 173) rfl)) rfl
theorem w958 : Cond.constantLong "SeriesVaultModel" 369 922337203685477580 ∈ aW := aw_of (tb_10 (List.mem_of_getElem? (i := 172) rfl)) rfl
set_option maxHeartbeats 4000000 in
set_option maxRecDepth 100000 in
theorem k_readNumber_0 (l : Launch) (D : va_G) (dA : Nat → ClassId) (sz : Nat) (h : Nat) (ad : Nat → Nat) (x : MS) (b : Nat) (k : Int64) (hl1 : x.length ≤ 65536) (ht : x.too ≤ x.length) (hg : numG x.tape x.length (x.length + 1 - x.too) x.too true 0 = (b, true, k)) : Met l ⟨"SeriesVaultModel", "readNumber", "()Z"⟩ [Cond.code ⟨"SeriesVaultModel", "readNumber", "()Z"⟩ prog_14_method_58_code 3 (some FieldType.boolean)] { frames := 2, cells := 0, slots := 0, locals := 21 } (pC D dA [.ref h] (MW dA h ad x) sz) (va_Qi (fun (r9 : Int32) (u9 : MS) => r9 = bI true ∧ u9 = ((x.s_kind 1).s_too b).s_amount k) (fun (u9 : MS) t9 => bW D (va_A (MW dA h ad x) sz) (MW dA h ad u9) t9) (va_A (MW dA h ad x) sz)) 0 0 (va_A (MW dA h ad x) sz) := by
  refine mkC (y := ⟨"SeriesVaultModel", "readNumber", "()Z"⟩) (cc := prog_14_method_58_code) (maxL := 3) (av := [.ref h]) (ws := MW dA h ad x) (sz := sz) (Qc := fun A => va_Qi (fun (r9 : Int32) (u9 : MS) => r9 = bI true ∧ u9 = ((x.s_kind 1).s_too b).s_amount k) (fun (u9 : MS) t9 => bW D A (MW dA h ad u9) t9) A) (by decide) (Nat.le_of_ble_eq_true rfl) ?_
  intro A p e s m below meth c ls hsz hB
  obtain ⟨hx, hb, hr, hml, hown, hin, hlk, hE, hK, hP, hD, hS, hA, hN, hl⟩ := hB
  have hown : s.vm.findClass "SeriesVaultModel" = some m.cls := hown
  have hl : lv_has ls 3 [(0, .ref h)] := hl
  obtain ⟨H, hH⟩ : ∃ z, z = s.heap := ⟨_, rfl⟩
  have hP : va_P D vwCl (MW dA h ad x) H := by rw [hH]; exact hP
  have hS : va_S A s.heap H [] := by rw [hH]; exact hS
  rw [← hH]
  refine lv_aload_n hx hb d_M_readNumber_0 rfl (lv_at hl 0 rfl) ?_
  refine lv_iconst (v := 1) hx hb d_M_readNumber_1 (by decide) ?_
  refine pF (v := .int 1) hx hb hown hE hK hP hD hS 0 rfl rfl layM tyM tokM nmM 44 (by decide) w469 rfl rfl rfl (Nat.le_of_ble_eq_true rfl) d_M_readNumber_2 (fun H locs hP hD hS => ?_)
  have hP : va_P D vwCl (MW dA h ad (MS.s_kind x 1)) H := hP
  have hD : va_D A (MW dA h ad (MS.s_kind x 1)) := hD
  refine lv_aload_n hx hb d_M_readNumber_5 rfl (lv_at hl 0 rfl) ?_
  refine lv_lconst (v := 0) hx hb d_M_readNumber_6 (by decide) ?_
  refine pF (v := .long 0) hx hb hown hE hK hP hD hS 0 rfl rfl layM tyM tokM nmM 47 (by decide) w953 rfl rfl rfl (Nat.le_of_ble_eq_true rfl) d_M_readNumber_7 (fun H locs hP hD hS => ?_)
  have hP : va_P D vwCl (MW dA h ad (MS.s_amount (MS.s_kind x 1) 0)) H := hP
  have hD : va_D A (MW dA h ad (MS.s_amount (MS.s_kind x 1) 0)) := hD
  refine lv_iconst (v := 1) hx hb d_M_readNumber_10 (by decide) ?_
  refine lv_istore_n hx hb d_M_readNumber_11 rfl hl (by decide) rfl (fun ls hl => ?_)
  have hl : lv_has ls 3 [(1, .int 1), (0, .ref h)] := hl
  have L12 : ∀ (k9 : Nat) (q : Nat) (g : Bool) (am : Int64) (i1 : numG x.tape x.length (x.length + 1 - q) q g am = numG x.tape x.length (x.length + 1 - x.too) x.too true 0) (i2 : q ≤ 65537) (hk9 : x.length + 1 - q = k9), ∀ (H : Heap) (locs : List Loc) (ls : Array Slot) (hP : va_P D vwCl (MW dA h ad (MS.s_amount (MS.s_too (MS.s_kind x 1) q) am)) H) (hD : va_D A (MW dA h ad (MS.s_amount (MS.s_too (MS.s_kind x 1) q) am))) (hS : va_S A s.heap H locs) (hl : lv_has ls 3 [(1, .int (bI g)), (0, .ref h)]), W p l e ({ frames := 2, cells := 0, slots := 0, locals := 21 } : Room) s m ([.ref h] : List Value).toArray below meth c H locs 0 0 (MQ below (va_Qi (fun (r9 : Int32) (u9 : MS) => r9 = bI true ∧ u9 = ((x.s_kind 1).s_too b).s_amount k) (fun (u9 : MS) t9 => bW D A (MW dA h ad u9) t9) A) ([.ref h] : List Value).toArray s 0 0 A) (F0 m 12 ls []) := by
    intro k9
    induction k9 using Nat.strongRecOn with
    | ind k9 ih12 =>
      intro q g am i1 i2 hk9 H locs ls hP hD hS hl
      refine lv_aload_n hx hb d_M_readNumber_12 rfl (lv_at hl 1 rfl) ?_
      refine lv_aload_n hx hb d_M_readNumber_13 rfl (lv_at hl 1 rfl) ?_
      refine gF (v := .int (nI q)) hx hb hown hE hK hP 0 rfl rfl layM 46 (by decide) w463 rfl d_M_readNumber_14 ?_
      refine jfI (rnV (As := [.int (nI q)]) (rest := []) hx hb hml hown hE hK (hN _ _ hS) hP hD (k_at l D dA H.size h ad (MS.s_amount (MS.s_too (MS.s_kind x 1) q) am) q (show q < 2 ^ 31 from by omega) (show x.length ≤ 65536 from by omega)) (q0 := 0) rfl rfl w466 w465 w467 w468 w328 rfl rfl ⟨⟨by decide, by decide⟩, rfl⟩ ⟨(Nat.le_of_ble_eq_true rfl), (Nat.le_of_ble_eq_true rfl)⟩ rfl hl.1 rfl (Nat.le_of_ble_eq_true rfl) d_M_readNumber_17 ⟨(Nat.le_of_ble_eq_true rfl), (Nat.le_of_ble_eq_true rfl)⟩) hP hD hS hA (fun r1 u2 H locs hp9 hP hD hS => ?_)
      have hP : va_P D vwCl (MW dA h ad (MS.s_amount (MS.s_too (MS.s_kind x 1) q) am)) H := hP
      have hD : va_D A (MW dA h ad (MS.s_amount (MS.s_too (MS.s_kind x 1) q) am)) := hD
      replace hp9 : x.atN q = r1 := Eq.symm hp9
      subst hp9
      have hPc := hP.sub (ws' := []) [] rfl
      have hDc := hD.sub (ws' := []) [] (by decide) rfl
      refine jnI (rnS (As := [.int (x.atN q)]) (rest := []) hx hb hml hown hE hK (hN _ _ hS) hPc hDc (k_isDigit l D dA H.size (x.atN q)) w955 w954 w956 w328 rfl rfl ⟨⟨by decide, by decide⟩, rfl⟩ ⟨(Nat.le_of_ble_eq_true rfl), (Nat.le_of_ble_eq_true rfl)⟩ rfl hl.1 rfl (Nat.le_of_ble_eq_true rfl) d_M_readNumber_20 ⟨(Nat.le_of_ble_eq_true rfl), (Nat.le_of_ble_eq_true rfl)⟩) hP hD hS hA [] [0, 1, 2, 3, 4, 5, 6, 7, 8, 9, 10, 11, 12, 13, 14, 15, 16, 17, 18, 19, 20, 21, 22, 23, 24, 25, 26, 27, 28, 29, 30, 31, 32, 33, 34, 35, 36, 37, 38] (wr := MW dA h ad (MS.s_amount (MS.s_too (MS.s_kind x 1) q) am)) rfl rfl (by decide) (by decide) (fun r3 u9 H locs hp9 hP hD hS => ?_)
      have hP : va_P D vwCl (MW dA h ad (MS.s_amount (MS.s_too (MS.s_kind x 1) q) am)) H := hP
      have hD : va_D A (MW dA h ad (MS.s_amount (MS.s_too (MS.s_kind x 1) q) am)) := hD
      replace hp9 : bI (isDg (x.atN q)) = r3 := Eq.symm hp9
      subst hp9
      refine lv_if_eq hx hb d_M_readNumber_23 (tgt := 115) rfl (fun g5 => ?_) (fun g5 => ?_)
      · have g5 := bI_0 g5
        refine lv_iload_n hx hb d_M_readNumber_115 rfl (lv_at hl 0 rfl) ?_
        refine lv_if_ne hx hb d_M_readNumber_116 (tgt := 131) rfl (fun _ => ?_) (fun h9 => absurd h9 (by have i6 := (numG_f (w := x.length + 1 - q) (g := g) (m := am) g5).symm.trans i1; rw [hg] at i6; cases i6; decide))
        refine lv_iconst (v := 1) hx hb d_M_readNumber_131 (by decide) ?_
        refine lv_goto hx hb d_M_readNumber_132 (tgt := 136) rfl ?_
        exact rfZ hx hb hr (bI_nar true) hlk hS (MS.s_amount (MS.s_too (MS.s_kind x 1) q) am) ⟨rfl, by have i6 := (numG_f (w := x.length + 1 - q) (g := g) (m := am) g5).symm.trans i1; rw [hg] at i6; cases i6; rfl⟩ hP hD (Nat.le_of_ble_eq_true rfl) (Nat.le_of_ble_eq_true rfl) d_M_readNumber_136
      · have g5 := bI_n0 g5
        refine lv_aload_n hx hb d_M_readNumber_26 rfl (lv_at hl 1 rfl) ?_
        have dq := atI_lt (f := x.tape) (len := x.length) (q := q) g5
        refine lv_aload_n hx hb d_M_readNumber_27 rfl (lv_at hl 1 rfl) ?_
        refine gF (v := .int (nI q)) hx hb hown hE hK hP 0 rfl rfl layM 46 (by decide) w463 rfl d_M_readNumber_28 ?_
        refine jfI (rnV (As := [.int (nI q)]) (rest := []) hx hb hml hown hE hK (hN _ _ hS) hP hD (k_at l D dA H.size h ad (MS.s_amount (MS.s_too (MS.s_kind x 1) q) am) q (show q < 2 ^ 31 from by omega) (show x.length ≤ 65536 from by omega)) (q0 := 0) rfl rfl w466 w465 w467 w468 w328 rfl rfl ⟨⟨by decide, by decide⟩, rfl⟩ ⟨(Nat.le_of_ble_eq_true rfl), (Nat.le_of_ble_eq_true rfl)⟩ rfl hl.1 rfl (Nat.le_of_ble_eq_true rfl) d_M_readNumber_31 ⟨(Nat.le_of_ble_eq_true rfl), (Nat.le_of_ble_eq_true rfl)⟩) hP hD hS hA (fun r6 u7 H locs hp9 hP hD hS => ?_)
        have hP : va_P D vwCl (MW dA h ad (MS.s_amount (MS.s_too (MS.s_kind x 1) q) am)) H := hP
        have hD : va_D A (MW dA h ad (MS.s_amount (MS.s_too (MS.s_kind x 1) q) am)) := hD
        replace hp9 : x.atN q = r6 := Eq.symm hp9
        subst hp9
        refine lv_bipush (v := 48) hx hb d_M_readNumber_34 (by decide) ?_
        refine lv_isub hx hb d_M_readNumber_36 ?_
        refine lv_istore_n hx hb d_M_readNumber_37 rfl hl (by decide) rfl (fun ls hl => ?_)
        have hl : lv_has ls 3 [(2, .int ((x.atN q) - 48)), (1, .int (bI g)), (0, .ref h)] := hl
        have J75 : ∀ (v : Bool) (j3 : ngB g am (x.atN q - 48) = v), ∀ (H : Heap) (locs : List Loc) (ls : Array Slot) (hP : va_P D vwCl (MW dA h ad (MS.s_amount (MS.s_too (MS.s_kind x 1) q) am)) H) (hD : va_D A (MW dA h ad (MS.s_amount (MS.s_too (MS.s_kind x 1) q) am))) (hS : va_S A s.heap H locs) (hl : lv_has ls 3 [(2, .int (x.atN q - 48)), (1, .int (bI g)), (0, .ref h)]), W p l e ({ frames := 2, cells := 0, slots := 0, locals := 21 } : Room) s m ([.ref h] : List Value).toArray below meth c H locs 0 0 (MQ below (va_Qi (fun (r9 : Int32) (u9 : MS) => r9 = bI true ∧ u9 = ((x.s_kind 1).s_too b).s_amount k) (fun (u9 : MS) t9 => bW D A (MW dA h ad u9) t9) A) ([.ref h] : List Value).toArray s 0 0 A) (F0 m 75 ls [.int (bI v)]) := by
          intro v j3 H locs ls hP hD hS hl
          refine lv_istore_n hx hb d_M_readNumber_75 rfl hl (by decide) rfl (fun ls hl => ?_)
          have hl : lv_has ls 3 [(1, .int (bI v)), (2, .int (x.atN q - 48)), (0, .ref h)] := hl
          have J99 : ∀ (m7 : Int64) (j4 : ngA g am (x.atN q - 48) = m7), ∀ (H : Heap) (locs : List Loc) (ls : Array Slot) (hP : va_P D vwCl (MW dA h ad (MS.s_amount (MS.s_too (MS.s_kind x 1) q) am)) H) (hD : va_D A (MW dA h ad (MS.s_amount (MS.s_too (MS.s_kind x 1) q) am))) (hS : va_S A s.heap H locs) (hl : lv_has ls 3 [(1, .int (bI v)), (0, .ref h)]), W p l e ({ frames := 2, cells := 0, slots := 0, locals := 21 } : Room) s m ([.ref h] : List Value).toArray below meth c H locs 0 0 (MQ below (va_Qi (fun (r9 : Int32) (u9 : MS) => r9 = bI true ∧ u9 = ((x.s_kind 1).s_too b).s_amount k) (fun (u9 : MS) t9 => bW D A (MW dA h ad u9) t9) A) ([.ref h] : List Value).toArray s 0 0 A) (F0 m 99 ls [.long m7, .ref h]) := by
            intro m7 j4 H locs ls hP hD hS hl
            refine pF (v := .long m7) hx hb hown hE hK hP hD hS 0 rfl rfl layM tyM tokM nmM 47 (by decide) w953 rfl rfl rfl (Nat.le_of_ble_eq_true rfl) d_M_readNumber_99 (fun H locs hP hD hS => ?_)
            have hP : va_P D vwCl (MW dA h ad (MS.s_amount (MS.s_too (MS.s_kind x 1) q) m7)) H := hP
            have hD : va_D A (MW dA h ad (MS.s_amount (MS.s_too (MS.s_kind x 1) q) m7)) := hD
            refine lv_aload_n hx hb d_M_readNumber_102 rfl (lv_at hl 1 rfl) ?_
            refine lv_dup hx hb d_M_readNumber_103 rfl ?_
            refine gF (v := .int (nI q)) hx hb hown hE hK hP 0 rfl rfl layM 46 (by decide) w463 rfl d_M_readNumber_104 ?_
            refine lv_iconst (v := 1) hx hb d_M_readNumber_107 (by decide) ?_
            refine lv_iadd hx hb d_M_readNumber_108 (tpi (y := nI (q + 1)) (nI_add (q) (1)) ?_)
            refine pF (v := .int (nI (q + 1))) hx hb hown hE hK hP hD hS 0 rfl rfl layM tyM tokM nmM 46 (by decide) w463 rfl rfl rfl (Nat.le_of_ble_eq_true rfl) d_M_readNumber_109 (fun H locs hP hD hS => ?_)
            have hP : va_P D vwCl (MW dA h ad (MS.s_amount (MS.s_too (MS.s_kind x 1) (q + 1)) m7)) H := hP
            have hD : va_D A (MW dA h ad (MS.s_amount (MS.s_too (MS.s_kind x 1) (q + 1)) m7)) := hD
            refine lv_goto hx hb d_M_readNumber_112 (tgt := 12) rfl ?_
            exact ih12 _ (by omega) (q + 1) v m7 (by rw [← i1, numG_t (w := x.length + 1 - q) (by omega) g5, show x.length + 1 - q - 1 = x.length + 1 - (q + 1) by omega]; show _ = numG _ _ _ _ (ngB g am (x.atN q - 48)) (ngA g am (x.atN q - 48)); rw [j3, j4]) (by omega) rfl H _ ls hP hD hS (lv_sub hl [0, 1] rfl)
          refine lv_aload_n hx hb d_M_readNumber_76 rfl (lv_at hl 2 rfl) ?_
          refine lv_iload_n hx hb d_M_readNumber_77 rfl (lv_at hl 0 rfl) ?_
          refine lv_if_eq hx hb d_M_readNumber_78 (tgt := 95) rfl (fun g8 => ?_) (fun g8 => ?_)
          · have g8 := bI_0 g8
            refine lv_aload_n hx hb d_M_readNumber_95 rfl (lv_at hl 2 rfl) ?_
            refine gF (v := .long am) hx hb hown hE hK hP 0 rfl rfl layM 47 (by decide) w953 rfl d_M_readNumber_96 ?_
            exact J99 am (if_neg (by rw [j3, g8]; decide)) H _ ls hP hD hS (lv_sub hl [0, 2] rfl)
          · have g8 := bI_n0 g8
            refine lv_ldc2 (v := 10) hx hb hown (hE.t w957 rfl) d_M_readNumber_81 ?_
            refine lv_aload_n hx hb d_M_readNumber_84 rfl (lv_at hl 2 rfl) ?_
            refine gF (v := .long am) hx hb hown hE hK hP 0 rfl rfl layM 47 (by decide) w953 rfl d_M_readNumber_85 ?_
            refine lv_lmul hx hb d_M_readNumber_88 ?_
            refine lv_iload_n hx hb d_M_readNumber_89 rfl (lv_at hl 1 rfl) ?_
            refine lv_i2l hx hb d_M_readNumber_90 rfl ?_
            refine lv_ladd hx hb d_M_readNumber_91 ?_
            refine lv_goto hx hb d_M_readNumber_92 (tgt := 99) rfl ?_
            exact J99 ((10 * am) + ((x.atN q - 48).toInt64)) (if_pos (j3.trans g8)) H _ ls hP hD hS (lv_sub hl [0, 2] rfl)
        refine lv_iload_n hx hb d_M_readNumber_38 rfl (lv_at hl 1 rfl) ?_
        refine lv_if_eq hx hb d_M_readNumber_39 (tgt := 74) rfl (fun g9 => ?_) (fun g9 => ?_)
        · have g9 := bI_0 g9
          refine lv_iconst (v := 0) hx hb d_M_readNumber_74 (by decide) ?_
          exact J75 false (by simp [ngB, *]) H _ ls hP hD hS (lv_sub hl [0, 1, 2] rfl)
        · have g9 := bI_n0 g9
          refine lv_aload_n hx hb d_M_readNumber_42 rfl (lv_at hl 2 rfl) ?_
          refine gF (v := .long am) hx hb hown hE hK hP 0 rfl rfl layM 47 (by decide) w953 rfl d_M_readNumber_43 ?_
          refine lv_ldc2 (v := 922337203685477580) hx hb hown (hE.t w958 rfl) d_M_readNumber_46 ?_
          refine W.lcmp hx hb d_M_readNumber_49 ?_
          refine lv_if_lt hx hb d_M_readNumber_50 (tgt := 70) rfl (fun g10 => ?_) (fun g10 => ?_)
          · have g10 := (lg_cmp_lt _ _).mp g10
            refine lv_iconst (v := 1) hx hb d_M_readNumber_70 (by decide) ?_
            refine lv_goto hx hb d_M_readNumber_71 (tgt := 75) rfl ?_
            exact J75 true (by simp [ngB, *]) H _ ls hP hD hS (lv_sub hl [0, 1, 2] rfl)
          · have g10 := mt (lg_cmp_lt _ _).mpr g10
            refine lv_aload_n hx hb d_M_readNumber_53 rfl (lv_at hl 2 rfl) ?_
            refine gF (v := .long am) hx hb hown hE hK hP 0 rfl rfl layM 47 (by decide) w953 rfl d_M_readNumber_54 ?_
            refine lv_ldc2 (v := 922337203685477580) hx hb hown (hE.t w958 rfl) d_M_readNumber_57 ?_
            refine W.lcmp hx hb d_M_readNumber_60 ?_
            refine lv_if_ne hx hb d_M_readNumber_61 (tgt := 74) rfl (fun g11 => ?_) (fun g11 => ?_)
            · have g11 := mt (lg_cmp_eq _ _).mpr g11
              refine lv_iconst (v := 0) hx hb d_M_readNumber_74 (by decide) ?_
              exact J75 false (by simp [ngB, *]) H _ ls hP hD hS (lv_sub hl [0, 1, 2] rfl)
            · have g11 := (lg_cmp_eq _ _).mp g11
              refine lv_iload_n hx hb d_M_readNumber_64 rfl (lv_at hl 0 rfl) ?_
              refine lv_bipush (v := 8) hx hb d_M_readNumber_65 (by decide) ?_
              refine lv_icmp_ge hx hb d_M_readNumber_67 (tgt := 74) rfl (fun g12 => ?_) (fun g12 => ?_)
              · have g12 := g12
                refine lv_iconst (v := 0) hx hb d_M_readNumber_74 (by decide) ?_
                exact J75 false (by simp [ngB, *]) H _ ls hP hD hS (lv_sub hl [0, 1, 2] rfl)
              · have g12 := g12
                refine lv_iconst (v := 1) hx hb d_M_readNumber_70 (by decide) ?_
                refine lv_goto hx hb d_M_readNumber_71 (tgt := 75) rfl ?_
                exact J75 true (by simp [ngB, *]) H _ ls hP hD hS (lv_sub hl [0, 1, 2] rfl)
  exact L12 _ x.too true 0 rfl (by omega) rfl H _ ls hP hD hS (lv_sub hl [0, 1] rfl)
theorem d_M_readNumber_119 : decode prog_14_method_58_code 119 = .ok (.aload_n 0, 1) := by decide +kernel
theorem d_M_readNumber_120 : decode prog_14_method_58_code 120 = .ok (.iconst 1, 1) := by decide +kernel
theorem d_M_readNumber_121 : decode prog_14_method_58_code 121 = .ok (.aload_n 0, 1) := by decide +kernel
theorem d_M_readNumber_122 : decode prog_14_method_58_code 122 = .ok (.getfield 345, 3) := by decide +kernel
theorem d_M_readNumber_125 : decode prog_14_method_58_code 125 = .ok (.invokevirtual 224, 3) := by decide +kernel
theorem d_M_readNumber_128 : decode prog_14_method_58_code 128 = .ok (.ifCond .eq 7, 3) := by decide +kernel
theorem d_M_readNumber_135 : decode prog_14_method_58_code 135 = .ok (.iconst 0, 1) := by decide +kernel
set_option maxHeartbeats 4000000 in
set_option maxRecDepth 100000 in
theorem k_readNumber_x (l : Launch) (D : va_G) (dA : Nat → ClassId) (sz : Nat) (h : Nat) (ad : Nat → Nat) (x : MS) (b : Nat) (k : Int64) (hl1 : x.length ≤ 65536) (ht : x.too ≤ x.length) (hg : numG x.tape x.length (x.length + 1 - x.too) x.too true 0 = (b, false, k)) (hf : x.faultCode = 0) : Met l ⟨"SeriesVaultModel", "readNumber", "()Z"⟩ [Cond.code ⟨"SeriesVaultModel", "readNumber", "()Z"⟩ prog_14_method_58_code 3 (some FieldType.boolean)] { frames := 2, cells := 0, slots := 0, locals := 22 } (pC D dA [.ref h] (MW dA h ad x) sz) (va_Qi (fun (r9 : Int32) (u9 : MS) => r9 = bI false ∧ u9 = ((((x.s_kind 1).s_too b).s_amount k).s_faultCode 1).s_faultPlace (nI x.frm)) (fun (u9 : MS) t9 => bW D (va_A (MW dA h ad x) sz) (MW dA h ad u9) t9) (va_A (MW dA h ad x) sz)) 0 0 (va_A (MW dA h ad x) sz) := by
  refine mkC (y := ⟨"SeriesVaultModel", "readNumber", "()Z"⟩) (cc := prog_14_method_58_code) (maxL := 3) (av := [.ref h]) (ws := MW dA h ad x) (sz := sz) (Qc := fun A => va_Qi (fun (r9 : Int32) (u9 : MS) => r9 = bI false ∧ u9 = ((((x.s_kind 1).s_too b).s_amount k).s_faultCode 1).s_faultPlace (nI x.frm)) (fun (u9 : MS) t9 => bW D A (MW dA h ad u9) t9) A) (by decide) (Nat.le_of_ble_eq_true rfl) ?_
  intro A p e s m below meth c ls hsz hB
  obtain ⟨hx, hb, hr, hml, hown, hin, hlk, hE, hK, hP, hD, hS, hA, hN, hl⟩ := hB
  have hown : s.vm.findClass "SeriesVaultModel" = some m.cls := hown
  have hl : lv_has ls 3 [(0, .ref h)] := hl
  obtain ⟨H, hH⟩ : ∃ z, z = s.heap := ⟨_, rfl⟩
  have hP : va_P D vwCl (MW dA h ad x) H := by rw [hH]; exact hP
  have hS : va_S A s.heap H [] := by rw [hH]; exact hS
  rw [← hH]
  refine lv_aload_n hx hb d_M_readNumber_0 rfl (lv_at hl 0 rfl) ?_
  refine lv_iconst (v := 1) hx hb d_M_readNumber_1 (by decide) ?_
  refine pF (v := .int 1) hx hb hown hE hK hP hD hS 0 rfl rfl layM tyM tokM nmM 44 (by decide) w469 rfl rfl rfl (Nat.le_of_ble_eq_true rfl) d_M_readNumber_2 (fun H locs hP hD hS => ?_)
  have hP : va_P D vwCl (MW dA h ad (MS.s_kind x 1)) H := hP
  have hD : va_D A (MW dA h ad (MS.s_kind x 1)) := hD
  refine lv_aload_n hx hb d_M_readNumber_5 rfl (lv_at hl 0 rfl) ?_
  refine lv_lconst (v := 0) hx hb d_M_readNumber_6 (by decide) ?_
  refine pF (v := .long 0) hx hb hown hE hK hP hD hS 0 rfl rfl layM tyM tokM nmM 47 (by decide) w953 rfl rfl rfl (Nat.le_of_ble_eq_true rfl) d_M_readNumber_7 (fun H locs hP hD hS => ?_)
  have hP : va_P D vwCl (MW dA h ad (MS.s_amount (MS.s_kind x 1) 0)) H := hP
  have hD : va_D A (MW dA h ad (MS.s_amount (MS.s_kind x 1) 0)) := hD
  refine lv_iconst (v := 1) hx hb d_M_readNumber_10 (by decide) ?_
  refine lv_istore_n hx hb d_M_readNumber_11 rfl hl (by decide) rfl (fun ls hl => ?_)
  have hl : lv_has ls 3 [(1, .int 1), (0, .ref h)] := hl
  have L12 : ∀ (k9 : Nat) (q : Nat) (g : Bool) (am : Int64) (i1 : numG x.tape x.length (x.length + 1 - q) q g am = numG x.tape x.length (x.length + 1 - x.too) x.too true 0) (i2 : q ≤ 65537) (hk9 : x.length + 1 - q = k9), ∀ (H : Heap) (locs : List Loc) (ls : Array Slot) (hP : va_P D vwCl (MW dA h ad (MS.s_amount (MS.s_too (MS.s_kind x 1) q) am)) H) (hD : va_D A (MW dA h ad (MS.s_amount (MS.s_too (MS.s_kind x 1) q) am))) (hS : va_S A s.heap H locs) (hl : lv_has ls 3 [(1, .int (bI g)), (0, .ref h)]), W p l e ({ frames := 2, cells := 0, slots := 0, locals := 22 } : Room) s m ([.ref h] : List Value).toArray below meth c H locs 0 0 (MQ below (va_Qi (fun (r9 : Int32) (u9 : MS) => r9 = bI false ∧ u9 = ((((x.s_kind 1).s_too b).s_amount k).s_faultCode 1).s_faultPlace (nI x.frm)) (fun (u9 : MS) t9 => bW D A (MW dA h ad u9) t9) A) ([.ref h] : List Value).toArray s 0 0 A) (F0 m 12 ls []) := by
    intro k9
    induction k9 using Nat.strongRecOn with
    | ind k9 ih12 =>
      intro q g am i1 i2 hk9 H locs ls hP hD hS hl
      refine lv_aload_n hx hb d_M_readNumber_12 rfl (lv_at hl 1 rfl) ?_
      refine lv_aload_n hx hb d_M_readNumber_13 rfl (lv_at hl 1 rfl) ?_
      refine gF (v := .int (nI q)) hx hb hown hE hK hP 0 rfl rfl layM 46 (by decide) w463 rfl d_M_readNumber_14 ?_
      refine jfI (rnV (As := [.int (nI q)]) (rest := []) hx hb hml hown hE hK (hN _ _ hS) hP hD (k_at l D dA H.size h ad (MS.s_amount (MS.s_too (MS.s_kind x 1) q) am) q (show q < 2 ^ 31 from by omega) (show x.length ≤ 65536 from by omega)) (q0 := 0) rfl rfl w466 w465 w467 w468 w328 rfl rfl ⟨⟨by decide, by decide⟩, rfl⟩ ⟨(Nat.le_of_ble_eq_true rfl), (Nat.le_of_ble_eq_true rfl)⟩ rfl hl.1 rfl (Nat.le_of_ble_eq_true rfl) d_M_readNumber_17 ⟨(Nat.le_of_ble_eq_true rfl), (Nat.le_of_ble_eq_true rfl)⟩) hP hD hS hA (fun r1 u2 H locs hp9 hP hD hS => ?_)
      have hP : va_P D vwCl (MW dA h ad (MS.s_amount (MS.s_too (MS.s_kind x 1) q) am)) H := hP
      have hD : va_D A (MW dA h ad (MS.s_amount (MS.s_too (MS.s_kind x 1) q) am)) := hD
      replace hp9 : x.atN q = r1 := Eq.symm hp9
      subst hp9
      have hPc := hP.sub (ws' := []) [] rfl
      have hDc := hD.sub (ws' := []) [] (by decide) rfl
      refine jnI (rnS (As := [.int (x.atN q)]) (rest := []) hx hb hml hown hE hK (hN _ _ hS) hPc hDc (k_isDigit l D dA H.size (x.atN q)) w955 w954 w956 w328 rfl rfl ⟨⟨by decide, by decide⟩, rfl⟩ ⟨(Nat.le_of_ble_eq_true rfl), (Nat.le_of_ble_eq_true rfl)⟩ rfl hl.1 rfl (Nat.le_of_ble_eq_true rfl) d_M_readNumber_20 ⟨(Nat.le_of_ble_eq_true rfl), (Nat.le_of_ble_eq_true rfl)⟩) hP hD hS hA [] [0, 1, 2, 3, 4, 5, 6, 7, 8, 9, 10, 11, 12, 13, 14, 15, 16, 17, 18, 19, 20, 21, 22, 23, 24, 25, 26, 27, 28, 29, 30, 31, 32, 33, 34, 35, 36, 37, 38] (wr := MW dA h ad (MS.s_amount (MS.s_too (MS.s_kind x 1) q) am)) rfl rfl (by decide) (by decide) (fun r3 u9 H locs hp9 hP hD hS => ?_)
      have hP : va_P D vwCl (MW dA h ad (MS.s_amount (MS.s_too (MS.s_kind x 1) q) am)) H := hP
      have hD : va_D A (MW dA h ad (MS.s_amount (MS.s_too (MS.s_kind x 1) q) am)) := hD
      replace hp9 : bI (isDg (x.atN q)) = r3 := Eq.symm hp9
      subst hp9
      refine lv_if_eq hx hb d_M_readNumber_23 (tgt := 115) rfl (fun g5 => ?_) (fun g5 => ?_)
      · have g5 := bI_0 g5
        refine lv_iload_n hx hb d_M_readNumber_115 rfl (lv_at hl 0 rfl) ?_
        refine lv_if_ne hx hb d_M_readNumber_116 (tgt := 131) rfl (fun h9 => absurd (by have i6 := (numG_f (w := x.length + 1 - q) (g := g) (m := am) g5).symm.trans i1; rw [hg] at i6; cases i6; decide) h9) (fun _ => ?_)
        refine lv_aload_n hx hb d_M_readNumber_119 rfl (lv_at hl 1 rfl) ?_
        refine lv_iconst (v := 1) hx hb d_M_readNumber_120 (by decide) ?_
        refine lv_aload_n hx hb d_M_readNumber_121 rfl (lv_at hl 1 rfl) ?_
        refine gF (v := .int (nI x.frm)) hx hb hown hE hK hP 0 rfl rfl layM 45 (by decide) w464 rfl d_M_readNumber_122 ?_
        refine jfI (rnV (As := [.int 1, .int (nI x.frm)]) (rest := []) hx hb hml hown hE hK (hN _ _ hS) hP hD (k_flaw_0 l D dA H.size h ad (MS.s_amount (MS.s_too (MS.s_kind x 1) q) am) 1 (nI x.frm) hf) (q0 := 0) rfl rfl w431 w430 w432 w433 w328 rfl rfl ⟨⟨by decide, by decide⟩, rfl⟩ ⟨(Nat.le_of_ble_eq_true rfl), (Nat.le_of_ble_eq_true rfl)⟩ rfl hl.1 rfl (Nat.le_of_ble_eq_true rfl) d_M_readNumber_125 ⟨(Nat.le_of_ble_eq_true rfl), (Nat.le_of_ble_eq_true rfl)⟩) hP hD hS hA (fun r6 u7 H locs hp9 hP hD hS => ?_)
        have hP : va_P D vwCl (MW dA h ad (MS.s_amount (MS.s_too (MS.s_kind (MS.s_faultPlace (MS.s_faultCode x 1) (nI x.frm)) 1) q) am)) H := hP
        have hD : va_D A (MW dA h ad (MS.s_amount (MS.s_too (MS.s_kind (MS.s_faultPlace (MS.s_faultCode x 1) (nI x.frm)) 1) q) am)) := hD
        replace hp9 : bI false = r6 := Eq.symm hp9
        subst hp9
        refine lv_if_eq hx hb d_M_readNumber_128 (tgt := 135) rfl (fun _ => ?_) (fun h9 => absurd (by decide) h9)
        refine lv_iconst (v := 0) hx hb d_M_readNumber_135 (by decide) ?_
        exact rfZ hx hb hr (bI_nar false) hlk hS (MS.s_amount (MS.s_too (MS.s_kind (MS.s_faultPlace (MS.s_faultCode x 1) (nI x.frm)) 1) q) am) ⟨rfl, by have i6 := (numG_f (w := x.length + 1 - q) (g := g) (m := am) g5).symm.trans i1; rw [hg] at i6; cases i6; rfl⟩ hP hD (Nat.le_of_ble_eq_true rfl) (Nat.le_of_ble_eq_true rfl) d_M_readNumber_136
      · have g5 := bI_n0 g5
        refine lv_aload_n hx hb d_M_readNumber_26 rfl (lv_at hl 1 rfl) ?_
        have dq := atI_lt (f := x.tape) (len := x.length) (q := q) g5
        refine lv_aload_n hx hb d_M_readNumber_27 rfl (lv_at hl 1 rfl) ?_
        refine gF (v := .int (nI q)) hx hb hown hE hK hP 0 rfl rfl layM 46 (by decide) w463 rfl d_M_readNumber_28 ?_
        refine jfI (rnV (As := [.int (nI q)]) (rest := []) hx hb hml hown hE hK (hN _ _ hS) hP hD (k_at l D dA H.size h ad (MS.s_amount (MS.s_too (MS.s_kind x 1) q) am) q (show q < 2 ^ 31 from by omega) (show x.length ≤ 65536 from by omega)) (q0 := 0) rfl rfl w466 w465 w467 w468 w328 rfl rfl ⟨⟨by decide, by decide⟩, rfl⟩ ⟨(Nat.le_of_ble_eq_true rfl), (Nat.le_of_ble_eq_true rfl)⟩ rfl hl.1 rfl (Nat.le_of_ble_eq_true rfl) d_M_readNumber_31 ⟨(Nat.le_of_ble_eq_true rfl), (Nat.le_of_ble_eq_true rfl)⟩) hP hD hS hA (fun r8 u9 H locs hp9 hP hD hS => ?_)
        have hP : va_P D vwCl (MW dA h ad (MS.s_amount (MS.s_too (MS.s_kind x 1) q) am)) H := hP
        have hD : va_D A (MW dA h ad (MS.s_amount (MS.s_too (MS.s_kind x 1) q) am)) := hD
        replace hp9 : x.atN q = r8 := Eq.symm hp9
        subst hp9
        refine lv_bipush (v := 48) hx hb d_M_readNumber_34 (by decide) ?_
        refine lv_isub hx hb d_M_readNumber_36 ?_
        refine lv_istore_n hx hb d_M_readNumber_37 rfl hl (by decide) rfl (fun ls hl => ?_)
        have hl : lv_has ls 3 [(2, .int ((x.atN q) - 48)), (1, .int (bI g)), (0, .ref h)] := hl
        have J75 : ∀ (v : Bool) (j3 : ngB g am (x.atN q - 48) = v), ∀ (H : Heap) (locs : List Loc) (ls : Array Slot) (hP : va_P D vwCl (MW dA h ad (MS.s_amount (MS.s_too (MS.s_kind x 1) q) am)) H) (hD : va_D A (MW dA h ad (MS.s_amount (MS.s_too (MS.s_kind x 1) q) am))) (hS : va_S A s.heap H locs) (hl : lv_has ls 3 [(2, .int (x.atN q - 48)), (1, .int (bI g)), (0, .ref h)]), W p l e ({ frames := 2, cells := 0, slots := 0, locals := 22 } : Room) s m ([.ref h] : List Value).toArray below meth c H locs 0 0 (MQ below (va_Qi (fun (r9 : Int32) (u9 : MS) => r9 = bI false ∧ u9 = ((((x.s_kind 1).s_too b).s_amount k).s_faultCode 1).s_faultPlace (nI x.frm)) (fun (u9 : MS) t9 => bW D A (MW dA h ad u9) t9) A) ([.ref h] : List Value).toArray s 0 0 A) (F0 m 75 ls [.int (bI v)]) := by
          intro v j3 H locs ls hP hD hS hl
          refine lv_istore_n hx hb d_M_readNumber_75 rfl hl (by decide) rfl (fun ls hl => ?_)
          have hl : lv_has ls 3 [(1, .int (bI v)), (2, .int (x.atN q - 48)), (0, .ref h)] := hl
          have J99 : ∀ (m7 : Int64) (j4 : ngA g am (x.atN q - 48) = m7), ∀ (H : Heap) (locs : List Loc) (ls : Array Slot) (hP : va_P D vwCl (MW dA h ad (MS.s_amount (MS.s_too (MS.s_kind x 1) q) am)) H) (hD : va_D A (MW dA h ad (MS.s_amount (MS.s_too (MS.s_kind x 1) q) am))) (hS : va_S A s.heap H locs) (hl : lv_has ls 3 [(1, .int (bI v)), (0, .ref h)]), W p l e ({ frames := 2, cells := 0, slots := 0, locals := 22 } : Room) s m ([.ref h] : List Value).toArray below meth c H locs 0 0 (MQ below (va_Qi (fun (r9 : Int32) (u9 : MS) => r9 = bI false ∧ u9 = ((((x.s_kind 1).s_too b).s_amount k).s_faultCode 1).s_faultPlace (nI x.frm)) (fun (u9 : MS) t9 => bW D A (MW dA h ad u9) t9) A) ([.ref h] : List Value).toArray s 0 0 A) (F0 m 99 ls [.long m7, .ref h]) := by
            intro m7 j4 H locs ls hP hD hS hl
            refine pF (v := .long m7) hx hb hown hE hK hP hD hS 0 rfl rfl layM tyM tokM nmM 47 (by decide) w953 rfl rfl rfl (Nat.le_of_ble_eq_true rfl) d_M_readNumber_99 (fun H locs hP hD hS => ?_)
            have hP : va_P D vwCl (MW dA h ad (MS.s_amount (MS.s_too (MS.s_kind x 1) q) m7)) H := hP
            have hD : va_D A (MW dA h ad (MS.s_amount (MS.s_too (MS.s_kind x 1) q) m7)) := hD
            refine lv_aload_n hx hb d_M_readNumber_102 rfl (lv_at hl 1 rfl) ?_
            refine lv_dup hx hb d_M_readNumber_103 rfl ?_
            refine gF (v := .int (nI q)) hx hb hown hE hK hP 0 rfl rfl layM 46 (by decide) w463 rfl d_M_readNumber_104 ?_
            refine lv_iconst (v := 1) hx hb d_M_readNumber_107 (by decide) ?_
            refine lv_iadd hx hb d_M_readNumber_108 (tpi (y := nI (q + 1)) (nI_add (q) (1)) ?_)
            refine pF (v := .int (nI (q + 1))) hx hb hown hE hK hP hD hS 0 rfl rfl layM tyM tokM nmM 46 (by decide) w463 rfl rfl rfl (Nat.le_of_ble_eq_true rfl) d_M_readNumber_109 (fun H locs hP hD hS => ?_)
            have hP : va_P D vwCl (MW dA h ad (MS.s_amount (MS.s_too (MS.s_kind x 1) (q + 1)) m7)) H := hP
            have hD : va_D A (MW dA h ad (MS.s_amount (MS.s_too (MS.s_kind x 1) (q + 1)) m7)) := hD
            refine lv_goto hx hb d_M_readNumber_112 (tgt := 12) rfl ?_
            exact ih12 _ (by omega) (q + 1) v m7 (by rw [← i1, numG_t (w := x.length + 1 - q) (by omega) g5, show x.length + 1 - q - 1 = x.length + 1 - (q + 1) by omega]; show _ = numG _ _ _ _ (ngB g am (x.atN q - 48)) (ngA g am (x.atN q - 48)); rw [j3, j4]) (by omega) rfl H _ ls hP hD hS (lv_sub hl [0, 1] rfl)
          refine lv_aload_n hx hb d_M_readNumber_76 rfl (lv_at hl 2 rfl) ?_
          refine lv_iload_n hx hb d_M_readNumber_77 rfl (lv_at hl 0 rfl) ?_
          refine lv_if_eq hx hb d_M_readNumber_78 (tgt := 95) rfl (fun g10 => ?_) (fun g10 => ?_)
          · have g10 := bI_0 g10
            refine lv_aload_n hx hb d_M_readNumber_95 rfl (lv_at hl 2 rfl) ?_
            refine gF (v := .long am) hx hb hown hE hK hP 0 rfl rfl layM 47 (by decide) w953 rfl d_M_readNumber_96 ?_
            exact J99 am (if_neg (by rw [j3, g10]; decide)) H _ ls hP hD hS (lv_sub hl [0, 2] rfl)
          · have g10 := bI_n0 g10
            refine lv_ldc2 (v := 10) hx hb hown (hE.t w957 rfl) d_M_readNumber_81 ?_
            refine lv_aload_n hx hb d_M_readNumber_84 rfl (lv_at hl 2 rfl) ?_
            refine gF (v := .long am) hx hb hown hE hK hP 0 rfl rfl layM 47 (by decide) w953 rfl d_M_readNumber_85 ?_
            refine lv_lmul hx hb d_M_readNumber_88 ?_
            refine lv_iload_n hx hb d_M_readNumber_89 rfl (lv_at hl 1 rfl) ?_
            refine lv_i2l hx hb d_M_readNumber_90 rfl ?_
            refine lv_ladd hx hb d_M_readNumber_91 ?_
            refine lv_goto hx hb d_M_readNumber_92 (tgt := 99) rfl ?_
            exact J99 ((10 * am) + ((x.atN q - 48).toInt64)) (if_pos (j3.trans g10)) H _ ls hP hD hS (lv_sub hl [0, 2] rfl)
        refine lv_iload_n hx hb d_M_readNumber_38 rfl (lv_at hl 1 rfl) ?_
        refine lv_if_eq hx hb d_M_readNumber_39 (tgt := 74) rfl (fun g11 => ?_) (fun g11 => ?_)
        · have g11 := bI_0 g11
          refine lv_iconst (v := 0) hx hb d_M_readNumber_74 (by decide) ?_
          exact J75 false (by simp [ngB, *]) H _ ls hP hD hS (lv_sub hl [0, 1, 2] rfl)
        · have g11 := bI_n0 g11
          refine lv_aload_n hx hb d_M_readNumber_42 rfl (lv_at hl 2 rfl) ?_
          refine gF (v := .long am) hx hb hown hE hK hP 0 rfl rfl layM 47 (by decide) w953 rfl d_M_readNumber_43 ?_
          refine lv_ldc2 (v := 922337203685477580) hx hb hown (hE.t w958 rfl) d_M_readNumber_46 ?_
          refine W.lcmp hx hb d_M_readNumber_49 ?_
          refine lv_if_lt hx hb d_M_readNumber_50 (tgt := 70) rfl (fun g12 => ?_) (fun g12 => ?_)
          · have g12 := (lg_cmp_lt _ _).mp g12
            refine lv_iconst (v := 1) hx hb d_M_readNumber_70 (by decide) ?_
            refine lv_goto hx hb d_M_readNumber_71 (tgt := 75) rfl ?_
            exact J75 true (by simp [ngB, *]) H _ ls hP hD hS (lv_sub hl [0, 1, 2] rfl)
          · have g12 := mt (lg_cmp_lt _ _).mpr g12
            refine lv_aload_n hx hb d_M_readNumber_53 rfl (lv_at hl 2 rfl) ?_
            refine gF (v := .long am) hx hb hown hE hK hP 0 rfl rfl layM 47 (by decide) w953 rfl d_M_readNumber_54 ?_
            refine lv_ldc2 (v := 922337203685477580) hx hb hown (hE.t w958 rfl) d_M_readNumber_57 ?_
            refine W.lcmp hx hb d_M_readNumber_60 ?_
            refine lv_if_ne hx hb d_M_readNumber_61 (tgt := 74) rfl (fun g13 => ?_) (fun g13 => ?_)
            · have g13 := mt (lg_cmp_eq _ _).mpr g13
              refine lv_iconst (v := 0) hx hb d_M_readNumber_74 (by decide) ?_
              exact J75 false (by simp [ngB, *]) H _ ls hP hD hS (lv_sub hl [0, 1, 2] rfl)
            · have g13 := (lg_cmp_eq _ _).mp g13
              refine lv_iload_n hx hb d_M_readNumber_64 rfl (lv_at hl 0 rfl) ?_
              refine lv_bipush (v := 8) hx hb d_M_readNumber_65 (by decide) ?_
              refine lv_icmp_ge hx hb d_M_readNumber_67 (tgt := 74) rfl (fun g14 => ?_) (fun g14 => ?_)
              · have g14 := g14
                refine lv_iconst (v := 0) hx hb d_M_readNumber_74 (by decide) ?_
                exact J75 false (by simp [ngB, *]) H _ ls hP hD hS (lv_sub hl [0, 1, 2] rfl)
              · have g14 := g14
                refine lv_iconst (v := 1) hx hb d_M_readNumber_70 (by decide) ?_
                refine lv_goto hx hb d_M_readNumber_71 (tgt := 75) rfl ?_
                exact J75 true (by simp [ngB, *]) H _ ls hP hD hS (lv_sub hl [0, 1, 2] rfl)
  exact L12 _ x.too true 0 rfl (by omega) rfl H _ ls hP hD hS (lv_sub hl [0, 1] rfl)
/-- behind the spaces -/
def skG (f : Nat → Int32) (len : Nat) : Nat → Nat → Nat
  | 0, q => q
  | w + 1, q => if len ≤ q then q else if f q = 32 then skG f len w (q + 1) else q
theorem skG_t {f : Nat → Int32} {len w q : Nat} (hw : 0 < w) (h0 : ¬ len ≤ q) (h : f q = 32) : skG f len w q = skG f len (w - 1) (q + 1) := by
  obtain ⟨k, rfl⟩ : ∃ k, w = k + 1 := ⟨w - 1, by omega⟩
  show (if len ≤ q then q else if f q = 32 then skG f len k (q + 1) else q) = _
  rw [if_neg h0, if_pos h]
  rfl
theorem skG_n {f : Nat → Int32} {len w q : Nat} (h : len ≤ q ∨ ¬ f q = 32) : skG f len w q = q := by
  cases w with
  | zero => rfl
  | succ w =>
    show (if len ≤ q then q else if f q = 32 then skG f len w (q + 1) else q) = _
    by_cases h1 : len ≤ q
    · rw [if_pos h1]
    · rw [if_neg h1, if_neg (h.resolve_left h1)]
def isNm (z : Int32) : Bool := isLt z || isDg z
def idG (f : Nat → Int32) (len : Nat) : Nat → Nat → Nat
  | 0, q => q
  | w + 1, q => if isNm (atI f len q) = true then idG f len w (q + 1) else q
def isTx (z : Int32) : Bool := !decide (z ≤ 31) && (!decide (127 ≤ z) && !decide (z = 34))
def txG (f : Nat → Int32) (len : Nat) : Nat → Nat → Nat
  | 0, q => q
  | w + 1, q => if len ≤ q then q else if isTx (atI f len q) = true then txG f len w (q + 1) else q
end
section
theorem idG_t {f : Nat → Int32} {len w q : Nat} (hw : 0 < w) (h : isNm (atI f len q) = true) : idG f len w q = idG f len (w - 1) (q + 1) := by
  obtain ⟨k, rfl⟩ : ∃ k, w = k + 1 := ⟨w - 1, by omega⟩
  exact if_pos h
theorem idG_f {f : Nat → Int32} {len w q : Nat} (h : isNm (atI f len q) = false) : idG f len w q = q := by
  cases w with
  | zero => rfl
  | succ w => exact if_neg (by rw [h]; decide)
theorem txG_t {f : Nat → Int32} {len w q : Nat} (hw : 0 < w) (h0 : ¬ len ≤ q) (h : isTx (atI f len q) = true) : txG f len w q = txG f len (w - 1) (q + 1) := by
  obtain ⟨k, rfl⟩ : ∃ k, w = k + 1 := ⟨w - 1, by omega⟩
  show (if len ≤ q then q else if isTx (atI f len q) = true then txG f len k (q + 1) else q) = _
  rw [if_neg h0, if_pos h]
  rfl
theorem txG_n {f : Nat → Int32} {len w q : Nat} (h : len ≤ q ∨ isTx (atI f len q) = false) : txG f len w q = q := by
  cases w with
  | zero => rfl
  | succ w =>
    show (if len ≤ q then q else if isTx (atI f len q) = true then txG f len w (q + 1) else q) = _
    by_cases h1 : len ≤ q
    · rw [if_pos h1]
    · rw [if_neg h1, h.resolve_left h1, if_neg (by decide)]
theorem skG_le {f : Nat → Int32} {len : Nat} : ∀ {w q : Nat}, q ≤ len → skG f len w q ≤ len
  | 0, q, h => h
  | w + 1, q, h => by
    unfold skG
    split
    · exact h
    · split
      · exact skG_le (by omega)
      · exact h
theorem nm_at {f : Nat → Int32} {len q : Nat} (h : isNm (atI f len q) = true) : q < len := by
  refine Nat.lt_of_not_le fun z => ?_
  have e : atI f len q = 0 := if_pos z
  rw [e] at h
  revert h
  decide
theorem d_M_next_11 : decode prog_14_method_57_code 11 = .ok (.aload_n 0, 1) := by decide +kernel
theorem d_M_next_12 : decode prog_14_method_57_code 12 = .ok (.getfield 8, 3) := by decide +kernel
theorem d_M_next_15 : decode prog_14_method_57_code 15 = .ok (.aload_n 0, 1) := by decide +kernel
theorem d_M_next_16 : decode prog_14_method_57_code 16 = .ok (.getfield 342, 3) := by decide +kernel
theorem d_M_next_19 : decode prog_14_method_57_code 19 = .ok (.baload, 1) := by decide +kernel
theorem d_M_next_20 : decode prog_14_method_57_code 20 = .ok (.bipush 32, 2) := by decide +kernel
theorem d_M_next_22 : decode prog_14_method_57_code 22 = .ok (.if_icmp .ne 16, 3) := by decide +kernel
theorem d_M_next_25 : decode prog_14_method_57_code 25 = .ok (.aload_n 0, 1) := by decide +kernel
theorem d_M_next_26 : decode prog_14_method_57_code 26 = .ok (.dup, 1) := by decide +kernel
theorem d_M_next_27 : decode prog_14_method_57_code 27 = .ok (.getfield 342, 3) := by decide +kernel
theorem d_M_next_30 : decode prog_14_method_57_code 30 = .ok (.iconst 1, 1) := by decide +kernel
theorem d_M_next_31 : decode prog_14_method_57_code 31 = .ok (.iadd, 1) := by decide +kernel
theorem d_M_next_32 : decode prog_14_method_57_code 32 = .ok (.putfield 342, 3) := by decide +kernel
theorem d_M_next_35 : decode prog_14_method_57_code 35 = .ok (.goto (-35), 3) := by decide +kernel
set_option maxHeartbeats 4000000 in
set_option maxRecDepth 100000 in
theorem k_next_e (l : Launch) (D : va_G) (dA : Nat → ClassId) (sz : Nat) (h : Nat) (ad : Nat → Nat) (x : MS) (d : Nat) (hl1 : x.length ≤ 65536) (ht : x.too ≤ x.length) (hp : skG x.tape x.length (x.length + 1 - x.too) x.too = d) (hk : x.length ≤ d) : Met l ⟨"SeriesVaultModel", "next", "()Z"⟩ [Cond.code ⟨"SeriesVaultModel", "next", "()Z"⟩ prog_14_method_57_code 2 (some FieldType.boolean)] { frames := 3, cells := 0, slots := 0, locals := 46 } (pC D dA [.ref h] (MW dA h ad x) sz) (va_Qi (fun (r9 : Int32) (u9 : Unit) => r9 = bI true) (fun (u9 : Unit) t9 => bW D (va_A (MW dA h ad x) sz) (MW dA h ad (MS.s_too (MS.s_frm (MS.s_kind x 0) d) d)) t9) (va_A (MW dA h ad x) sz)) 0 0 (va_A (MW dA h ad x) sz) := by
  refine mkC (y := ⟨"SeriesVaultModel", "next", "()Z"⟩) (cc := prog_14_method_57_code) (maxL := 2) (av := [.ref h]) (ws := MW dA h ad x) (sz := sz) (Qc := fun A => va_Qi (fun (r9 : Int32) (u9 : Unit) => r9 = bI true) (fun (u9 : Unit) t9 => bW D A (MW dA h ad (MS.s_too (MS.s_frm (MS.s_kind x 0) d) d)) t9) A) (by decide) (Nat.le_of_ble_eq_true rfl) ?_
  intro A p e s m below meth c ls hsz hB
  obtain ⟨hx, hb, hr, hml, hown, hin, hlk, hE, hK, hP, hD, hS, hA, hN, hl⟩ := hB
  have hown : s.vm.findClass "SeriesVaultModel" = some m.cls := hown
  have hl : lv_has ls 2 [(0, .ref h)] := hl
  obtain ⟨H, hH⟩ : ∃ z, z = s.heap := ⟨_, rfl⟩
  have hP : va_P D vwCl (MW dA h ad x) H := by rw [hH]; exact hP
  have hS : va_S A s.heap H [] := by rw [hH]; exact hS
  rw [← hH]
  have J38 : ∀ (H : Heap) (locs : List Loc) (ls : Array Slot) (hP : va_P D vwCl (MW dA h ad (MS.s_too x d)) H) (hD : va_D A (MW dA h ad (MS.s_too x d))) (hS : va_S A s.heap H locs) (hl : lv_has ls 2 [(0, .ref h)]), W p l e ({ frames := 3, cells := 0, slots := 0, locals := 46 } : Room) s m ([.ref h] : List Value).toArray below meth c H locs 0 0 (MQ below (va_Qi (fun (r9 : Int32) (u9 : Unit) => r9 = bI true) (fun (u9 : Unit) t9 => bW D A (MW dA h ad (MS.s_too (MS.s_frm (MS.s_kind x 0) d) d)) t9) A) ([.ref h] : List Value).toArray s 0 0 A) (F0 m 38 ls []) := by
    intro  H locs ls hP hD hS hl
    have d1 : d ≤ x.length := by rw [← hp]; exact skG_le ht
    refine lv_aload_n hx hb d_M_next_38 rfl (lv_at hl 0 rfl) ?_
    refine lv_aload_n hx hb d_M_next_39 rfl (lv_at hl 0 rfl) ?_
    refine gF (v := .int (nI d)) hx hb hown hE hK hP 0 rfl rfl layM 46 (by decide) w463 rfl d_M_next_40 ?_
    refine pF (v := .int (nI d)) hx hb hown hE hK hP hD hS 0 rfl rfl layM tyM tokM nmM 45 (by decide) w464 rfl rfl rfl (Nat.le_of_ble_eq_true rfl) d_M_next_43 (fun H locs hP hD hS => ?_)
    have hP : va_P D vwCl (MW dA h ad (MS.s_too (MS.s_frm x d) d)) H := hP
    have hD : va_D A (MW dA h ad (MS.s_too (MS.s_frm x d) d)) := hD
    refine lv_aload_n hx hb d_M_next_46 rfl (lv_at hl 0 rfl) ?_
    refine lv_aload_n hx hb d_M_next_47 rfl (lv_at hl 0 rfl) ?_
    refine gF (v := .int (nI d)) hx hb hown hE hK hP 0 rfl rfl layM 45 (by decide) w464 rfl d_M_next_48 ?_
    refine jfI (rnV (As := [.int (nI d)]) (rest := []) hx hb hml hown hE hK (hN _ _ hS) hP hD (k_at l D dA H.size h ad (MS.s_too (MS.s_frm x d) d) d (show d < 2 ^ 31 from by omega) (show x.length ≤ 65536 from by omega)) (q0 := 0) rfl rfl w466 w465 w467 w468 w328 rfl rfl ⟨⟨by decide, by decide⟩, rfl⟩ ⟨(Nat.le_of_ble_eq_true rfl), (Nat.le_of_ble_eq_true rfl)⟩ rfl hl.1 rfl (Nat.le_of_ble_eq_true rfl) d_M_next_51 ⟨(Nat.le_of_ble_eq_true rfl), (Nat.le_of_ble_eq_true rfl)⟩) hP hD hS hA (fun r1 u2 H locs hp9 hP hD hS => ?_)
    have hP : va_P D vwCl (MW dA h ad (MS.s_too (MS.s_frm x d) d)) H := hP
    have hD : va_D A (MW dA h ad (MS.s_too (MS.s_frm x d) d)) := hD
    replace hp9 : x.atN d = r1 := Eq.symm hp9
    subst hp9
    refine lv_istore_n hx hb d_M_next_54 rfl hl (by decide) rfl (fun ls hl => ?_)
    have hl : lv_has ls 2 [(1, .int (x.atN d)), (0, .ref h)] := hl
    refine lv_aload_n hx hb d_M_next_55 rfl (lv_at hl 1 rfl) ?_
    refine gF (v := .int (nI d)) hx hb hown hE hK hP 0 rfl rfl layM 45 (by decide) w464 rfl d_M_next_56 ?_
    refine lv_aload_n hx hb d_M_next_59 rfl (lv_at hl 1 rfl) ?_
    refine gF (v := .int (nI x.length)) hx hb hown hE hK hP 0 rfl rfl layM 2 (by decide) w320 rfl d_M_next_60 ?_
    refine lv_icmp_lt hx hb d_M_next_63 (tgt := 74) rfl (fun h9 => absurd h9 (mt (nI_ltI (a := d) (b := x.length) (by omega) (by omega)).mp (Nat.not_lt.mpr hk))) (fun _ => ?_)
    refine lv_aload_n hx hb d_M_next_66 rfl (lv_at hl 1 rfl) ?_
    refine lv_iconst (v := 0) hx hb d_M_next_67 (by decide) ?_
    refine pF (v := .int 0) hx hb hown hE hK hP hD hS 0 rfl rfl layM tyM tokM nmM 44 (by decide) w469 rfl rfl rfl (Nat.le_of_ble_eq_true rfl) d_M_next_68 (fun H locs hP hD hS => ?_)
    have hP : va_P D vwCl (MW dA h ad (MS.s_too (MS.s_frm (MS.s_kind x 0) d) d)) H := hP
    have hD : va_D A (MW dA h ad (MS.s_too (MS.s_frm (MS.s_kind x 0) d) d)) := hD
    refine lv_goto hx hb d_M_next_71 (tgt := 275) rfl ?_
    refine lv_iconst (v := 1) hx hb d_M_next_275 (by decide) ?_
    exact rfZ hx hb hr (bI_nar true) hlk hS () rfl hP hD (Nat.le_of_ble_eq_true rfl) (Nat.le_of_ble_eq_true rfl) d_M_next_276
  have L0 : ∀ (k9 : Nat) (q : Nat) (i1 : skG x.tape x.length (x.length + 1 - q) q = skG x.tape x.length (x.length + 1 - x.too) x.too) (i2 : q ≤ x.length) (hk9 : x.length + 1 - q = k9), ∀ (H : Heap) (locs : List Loc) (ls : Array Slot) (hP : va_P D vwCl (MW dA h ad (MS.s_too x q)) H) (hD : va_D A (MW dA h ad (MS.s_too x q))) (hS : va_S A s.heap H locs) (hl : lv_has ls 2 [(0, .ref h)]), W p l e ({ frames := 3, cells := 0, slots := 0, locals := 46 } : Room) s m ([.ref h] : List Value).toArray below meth c H locs 0 0 (MQ below (va_Qi (fun (r9 : Int32) (u9 : Unit) => r9 = bI true) (fun (u9 : Unit) t9 => bW D A (MW dA h ad (MS.s_too (MS.s_frm (MS.s_kind x 0) d) d)) t9) A) ([.ref h] : List Value).toArray s 0 0 A) (F0 m 0 ls []) := by
    intro k9
    induction k9 using Nat.strongRecOn with
    | ind k9 ih0 =>
      intro q i1 i2 hk9 H locs ls hP hD hS hl
      refine lv_aload_n hx hb d_M_next_0 rfl (lv_at hl 0 rfl) ?_
      refine gF (v := .int (nI q)) hx hb hown hE hK hP 0 rfl rfl layM 46 (by decide) w463 rfl d_M_next_1 ?_
      refine lv_aload_n hx hb d_M_next_4 rfl (lv_at hl 0 rfl) ?_
      refine gF (v := .int (nI x.length)) hx hb hown hE hK hP 0 rfl rfl layM 2 (by decide) w320 rfl d_M_next_5 ?_
      refine lv_icmp_ge hx hb d_M_next_8 (tgt := 38) rfl (fun g3 => ?_) (fun g3 => ?_)
      · have g3 := (nI_leI (a := x.length) (b := q) (by omega) (by omega)).mp g3
        have e9 : (MS.s_too x q : MS) = MS.s_too x d := by rw [show d = q from (hp.symm.trans (i1.symm.trans (skG_n (Or.inl g3))))] <;> rfl
        exact J38  H _ ls (cvP e9 hP) (cvD e9 hD) hS (lv_sub hl [0] rfl)
      · have g3 := mt (nI_leI (a := x.length) (b := q) (by omega) (by omega)).mpr g3
        refine lv_aload_n hx hb d_M_next_11 rfl (lv_at hl 0 rfl) ?_
        refine gF (v := .ref (ad 1)) hx hb hown hE hK hP 0 rfl rfl layM 1 (by decide) w497 rfl d_M_next_12 ?_
        refine lv_aload_n hx hb d_M_next_15 rfl (lv_at hl 0 rfl) ?_
        refine gF (v := .int (nI q)) hx hb hown hE hK hP 0 rfl rfl layM 46 (by decide) w463 rfl d_M_next_16 ?_
        refine nbld (f := x.tape) hx hb hK hP 1 0 rfl rfl (q) (by omega) (by decide) d_M_next_19 ?_
        refine lv_bipush (v := 32) hx hb d_M_next_20 (by decide) ?_
        refine lv_icmp_ne hx hb d_M_next_22 (tgt := 38) rfl (fun g4 => ?_) (fun g4 => ?_)
        · have g4 := g4
          have e9 : (MS.s_too x q : MS) = MS.s_too x d := by rw [show d = q from (hp.symm.trans (i1.symm.trans (skG_n (Or.inr g4))))] <;> rfl
          exact J38  H _ ls (cvP e9 hP) (cvD e9 hD) hS (lv_sub hl [0] rfl)
        · have g4 := g4
          refine lv_aload_n hx hb d_M_next_25 rfl (lv_at hl 0 rfl) ?_
          refine lv_dup hx hb d_M_next_26 rfl ?_
          refine gF (v := .int (nI q)) hx hb hown hE hK hP 0 rfl rfl layM 46 (by decide) w463 rfl d_M_next_27 ?_
          refine lv_iconst (v := 1) hx hb d_M_next_30 (by decide) ?_
          refine lv_iadd hx hb d_M_next_31 (tpi (y := nI (q + 1)) (nI_add (q) (1)) ?_)
          refine pF (v := .int (nI (q + 1))) hx hb hown hE hK hP hD hS 0 rfl rfl layM tyM tokM nmM 46 (by decide) w463 rfl rfl rfl (Nat.le_of_ble_eq_true rfl) d_M_next_32 (fun H locs hP hD hS => ?_)
          have hP : va_P D vwCl (MW dA h ad (MS.s_too x (q + 1))) H := hP
          have hD : va_D A (MW dA h ad (MS.s_too x (q + 1))) := hD
          refine lv_goto hx hb d_M_next_35 (tgt := 0) rfl ?_
          exact ih0 _ (by omega) (q + 1) (by rw [← i1, skG_t (w := x.length + 1 - q) (by omega) g3 g4, show x.length + 1 - q - 1 = x.length + 1 - (q + 1) by omega]) (by omega) rfl H _ ls hP hD hS (lv_sub hl [0] rfl)
  exact L0 _ x.too rfl ht rfl H _ ls hP hD hS (lv_sub hl [0] rfl)
theorem d_M_next_74 : decode prog_14_method_57_code 74 = .ok (.iload_n 1, 1) := by decide +kernel
theorem d_M_next_75 : decode prog_14_method_57_code 75 = .ok (.invokestatic 354, 3) := by decide +kernel
theorem d_M_next_78 : decode prog_14_method_57_code 78 = .ok (.ifCond .eq 8, 3) := by decide +kernel
theorem d_M_next_81 : decode prog_14_method_57_code 81 = .ok (.aload_n 0, 1) := by decide +kernel
theorem d_M_next_82 : decode prog_14_method_57_code 82 = .ok (.invokevirtual 357, 3) := by decide +kernel
theorem d_M_next_85 : decode prog_14_method_57_code 85 = .ok (.ireturn, 1) := by decide +kernel
theorem w959 : Cond.methodLink "SeriesVaultModel" 357 ⟨"SeriesVaultModel", "readNumber", "()Z"⟩ ∈ aW := aw_of (tb_10 (List.mem_of_getElem? (i := 168) rfl)) rfl
theorem w960 : Cond.code ⟨"SeriesVaultModel", "readNumber", "()Z"⟩ prog_14_method_58_code 3 (some FieldType.boolean) ∈ aW := aw_of (tb_10 (List.mem_of_getElem? (i := 171) rfl)) rfl
theorem w961 : Cond.instanceMethod ⟨"SeriesVaultModel", "readNumber", "()Z"⟩ ∈ aW := aw_of (tb_10 (List.mem_of_getElem? (i := 170) rfl)) rfl
theorem w962 : Cond.selects "SeriesVaultModel" ⟨"SeriesVaultModel", "readNumber", "()Z"⟩ ⟨"SeriesVaultModel", "readNumber", "()Z"⟩ ∈ aW := aw_pr (List.mem_map.mpr ⟨_, pv_7 (List.mem_of_getElem? (i := 1) rfl), rfl⟩) rfl
set_option maxHeartbeats 4000000 in
set_option maxRecDepth 100000 in
theorem k_next_n (l : Launch) (D : va_G) (dA : Nat → ClassId) (sz : Nat) (h : Nat) (ad : Nat → Nat) (x : MS) (d : Nat) (b : Nat) (k : Int64) (hl1 : x.length ≤ 65536) (ht : x.too ≤ x.length) (hp : skG x.tape x.length (x.length + 1 - x.too) x.too = d) (hk : d < x.length) (hdg : isDg (x.atN d) = true) (hg : numG x.tape x.length (x.length + 1 - d) d true 0 = (b, true, k)) : Met l ⟨"SeriesVaultModel", "next", "()Z"⟩ [Cond.code ⟨"SeriesVaultModel", "next", "()Z"⟩ prog_14_method_57_code 2 (some FieldType.boolean)] { frames := 3, cells := 0, slots := 0, locals := 46 } (pC D dA [.ref h] (MW dA h ad x) sz) (va_Qi (fun (r9 : Int32) (u9 : MS) => r9 = bI true ∧ u9 = (((x.s_frm d).s_kind 1).s_too b).s_amount k) (fun (u9 : MS) t9 => bW D (va_A (MW dA h ad x) sz) (MW dA h ad u9) t9) (va_A (MW dA h ad x) sz)) 0 0 (va_A (MW dA h ad x) sz) := by
  refine mkC (y := ⟨"SeriesVaultModel", "next", "()Z"⟩) (cc := prog_14_method_57_code) (maxL := 2) (av := [.ref h]) (ws := MW dA h ad x) (sz := sz) (Qc := fun A => va_Qi (fun (r9 : Int32) (u9 : MS) => r9 = bI true ∧ u9 = (((x.s_frm d).s_kind 1).s_too b).s_amount k) (fun (u9 : MS) t9 => bW D A (MW dA h ad u9) t9) A) (by decide) (Nat.le_of_ble_eq_true rfl) ?_
  intro A p e s m below meth c ls hsz hB
  obtain ⟨hx, hb, hr, hml, hown, hin, hlk, hE, hK, hP, hD, hS, hA, hN, hl⟩ := hB
  have hown : s.vm.findClass "SeriesVaultModel" = some m.cls := hown
  have hl : lv_has ls 2 [(0, .ref h)] := hl
  obtain ⟨H, hH⟩ : ∃ z, z = s.heap := ⟨_, rfl⟩
  have hP : va_P D vwCl (MW dA h ad x) H := by rw [hH]; exact hP
  have hS : va_S A s.heap H [] := by rw [hH]; exact hS
  rw [← hH]
  have J38 : ∀ (H : Heap) (locs : List Loc) (ls : Array Slot) (hP : va_P D vwCl (MW dA h ad (MS.s_too x d)) H) (hD : va_D A (MW dA h ad (MS.s_too x d))) (hS : va_S A s.heap H locs) (hl : lv_has ls 2 [(0, .ref h)]), W p l e ({ frames := 3, cells := 0, slots := 0, locals := 46 } : Room) s m ([.ref h] : List Value).toArray below meth c H locs 0 0 (MQ below (va_Qi (fun (r9 : Int32) (u9 : MS) => r9 = bI true ∧ u9 = (((x.s_frm d).s_kind 1).s_too b).s_amount k) (fun (u9 : MS) t9 => bW D A (MW dA h ad u9) t9) A) ([.ref h] : List Value).toArray s 0 0 A) (F0 m 38 ls []) := by
    intro  H locs ls hP hD hS hl
    have d1 : d ≤ x.length := by rw [← hp]; exact skG_le ht
    refine lv_aload_n hx hb d_M_next_38 rfl (lv_at hl 0 rfl) ?_
    refine lv_aload_n hx hb d_M_next_39 rfl (lv_at hl 0 rfl) ?_
    refine gF (v := .int (nI d)) hx hb hown hE hK hP 0 rfl rfl layM 46 (by decide) w463 rfl d_M_next_40 ?_
    refine pF (v := .int (nI d)) hx hb hown hE hK hP hD hS 0 rfl rfl layM tyM tokM nmM 45 (by decide) w464 rfl rfl rfl (Nat.le_of_ble_eq_true rfl) d_M_next_43 (fun H locs hP hD hS => ?_)
    have hP : va_P D vwCl (MW dA h ad (MS.s_too (MS.s_frm x d) d)) H := hP
    have hD : va_D A (MW dA h ad (MS.s_too (MS.s_frm x d) d)) := hD
    refine lv_aload_n hx hb d_M_next_46 rfl (lv_at hl 0 rfl) ?_
    refine lv_aload_n hx hb d_M_next_47 rfl (lv_at hl 0 rfl) ?_
    refine gF (v := .int (nI d)) hx hb hown hE hK hP 0 rfl rfl layM 45 (by decide) w464 rfl d_M_next_48 ?_
    refine jfI (rnV (As := [.int (nI d)]) (rest := []) hx hb hml hown hE hK (hN _ _ hS) hP hD (k_at l D dA H.size h ad (MS.s_too (MS.s_frm x d) d) d (show d < 2 ^ 31 from by omega) (show x.length ≤ 65536 from by omega)) (q0 := 0) rfl rfl w466 w465 w467 w468 w328 rfl rfl ⟨⟨by decide, by decide⟩, rfl⟩ ⟨(Nat.le_of_ble_eq_true rfl), (Nat.le_of_ble_eq_true rfl)⟩ rfl hl.1 rfl (Nat.le_of_ble_eq_true rfl) d_M_next_51 ⟨(Nat.le_of_ble_eq_true rfl), (Nat.le_of_ble_eq_true rfl)⟩) hP hD hS hA (fun r1 u2 H locs hp9 hP hD hS => ?_)
    have hP : va_P D vwCl (MW dA h ad (MS.s_too (MS.s_frm x d) d)) H := hP
    have hD : va_D A (MW dA h ad (MS.s_too (MS.s_frm x d) d)) := hD
    replace hp9 : x.atN d = r1 := Eq.symm hp9
    subst hp9
    refine lv_istore_n hx hb d_M_next_54 rfl hl (by decide) rfl (fun ls hl => ?_)
    have hl : lv_has ls 2 [(1, .int (x.atN d)), (0, .ref h)] := hl
    refine lv_aload_n hx hb d_M_next_55 rfl (lv_at hl 1 rfl) ?_
    refine gF (v := .int (nI d)) hx hb hown hE hK hP 0 rfl rfl layM 45 (by decide) w464 rfl d_M_next_56 ?_
    refine lv_aload_n hx hb d_M_next_59 rfl (lv_at hl 1 rfl) ?_
    refine gF (v := .int (nI x.length)) hx hb hown hE hK hP 0 rfl rfl layM 2 (by decide) w320 rfl d_M_next_60 ?_
    refine lv_icmp_lt hx hb d_M_next_63 (tgt := 74) rfl (fun _ => ?_) (fun h9 => absurd ((nI_ltI (a := d) (b := x.length) (by omega) (by omega)).mpr hk) h9)
    refine lv_iload_n hx hb d_M_next_74 rfl (lv_at hl 0 rfl) ?_
    have hPc := hP.sub (ws' := []) [] rfl
    have hDc := hD.sub (ws' := []) [] (by decide) rfl
    refine jnI (rnS (As := [.int (x.atN d)]) (rest := []) hx hb hml hown hE hK (hN _ _ hS) hPc hDc (k_isDigit l D dA H.size (x.atN d)) w955 w954 w956 w328 rfl rfl ⟨⟨by decide, by decide⟩, rfl⟩ ⟨(Nat.le_of_ble_eq_true rfl), (Nat.le_of_ble_eq_true rfl)⟩ rfl hl.1 rfl (Nat.le_of_ble_eq_true rfl) d_M_next_75 ⟨(Nat.le_of_ble_eq_true rfl), (Nat.le_of_ble_eq_true rfl)⟩) hP hD hS hA [] [0, 1, 2, 3, 4, 5, 6, 7, 8, 9, 10, 11, 12, 13, 14, 15, 16, 17, 18, 19, 20, 21, 22, 23, 24, 25, 26, 27, 28, 29, 30, 31, 32, 33, 34, 35, 36, 37, 38] (wr := MW dA h ad (MS.s_too (MS.s_frm x d) d)) rfl rfl (by decide) (by decide) (fun r3 u9 H locs hp9 hP hD hS => ?_)
    have hP : va_P D vwCl (MW dA h ad (MS.s_too (MS.s_frm x d) d)) H := hP
    have hD : va_D A (MW dA h ad (MS.s_too (MS.s_frm x d) d)) := hD
    replace hp9 : bI (isDg (x.atN d)) = r3 := Eq.symm hp9
    subst hp9
    refine lv_if_eq hx hb d_M_next_78 (tgt := 86) rfl (fun h9 => absurd h9 (by rw [hdg]; decide)) (fun _ => ?_)
    refine lv_aload_n hx hb d_M_next_81 rfl (lv_at hl 1 rfl) ?_
    refine jfI (rnV (As := []) (rest := []) hx hb hml hown hE hK (hN _ _ hS) hP hD (k_readNumber_0 l D dA H.size h ad (MS.s_too (MS.s_frm x d) d) b k (show x.length ≤ 65536 from by omega) (show d ≤ x.length from by omega) hg) (q0 := 0) rfl rfl w960 w959 w961 w962 w328 rfl rfl ⟨⟨by decide, by decide⟩, rfl⟩ ⟨(Nat.le_of_ble_eq_true rfl), (Nat.le_of_ble_eq_true rfl)⟩ rfl hl.1 rfl (Nat.le_of_ble_eq_true rfl) d_M_next_82 ⟨(Nat.le_of_ble_eq_true rfl), (Nat.le_of_ble_eq_true rfl)⟩) hP hD hS hA (fun r5 u6 H locs hp9 hP hD hS => ?_)
    obtain ⟨y7, h9u⟩ : ∃ z9, z9 = u6 := ⟨_, rfl⟩
    subst h9u
    have hP : va_P D vwCl (MW dA h ad y7) H := hP
    have hD : va_D A (MW dA h ad y7) := hD
    obtain ⟨hp9, f_e_8⟩ := hp9
    replace hp9 : bI true = r5 := Eq.symm hp9
    subst hp9
    exact rfZ hx hb hr (bI_nar true) hlk hS y7 ⟨rfl, f_e_8⟩ hP hD (Nat.le_of_ble_eq_true rfl) (Nat.le_of_ble_eq_true rfl) d_M_next_85
  have L0 : ∀ (k9 : Nat) (q : Nat) (i1 : skG x.tape x.length (x.length + 1 - q) q = skG x.tape x.length (x.length + 1 - x.too) x.too) (i2 : q ≤ x.length) (hk9 : x.length + 1 - q = k9), ∀ (H : Heap) (locs : List Loc) (ls : Array Slot) (hP : va_P D vwCl (MW dA h ad (MS.s_too x q)) H) (hD : va_D A (MW dA h ad (MS.s_too x q))) (hS : va_S A s.heap H locs) (hl : lv_has ls 2 [(0, .ref h)]), W p l e ({ frames := 3, cells := 0, slots := 0, locals := 46 } : Room) s m ([.ref h] : List Value).toArray below meth c H locs 0 0 (MQ below (va_Qi (fun (r9 : Int32) (u9 : MS) => r9 = bI true ∧ u9 = (((x.s_frm d).s_kind 1).s_too b).s_amount k) (fun (u9 : MS) t9 => bW D A (MW dA h ad u9) t9) A) ([.ref h] : List Value).toArray s 0 0 A) (F0 m 0 ls []) := by
    intro k9
    induction k9 using Nat.strongRecOn with
    | ind k9 ih0 =>
      intro q i1 i2 hk9 H locs ls hP hD hS hl
      refine lv_aload_n hx hb d_M_next_0 rfl (lv_at hl 0 rfl) ?_
      refine gF (v := .int (nI q)) hx hb hown hE hK hP 0 rfl rfl layM 46 (by decide) w463 rfl d_M_next_1 ?_
      refine lv_aload_n hx hb d_M_next_4 rfl (lv_at hl 0 rfl) ?_
      refine gF (v := .int (nI x.length)) hx hb hown hE hK hP 0 rfl rfl layM 2 (by decide) w320 rfl d_M_next_5 ?_
      refine lv_icmp_ge hx hb d_M_next_8 (tgt := 38) rfl (fun g9 => ?_) (fun g9 => ?_)
      · have g9 := (nI_leI (a := x.length) (b := q) (by omega) (by omega)).mp g9
        have e9 : (MS.s_too x q : MS) = MS.s_too x d := by rw [show d = q from (hp.symm.trans (i1.symm.trans (skG_n (Or.inl g9))))] <;> rfl
        exact J38  H _ ls (cvP e9 hP) (cvD e9 hD) hS (lv_sub hl [0] rfl)
      · have g9 := mt (nI_leI (a := x.length) (b := q) (by omega) (by omega)).mpr g9
        refine lv_aload_n hx hb d_M_next_11 rfl (lv_at hl 0 rfl) ?_
        refine gF (v := .ref (ad 1)) hx hb hown hE hK hP 0 rfl rfl layM 1 (by decide) w497 rfl d_M_next_12 ?_
        refine lv_aload_n hx hb d_M_next_15 rfl (lv_at hl 0 rfl) ?_
        refine gF (v := .int (nI q)) hx hb hown hE hK hP 0 rfl rfl layM 46 (by decide) w463 rfl d_M_next_16 ?_
        refine nbld (f := x.tape) hx hb hK hP 1 0 rfl rfl (q) (by omega) (by decide) d_M_next_19 ?_
        refine lv_bipush (v := 32) hx hb d_M_next_20 (by decide) ?_
        refine lv_icmp_ne hx hb d_M_next_22 (tgt := 38) rfl (fun g10 => ?_) (fun g10 => ?_)
        · have g10 := g10
          have e9 : (MS.s_too x q : MS) = MS.s_too x d := by rw [show d = q from (hp.symm.trans (i1.symm.trans (skG_n (Or.inr g10))))] <;> rfl
          exact J38  H _ ls (cvP e9 hP) (cvD e9 hD) hS (lv_sub hl [0] rfl)
        · have g10 := g10
          refine lv_aload_n hx hb d_M_next_25 rfl (lv_at hl 0 rfl) ?_
          refine lv_dup hx hb d_M_next_26 rfl ?_
          refine gF (v := .int (nI q)) hx hb hown hE hK hP 0 rfl rfl layM 46 (by decide) w463 rfl d_M_next_27 ?_
          refine lv_iconst (v := 1) hx hb d_M_next_30 (by decide) ?_
          refine lv_iadd hx hb d_M_next_31 (tpi (y := nI (q + 1)) (nI_add (q) (1)) ?_)
          refine pF (v := .int (nI (q + 1))) hx hb hown hE hK hP hD hS 0 rfl rfl layM tyM tokM nmM 46 (by decide) w463 rfl rfl rfl (Nat.le_of_ble_eq_true rfl) d_M_next_32 (fun H locs hP hD hS => ?_)
          have hP : va_P D vwCl (MW dA h ad (MS.s_too x (q + 1))) H := hP
          have hD : va_D A (MW dA h ad (MS.s_too x (q + 1))) := hD
          refine lv_goto hx hb d_M_next_35 (tgt := 0) rfl ?_
          exact ih0 _ (by omega) (q + 1) (by rw [← i1, skG_t (w := x.length + 1 - q) (by omega) g9 g10, show x.length + 1 - q - 1 = x.length + 1 - (q + 1) by omega]) (by omega) rfl H _ ls hP hD hS (lv_sub hl [0] rfl)
  exact L0 _ x.too rfl ht rfl H _ ls hP hD hS (lv_sub hl [0] rfl)
set_option maxHeartbeats 4000000 in
set_option maxRecDepth 100000 in
theorem k_next_nx (l : Launch) (D : va_G) (dA : Nat → ClassId) (sz : Nat) (h : Nat) (ad : Nat → Nat) (x : MS) (d : Nat) (b : Nat) (k : Int64) (hl1 : x.length ≤ 65536) (ht : x.too ≤ x.length) (hp : skG x.tape x.length (x.length + 1 - x.too) x.too = d) (hk : d < x.length) (hdg : isDg (x.atN d) = true) (hg : numG x.tape x.length (x.length + 1 - d) d true 0 = (b, false, k)) (hf : x.faultCode = 0) : Met l ⟨"SeriesVaultModel", "next", "()Z"⟩ [Cond.code ⟨"SeriesVaultModel", "next", "()Z"⟩ prog_14_method_57_code 2 (some FieldType.boolean)] { frames := 3, cells := 0, slots := 0, locals := 46 } (pC D dA [.ref h] (MW dA h ad x) sz) (va_Qi (fun (r9 : Int32) (u9 : MS) => r9 = bI false ∧ u9 = (((((x.s_frm d).s_kind 1).s_too b).s_amount k).s_faultCode 1).s_faultPlace (nI d)) (fun (u9 : MS) t9 => bW D (va_A (MW dA h ad x) sz) (MW dA h ad u9) t9) (va_A (MW dA h ad x) sz)) 0 0 (va_A (MW dA h ad x) sz) := by
  refine mkC (y := ⟨"SeriesVaultModel", "next", "()Z"⟩) (cc := prog_14_method_57_code) (maxL := 2) (av := [.ref h]) (ws := MW dA h ad x) (sz := sz) (Qc := fun A => va_Qi (fun (r9 : Int32) (u9 : MS) => r9 = bI false ∧ u9 = (((((x.s_frm d).s_kind 1).s_too b).s_amount k).s_faultCode 1).s_faultPlace (nI d)) (fun (u9 : MS) t9 => bW D A (MW dA h ad u9) t9) A) (by decide) (Nat.le_of_ble_eq_true rfl) ?_
  intro A p e s m below meth c ls hsz hB
  obtain ⟨hx, hb, hr, hml, hown, hin, hlk, hE, hK, hP, hD, hS, hA, hN, hl⟩ := hB
  have hown : s.vm.findClass "SeriesVaultModel" = some m.cls := hown
  have hl : lv_has ls 2 [(0, .ref h)] := hl
  obtain ⟨H, hH⟩ : ∃ z, z = s.heap := ⟨_, rfl⟩
  have hP : va_P D vwCl (MW dA h ad x) H := by rw [hH]; exact hP
  have hS : va_S A s.heap H [] := by rw [hH]; exact hS
  rw [← hH]
  have J38 : ∀ (H : Heap) (locs : List Loc) (ls : Array Slot) (hP : va_P D vwCl (MW dA h ad (MS.s_too x d)) H) (hD : va_D A (MW dA h ad (MS.s_too x d))) (hS : va_S A s.heap H locs) (hl : lv_has ls 2 [(0, .ref h)]), W p l e ({ frames := 3, cells := 0, slots := 0, locals := 46 } : Room) s m ([.ref h] : List Value).toArray below meth c H locs 0 0 (MQ below (va_Qi (fun (r9 : Int32) (u9 : MS) => r9 = bI false ∧ u9 = (((((x.s_frm d).s_kind 1).s_too b).s_amount k).s_faultCode 1).s_faultPlace (nI d)) (fun (u9 : MS) t9 => bW D A (MW dA h ad u9) t9) A) ([.ref h] : List Value).toArray s 0 0 A) (F0 m 38 ls []) := by
    intro  H locs ls hP hD hS hl
    have d1 : d ≤ x.length := by rw [← hp]; exact skG_le ht
    refine lv_aload_n hx hb d_M_next_38 rfl (lv_at hl 0 rfl) ?_
    refine lv_aload_n hx hb d_M_next_39 rfl (lv_at hl 0 rfl) ?_
    refine gF (v := .int (nI d)) hx hb hown hE hK hP 0 rfl rfl layM 46 (by decide) w463 rfl d_M_next_40 ?_
    refine pF (v := .int (nI d)) hx hb hown hE hK hP hD hS 0 rfl rfl layM tyM tokM nmM 45 (by decide) w464 rfl rfl rfl (Nat.le_of_ble_eq_true rfl) d_M_next_43 (fun H locs hP hD hS => ?_)
    have hP : va_P D vwCl (MW dA h ad (MS.s_too (MS.s_frm x d) d)) H := hP
    have hD : va_D A (MW dA h ad (MS.s_too (MS.s_frm x d) d)) := hD
    refine lv_aload_n hx hb d_M_next_46 rfl (lv_at hl 0 rfl) ?_
    refine lv_aload_n hx hb d_M_next_47 rfl (lv_at hl 0 rfl) ?_
    refine gF (v := .int (nI d)) hx hb hown hE hK hP 0 rfl rfl layM 45 (by decide) w464 rfl d_M_next_48 ?_
    refine jfI (rnV (As := [.int (nI d)]) (rest := []) hx hb hml hown hE hK (hN _ _ hS) hP hD (k_at l D dA H.size h ad (MS.s_too (MS.s_frm x d) d) d (show d < 2 ^ 31 from by omega) (show x.length ≤ 65536 from by omega)) (q0 := 0) rfl rfl w466 w465 w467 w468 w328 rfl rfl ⟨⟨by decide, by decide⟩, rfl⟩ ⟨(Nat.le_of_ble_eq_true rfl), (Nat.le_of_ble_eq_true rfl)⟩ rfl hl.1 rfl (Nat.le_of_ble_eq_true rfl) d_M_next_51 ⟨(Nat.le_of_ble_eq_true rfl), (Nat.le_of_ble_eq_true rfl)⟩) hP hD hS hA (fun r1 u2 H locs hp9 hP hD hS => ?_)
    have hP : va_P D vwCl (MW dA h ad (MS.s_too (MS.s_frm x d) d)) H := hP
    have hD : va_D A (MW dA h ad (MS.s_too (MS.s_frm x d) d)) := hD
    replace hp9 : x.atN d = r1 := Eq.symm hp9
    subst hp9
    refine lv_istore_n hx hb d_M_next_54 rfl hl (by decide) rfl (fun ls hl => ?_)
    have hl : lv_has ls 2 [(1, .int (x.atN d)), (0, .ref h)] := hl
    refine lv_aload_n hx hb d_M_next_55 rfl (lv_at hl 1 rfl) ?_
    refine gF (v := .int (nI d)) hx hb hown hE hK hP 0 rfl rfl layM 45 (by decide) w464 rfl d_M_next_56 ?_
    refine lv_aload_n hx hb d_M_next_59 rfl (lv_at hl 1 rfl) ?_
    refine gF (v := .int (nI x.length)) hx hb hown hE hK hP 0 rfl rfl layM 2 (by decide) w320 rfl d_M_next_60 ?_
    refine lv_icmp_lt hx hb d_M_next_63 (tgt := 74) rfl (fun _ => ?_) (fun h9 => absurd ((nI_ltI (a := d) (b := x.length) (by omega) (by omega)).mpr hk) h9)
    refine lv_iload_n hx hb d_M_next_74 rfl (lv_at hl 0 rfl) ?_
    have hPc := hP.sub (ws' := []) [] rfl
    have hDc := hD.sub (ws' := []) [] (by decide) rfl
    refine jnI (rnS (As := [.int (x.atN d)]) (rest := []) hx hb hml hown hE hK (hN _ _ hS) hPc hDc (k_isDigit l D dA H.size (x.atN d)) w955 w954 w956 w328 rfl rfl ⟨⟨by decide, by decide⟩, rfl⟩ ⟨(Nat.le_of_ble_eq_true rfl), (Nat.le_of_ble_eq_true rfl)⟩ rfl hl.1 rfl (Nat.le_of_ble_eq_true rfl) d_M_next_75 ⟨(Nat.le_of_ble_eq_true rfl), (Nat.le_of_ble_eq_true rfl)⟩) hP hD hS hA [] [0, 1, 2, 3, 4, 5, 6, 7, 8, 9, 10, 11, 12, 13, 14, 15, 16, 17, 18, 19, 20, 21, 22, 23, 24, 25, 26, 27, 28, 29, 30, 31, 32, 33, 34, 35, 36, 37, 38] (wr := MW dA h ad (MS.s_too (MS.s_frm x d) d)) rfl rfl (by decide) (by decide) (fun r3 u9 H locs hp9 hP hD hS => ?_)
    have hP : va_P D vwCl (MW dA h ad (MS.s_too (MS.s_frm x d) d)) H := hP
    have hD : va_D A (MW dA h ad (MS.s_too (MS.s_frm x d) d)) := hD
    replace hp9 : bI (isDg (x.atN d)) = r3 := Eq.symm hp9
    subst hp9
    refine lv_if_eq hx hb d_M_next_78 (tgt := 86) rfl (fun h9 => absurd h9 (by rw [hdg]; decide)) (fun _ => ?_)
    refine lv_aload_n hx hb d_M_next_81 rfl (lv_at hl 1 rfl) ?_
    refine jfI (rnV (As := []) (rest := []) hx hb hml hown hE hK (hN _ _ hS) hP hD (k_readNumber_x l D dA H.size h ad (MS.s_too (MS.s_frm x d) d) b k (show x.length ≤ 65536 from by omega) (show d ≤ x.length from by omega) hg hf) (q0 := 0) rfl rfl w960 w959 w961 w962 w328 rfl rfl ⟨⟨by decide, by decide⟩, rfl⟩ ⟨(Nat.le_of_ble_eq_true rfl), (Nat.le_of_ble_eq_true rfl)⟩ rfl hl.1 rfl (Nat.le_of_ble_eq_true rfl) d_M_next_82 ⟨(Nat.le_of_ble_eq_true rfl), (Nat.le_of_ble_eq_true rfl)⟩) hP hD hS hA (fun r5 u6 H locs hp9 hP hD hS => ?_)
    obtain ⟨y7, h9u⟩ : ∃ z9, z9 = u6 := ⟨_, rfl⟩
    subst h9u
    have hP : va_P D vwCl (MW dA h ad y7) H := hP
    have hD : va_D A (MW dA h ad y7) := hD
    obtain ⟨hp9, f_e_8⟩ := hp9
    replace hp9 : bI false = r5 := Eq.symm hp9
    subst hp9
    exact rfZ hx hb hr (bI_nar false) hlk hS y7 ⟨rfl, f_e_8⟩ hP hD (Nat.le_of_ble_eq_true rfl) (Nat.le_of_ble_eq_true rfl) d_M_next_85
  have L0 : ∀ (k9 : Nat) (q : Nat) (i1 : skG x.tape x.length (x.length + 1 - q) q = skG x.tape x.length (x.length + 1 - x.too) x.too) (i2 : q ≤ x.length) (hk9 : x.length + 1 - q = k9), ∀ (H : Heap) (locs : List Loc) (ls : Array Slot) (hP : va_P D vwCl (MW dA h ad (MS.s_too x q)) H) (hD : va_D A (MW dA h ad (MS.s_too x q))) (hS : va_S A s.heap H locs) (hl : lv_has ls 2 [(0, .ref h)]), W p l e ({ frames := 3, cells := 0, slots := 0, locals := 46 } : Room) s m ([.ref h] : List Value).toArray below meth c H locs 0 0 (MQ below (va_Qi (fun (r9 : Int32) (u9 : MS) => r9 = bI false ∧ u9 = (((((x.s_frm d).s_kind 1).s_too b).s_amount k).s_faultCode 1).s_faultPlace (nI d)) (fun (u9 : MS) t9 => bW D A (MW dA h ad u9) t9) A) ([.ref h] : List Value).toArray s 0 0 A) (F0 m 0 ls []) := by
    intro k9
    induction k9 using Nat.strongRecOn with
    | ind k9 ih0 =>
      intro q i1 i2 hk9 H locs ls hP hD hS hl
      refine lv_aload_n hx hb d_M_next_0 rfl (lv_at hl 0 rfl) ?_
      refine gF (v := .int (nI q)) hx hb hown hE hK hP 0 rfl rfl layM 46 (by decide) w463 rfl d_M_next_1 ?_
      refine lv_aload_n hx hb d_M_next_4 rfl (lv_at hl 0 rfl) ?_
      refine gF (v := .int (nI x.length)) hx hb hown hE hK hP 0 rfl rfl layM 2 (by decide) w320 rfl d_M_next_5 ?_
      refine lv_icmp_ge hx hb d_M_next_8 (tgt := 38) rfl (fun g9 => ?_) (fun g9 => ?_)
      · have g9 := (nI_leI (a := x.length) (b := q) (by omega) (by omega)).mp g9
        have e9 : (MS.s_too x q : MS) = MS.s_too x d := by rw [show d = q from (hp.symm.trans (i1.symm.trans (skG_n (Or.inl g9))))] <;> rfl
        exact J38  H _ ls (cvP e9 hP) (cvD e9 hD) hS (lv_sub hl [0] rfl)
      · have g9 := mt (nI_leI (a := x.length) (b := q) (by omega) (by omega)).mpr g9
        refine lv_aload_n hx hb d_M_next_11 rfl (lv_at hl 0 rfl) ?_
        refine gF (v := .ref (ad 1)) hx hb hown hE hK hP 0 rfl rfl layM 1 (by decide) w497 rfl d_M_next_12 ?_
        refine lv_aload_n hx hb d_M_next_15 rfl (lv_at hl 0 rfl) ?_
        refine gF (v := .int (nI q)) hx hb hown hE hK hP 0 rfl rfl layM 46 (by decide) w463 rfl d_M_next_16 ?_
        refine nbld (f := x.tape) hx hb hK hP 1 0 rfl rfl (q) (by omega) (by decide) d_M_next_19 ?_
        refine lv_bipush (v := 32) hx hb d_M_next_20 (by decide) ?_
        refine lv_icmp_ne hx hb d_M_next_22 (tgt := 38) rfl (fun g10 => ?_) (fun g10 => ?_)
        · have g10 := g10
          have e9 : (MS.s_too x q : MS) = MS.s_too x d := by rw [show d = q from (hp.symm.trans (i1.symm.trans (skG_n (Or.inr g10))))] <;> rfl
          exact J38  H _ ls (cvP e9 hP) (cvD e9 hD) hS (lv_sub hl [0] rfl)
        · have g10 := g10
          refine lv_aload_n hx hb d_M_next_25 rfl (lv_at hl 0 rfl) ?_
          refine lv_dup hx hb d_M_next_26 rfl ?_
          refine gF (v := .int (nI q)) hx hb hown hE hK hP 0 rfl rfl layM 46 (by decide) w463 rfl d_M_next_27 ?_
          refine lv_iconst (v := 1) hx hb d_M_next_30 (by decide) ?_
          refine lv_iadd hx hb d_M_next_31 (tpi (y := nI (q + 1)) (nI_add (q) (1)) ?_)
          refine pF (v := .int (nI (q + 1))) hx hb hown hE hK hP hD hS 0 rfl rfl layM tyM tokM nmM 46 (by decide) w463 rfl rfl rfl (Nat.le_of_ble_eq_true rfl) d_M_next_32 (fun H locs hP hD hS => ?_)
          have hP : va_P D vwCl (MW dA h ad (MS.s_too x (q + 1))) H := hP
          have hD : va_D A (MW dA h ad (MS.s_too x (q + 1))) := hD
          refine lv_goto hx hb d_M_next_35 (tgt := 0) rfl ?_
          exact ih0 _ (by omega) (q + 1) (by rw [← i1, skG_t (w := x.length + 1 - q) (by omega) g9 g10, show x.length + 1 - q - 1 = x.length + 1 - (q + 1) by omega]) (by omega) rfl H _ ls hP hD hS (lv_sub hl [0] rfl)
  exact L0 _ x.too rfl ht rfl H _ ls hP hD hS (lv_sub hl [0] rfl)
theorem d_M_next_86 : decode prog_14_method_57_code 86 = .ok (.iload_n 1, 1) := by decide +kernel
theorem d_M_next_87 : decode prog_14_method_57_code 87 = .ok (.invokestatic 360, 3) := by decide +kernel
theorem d_M_next_90 : decode prog_14_method_57_code 90 = .ok (.ifCond .eq 49, 3) := by decide +kernel
theorem d_M_next_93 : decode prog_14_method_57_code 93 = .ok (.aload_n 0, 1) := by decide +kernel
theorem d_M_next_94 : decode prog_14_method_57_code 94 = .ok (.iconst 2, 1) := by decide +kernel
theorem d_M_next_95 : decode prog_14_method_57_code 95 = .ok (.putfield 351, 3) := by decide +kernel
theorem d_M_next_98 : decode prog_14_method_57_code 98 = .ok (.aload_n 0, 1) := by decide +kernel
theorem d_M_next_126 : decode prog_14_method_57_code 126 = .ok (.aload_n 0, 1) := by decide +kernel
theorem d_M_next_127 : decode prog_14_method_57_code 127 = .ok (.dup, 1) := by decide +kernel
theorem d_M_next_128 : decode prog_14_method_57_code 128 = .ok (.getfield 342, 3) := by decide +kernel
theorem d_M_next_131 : decode prog_14_method_57_code 131 = .ok (.iconst 1, 1) := by decide +kernel
theorem d_M_next_132 : decode prog_14_method_57_code 132 = .ok (.iadd, 1) := by decide +kernel
theorem d_M_next_133 : decode prog_14_method_57_code 133 = .ok (.putfield 342, 3) := by decide +kernel
theorem d_M_next_136 : decode prog_14_method_57_code 136 = .ok (.goto (-38), 3) := by decide +kernel
theorem d_M_next_99 : decode prog_14_method_57_code 99 = .ok (.aload_n 0, 1) := by decide +kernel
theorem d_M_next_100 : decode prog_14_method_57_code 100 = .ok (.getfield 342, 3) := by decide +kernel
theorem d_M_next_103 : decode prog_14_method_57_code 103 = .ok (.invokevirtual 348, 3) := by decide +kernel
theorem d_M_next_106 : decode prog_14_method_57_code 106 = .ok (.invokestatic 360, 3) := by decide +kernel
theorem d_M_next_109 : decode prog_14_method_57_code 109 = .ok (.ifCond .ne 17, 3) := by decide +kernel
theorem d_M_next_112 : decode prog_14_method_57_code 112 = .ok (.aload_n 0, 1) := by decide +kernel
theorem d_M_next_113 : decode prog_14_method_57_code 113 = .ok (.aload_n 0, 1) := by decide +kernel
theorem d_M_next_114 : decode prog_14_method_57_code 114 = .ok (.getfield 342, 3) := by decide +kernel
theorem d_M_next_117 : decode prog_14_method_57_code 117 = .ok (.invokevirtual 348, 3) := by decide +kernel
theorem d_M_next_120 : decode prog_14_method_57_code 120 = .ok (.invokestatic 354, 3) := by decide +kernel
theorem d_M_next_123 : decode prog_14_method_57_code 123 = .ok (.ifCond .eq 152, 3) := by decide +kernel
theorem w963 : Cond.methodLink "SeriesVaultModel" 360 ⟨"SeriesVaultModel", "isLetter", "(I)Z"⟩ ∈ aW := aw_of (tb_10 (List.mem_of_getElem? (i := 174) rfl)) rfl
theorem w964 : Cond.code ⟨"SeriesVaultModel", "isLetter", "(I)Z"⟩ prog_14_method_55_code 1 (some FieldType.boolean) ∈ aW := aw_of (tb_10 (List.mem_of_getElem? (i := 176) rfl)) rfl
theorem w965 : Cond.static ⟨"SeriesVaultModel", "isLetter", "(I)Z"⟩ ∈ aW := aw_of (tb_10 (List.mem_of_getElem? (i := 175) rfl)) rfl
set_option maxHeartbeats 4000000 in
set_option maxRecDepth 100000 in
theorem k_next_i (l : Launch) (D : va_G) (dA : Nat → ClassId) (sz : Nat) (h : Nat) (ad : Nat → Nat) (x : MS) (d : Nat) (b : Nat) (hl1 : x.length ≤ 65536) (ht : x.too ≤ x.length) (hp : skG x.tape x.length (x.length + 1 - x.too) x.too = d) (hk : d < x.length) (hdg : isDg (x.atN d) = false) (hlt : isLt (x.atN d) = true) (hg : idG x.tape x.length (x.length + 1 - d) d = b) : Met l ⟨"SeriesVaultModel", "next", "()Z"⟩ [Cond.code ⟨"SeriesVaultModel", "next", "()Z"⟩ prog_14_method_57_code 2 (some FieldType.boolean)] { frames := 3, cells := 0, slots := 0, locals := 46 } (pC D dA [.ref h] (MW dA h ad x) sz) (va_Qi (fun (r9 : Int32) (u9 : Unit) => r9 = bI true) (fun (u9 : Unit) t9 => bW D (va_A (MW dA h ad x) sz) (MW dA h ad (MS.s_too (MS.s_frm (MS.s_kind x 2) d) b)) t9) (va_A (MW dA h ad x) sz)) 0 0 (va_A (MW dA h ad x) sz) := by
  refine mkC (y := ⟨"SeriesVaultModel", "next", "()Z"⟩) (cc := prog_14_method_57_code) (maxL := 2) (av := [.ref h]) (ws := MW dA h ad x) (sz := sz) (Qc := fun A => va_Qi (fun (r9 : Int32) (u9 : Unit) => r9 = bI true) (fun (u9 : Unit) t9 => bW D A (MW dA h ad (MS.s_too (MS.s_frm (MS.s_kind x 2) d) b)) t9) A) (by decide) (Nat.le_of_ble_eq_true rfl) ?_
  intro A p e s m below meth c ls hsz hB
  obtain ⟨hx, hb, hr, hml, hown, hin, hlk, hE, hK, hP, hD, hS, hA, hN, hl⟩ := hB
  have hown : s.vm.findClass "SeriesVaultModel" = some m.cls := hown
  have hl : lv_has ls 2 [(0, .ref h)] := hl
  obtain ⟨H, hH⟩ : ∃ z, z = s.heap := ⟨_, rfl⟩
  have hP : va_P D vwCl (MW dA h ad x) H := by rw [hH]; exact hP
  have hS : va_S A s.heap H [] := by rw [hH]; exact hS
  rw [← hH]
  have J38 : ∀ (H : Heap) (locs : List Loc) (ls : Array Slot) (hP : va_P D vwCl (MW dA h ad (MS.s_too x d)) H) (hD : va_D A (MW dA h ad (MS.s_too x d))) (hS : va_S A s.heap H locs) (hl : lv_has ls 2 [(0, .ref h)]), W p l e ({ frames := 3, cells := 0, slots := 0, locals := 46 } : Room) s m ([.ref h] : List Value).toArray below meth c H locs 0 0 (MQ below (va_Qi (fun (r9 : Int32) (u9 : Unit) => r9 = bI true) (fun (u9 : Unit) t9 => bW D A (MW dA h ad (MS.s_too (MS.s_frm (MS.s_kind x 2) d) b)) t9) A) ([.ref h] : List Value).toArray s 0 0 A) (F0 m 38 ls []) := by
    intro  H locs ls hP hD hS hl
    have d1 : d ≤ x.length := by rw [← hp]; exact skG_le ht
    refine lv_aload_n hx hb d_M_next_38 rfl (lv_at hl 0 rfl) ?_
    refine lv_aload_n hx hb d_M_next_39 rfl (lv_at hl 0 rfl) ?_
    refine gF (v := .int (nI d)) hx hb hown hE hK hP 0 rfl rfl layM 46 (by decide) w463 rfl d_M_next_40 ?_
    refine pF (v := .int (nI d)) hx hb hown hE hK hP hD hS 0 rfl rfl layM tyM tokM nmM 45 (by decide) w464 rfl rfl rfl (Nat.le_of_ble_eq_true rfl) d_M_next_43 (fun H locs hP hD hS => ?_)
    have hP : va_P D vwCl (MW dA h ad (MS.s_too (MS.s_frm x d) d)) H := hP
    have hD : va_D A (MW dA h ad (MS.s_too (MS.s_frm x d) d)) := hD
    refine lv_aload_n hx hb d_M_next_46 rfl (lv_at hl 0 rfl) ?_
    refine lv_aload_n hx hb d_M_next_47 rfl (lv_at hl 0 rfl) ?_
    refine gF (v := .int (nI d)) hx hb hown hE hK hP 0 rfl rfl layM 45 (by decide) w464 rfl d_M_next_48 ?_
    refine jfI (rnV (As := [.int (nI d)]) (rest := []) hx hb hml hown hE hK (hN _ _ hS) hP hD (k_at l D dA H.size h ad (MS.s_too (MS.s_frm x d) d) d (show d < 2 ^ 31 from by omega) (show x.length ≤ 65536 from by omega)) (q0 := 0) rfl rfl w466 w465 w467 w468 w328 rfl rfl ⟨⟨by decide, by decide⟩, rfl⟩ ⟨(Nat.le_of_ble_eq_true rfl), (Nat.le_of_ble_eq_true rfl)⟩ rfl hl.1 rfl (Nat.le_of_ble_eq_true rfl) d_M_next_51 ⟨(Nat.le_of_ble_eq_true rfl), (Nat.le_of_ble_eq_true rfl)⟩) hP hD hS hA (fun r1 u2 H locs hp9 hP hD hS => ?_)
    have hP : va_P D vwCl (MW dA h ad (MS.s_too (MS.s_frm x d) d)) H := hP
    have hD : va_D A (MW dA h ad (MS.s_too (MS.s_frm x d) d)) := hD
    replace hp9 : x.atN d = r1 := Eq.symm hp9
    subst hp9
    refine lv_istore_n hx hb d_M_next_54 rfl hl (by decide) rfl (fun ls hl => ?_)
    have hl : lv_has ls 2 [(1, .int (x.atN d)), (0, .ref h)] := hl
    refine lv_aload_n hx hb d_M_next_55 rfl (lv_at hl 1 rfl) ?_
    refine gF (v := .int (nI d)) hx hb hown hE hK hP 0 rfl rfl layM 45 (by decide) w464 rfl d_M_next_56 ?_
    refine lv_aload_n hx hb d_M_next_59 rfl (lv_at hl 1 rfl) ?_
    refine gF (v := .int (nI x.length)) hx hb hown hE hK hP 0 rfl rfl layM 2 (by decide) w320 rfl d_M_next_60 ?_
    refine lv_icmp_lt hx hb d_M_next_63 (tgt := 74) rfl (fun _ => ?_) (fun h9 => absurd ((nI_ltI (a := d) (b := x.length) (by omega) (by omega)).mpr hk) h9)
    refine lv_iload_n hx hb d_M_next_74 rfl (lv_at hl 0 rfl) ?_
    have hPc := hP.sub (ws' := []) [] rfl
    have hDc := hD.sub (ws' := []) [] (by decide) rfl
    refine jnI (rnS (As := [.int (x.atN d)]) (rest := []) hx hb hml hown hE hK (hN _ _ hS) hPc hDc (k_isDigit l D dA H.size (x.atN d)) w955 w954 w956 w328 rfl rfl ⟨⟨by decide, by decide⟩, rfl⟩ ⟨(Nat.le_of_ble_eq_true rfl), (Nat.le_of_ble_eq_true rfl)⟩ rfl hl.1 rfl (Nat.le_of_ble_eq_true rfl) d_M_next_75 ⟨(Nat.le_of_ble_eq_true rfl), (Nat.le_of_ble_eq_true rfl)⟩) hP hD hS hA [] [0, 1, 2, 3, 4, 5, 6, 7, 8, 9, 10, 11, 12, 13, 14, 15, 16, 17, 18, 19, 20, 21, 22, 23, 24, 25, 26, 27, 28, 29, 30, 31, 32, 33, 34, 35, 36, 37, 38] (wr := MW dA h ad (MS.s_too (MS.s_frm x d) d)) rfl rfl (by decide) (by decide) (fun r3 u9 H locs hp9 hP hD hS => ?_)
    have hP : va_P D vwCl (MW dA h ad (MS.s_too (MS.s_frm x d) d)) H := hP
    have hD : va_D A (MW dA h ad (MS.s_too (MS.s_frm x d) d)) := hD
    replace hp9 : bI (isDg (x.atN d)) = r3 := Eq.symm hp9
    subst hp9
    refine lv_if_eq hx hb d_M_next_78 (tgt := 86) rfl (fun _ => ?_) (fun h9 => absurd (by rw [hdg]; decide) h9)
    refine lv_iload_n hx hb d_M_next_86 rfl (lv_at hl 0 rfl) ?_
    have hPc := hP.sub (ws' := []) [] rfl
    have hDc := hD.sub (ws' := []) [] (by decide) rfl
    refine jnI (rnS (As := [.int (x.atN d)]) (rest := []) hx hb hml hown hE hK (hN _ _ hS) hPc hDc (k_isLetter l D dA H.size (x.atN d)) w964 w963 w965 w328 rfl rfl ⟨⟨by decide, by decide⟩, rfl⟩ ⟨(Nat.le_of_ble_eq_true rfl), (Nat.le_of_ble_eq_true rfl)⟩ rfl hl.1 rfl (Nat.le_of_ble_eq_true rfl) d_M_next_87 ⟨(Nat.le_of_ble_eq_true rfl), (Nat.le_of_ble_eq_true rfl)⟩) hP hD hS hA [] [0, 1, 2, 3, 4, 5, 6, 7, 8, 9, 10, 11, 12, 13, 14, 15, 16, 17, 18, 19, 20, 21, 22, 23, 24, 25, 26, 27, 28, 29, 30, 31, 32, 33, 34, 35, 36, 37, 38] (wr := MW dA h ad (MS.s_too (MS.s_frm x d) d)) rfl rfl (by decide) (by decide) (fun r5 u9 H locs hp9 hP hD hS => ?_)
    have hP : va_P D vwCl (MW dA h ad (MS.s_too (MS.s_frm x d) d)) H := hP
    have hD : va_D A (MW dA h ad (MS.s_too (MS.s_frm x d) d)) := hD
    replace hp9 : bI (isLt (x.atN d)) = r5 := Eq.symm hp9
    subst hp9
    refine lv_if_eq hx hb d_M_next_90 (tgt := 139) rfl (fun h9 => absurd h9 (by rw [hlt]; decide)) (fun _ => ?_)
    refine lv_aload_n hx hb d_M_next_93 rfl (lv_at hl 1 rfl) ?_
    refine lv_iconst (v := 2) hx hb d_M_next_94 (by decide) ?_
    refine pF (v := .int 2) hx hb hown hE hK hP hD hS 0 rfl rfl layM tyM tokM nmM 44 (by decide) w469 rfl rfl rfl (Nat.le_of_ble_eq_true rfl) d_M_next_95 (fun H locs hP hD hS => ?_)
    have hP : va_P D vwCl (MW dA h ad (MS.s_too (MS.s_frm (MS.s_kind x 2) d) d)) H := hP
    have hD : va_D A (MW dA h ad (MS.s_too (MS.s_frm (MS.s_kind x 2) d) d)) := hD
    have L98 : ∀ (k9 : Nat) (q : Nat) (i1 : idG x.tape x.length (x.length + 1 - q) q = b) (i2 : q ≤ x.length) (hk9 : x.length + 1 - q = k9), ∀ (H : Heap) (locs : List Loc) (ls : Array Slot) (hP : va_P D vwCl (MW dA h ad (MS.s_too (MS.s_frm (MS.s_kind x 2) d) q)) H) (hD : va_D A (MW dA h ad (MS.s_too (MS.s_frm (MS.s_kind x 2) d) q))) (hS : va_S A s.heap H locs) (hl : lv_has ls 2 [(0, .ref h)]), W p l e ({ frames := 3, cells := 0, slots := 0, locals := 46 } : Room) s m ([.ref h] : List Value).toArray below meth c H locs 0 0 (MQ below (va_Qi (fun (r9 : Int32) (u9 : Unit) => r9 = bI true) (fun (u9 : Unit) t9 => bW D A (MW dA h ad (MS.s_too (MS.s_frm (MS.s_kind x 2) d) b)) t9) A) ([.ref h] : List Value).toArray s 0 0 A) (F0 m 98 ls []) := by
      intro k9
      induction k9 using Nat.strongRecOn with
      | ind k9 ih98 =>
        intro q i1 i2 hk9 H locs ls hP hD hS hl
        refine lv_aload_n hx hb d_M_next_98 rfl (lv_at hl 0 rfl) ?_
        have J126 : ∀ (i3 : isNm (x.atN q) = true), ∀ (H : Heap) (locs : List Loc) (ls : Array Slot) (hP : va_P D vwCl (MW dA h ad (MS.s_too (MS.s_frm (MS.s_kind x 2) d) q)) H) (hD : va_D A (MW dA h ad (MS.s_too (MS.s_frm (MS.s_kind x 2) d) q))) (hS : va_S A s.heap H locs) (hl : lv_has ls 2 [(0, .ref h)]), W p l e ({ frames := 3, cells := 0, slots := 0, locals := 46 } : Room) s m ([.ref h] : List Value).toArray below meth c H locs 0 0 (MQ below (va_Qi (fun (r9 : Int32) (u9 : Unit) => r9 = bI true) (fun (u9 : Unit) t9 => bW D A (MW dA h ad (MS.s_too (MS.s_frm (MS.s_kind x 2) d) b)) t9) A) ([.ref h] : List Value).toArray s 0 0 A) (F0 m 126 ls []) := by
          intro i3 H locs ls hP hD hS hl
          have i4 := nm_at i3
          refine lv_aload_n hx hb d_M_next_126 rfl (lv_at hl 0 rfl) ?_
          refine lv_dup hx hb d_M_next_127 rfl ?_
          refine gF (v := .int (nI q)) hx hb hown hE hK hP 0 rfl rfl layM 46 (by decide) w463 rfl d_M_next_128 ?_
          refine lv_iconst (v := 1) hx hb d_M_next_131 (by decide) ?_
          refine lv_iadd hx hb d_M_next_132 (tpi (y := nI (q + 1)) (nI_add (q) (1)) ?_)
          refine pF (v := .int (nI (q + 1))) hx hb hown hE hK hP hD hS 0 rfl rfl layM tyM tokM nmM 46 (by decide) w463 rfl rfl rfl (Nat.le_of_ble_eq_true rfl) d_M_next_133 (fun H locs hP hD hS => ?_)
          have hP : va_P D vwCl (MW dA h ad (MS.s_too (MS.s_frm (MS.s_kind x 2) d) (q + 1))) H := hP
          have hD : va_D A (MW dA h ad (MS.s_too (MS.s_frm (MS.s_kind x 2) d) (q + 1))) := hD
          refine lv_goto hx hb d_M_next_136 (tgt := 98) rfl ?_
          exact ih98 _ (by omega) (q + 1) (by rw [← i1, idG_t (w := x.length + 1 - q) (by omega) i3, show x.length + 1 - q - 1 = x.length + 1 - (q + 1) by omega]) (by omega) rfl H _ ls hP hD hS (lv_sub hl [0] rfl)
        refine lv_aload_n hx hb d_M_next_99 rfl (lv_at hl 0 rfl) ?_
        refine gF (v := .int (nI q)) hx hb hown hE hK hP 0 rfl rfl layM 46 (by decide) w463 rfl d_M_next_100 ?_
        refine jfI (rnV (As := [.int (nI q)]) (rest := []) hx hb hml hown hE hK (hN _ _ hS) hP hD (k_at l D dA H.size h ad (MS.s_too (MS.s_frm (MS.s_kind x 2) d) q) q (show q < 2 ^ 31 from by omega) (show x.length ≤ 65536 from by omega)) (q0 := 0) rfl rfl w466 w465 w467 w468 w328 rfl rfl ⟨⟨by decide, by decide⟩, rfl⟩ ⟨(Nat.le_of_ble_eq_true rfl), (Nat.le_of_ble_eq_true rfl)⟩ rfl hl.1 rfl (Nat.le_of_ble_eq_true rfl) d_M_next_103 ⟨(Nat.le_of_ble_eq_true rfl), (Nat.le_of_ble_eq_true rfl)⟩) hP hD hS hA (fun r7 u8 H locs hp9 hP hD hS => ?_)
        have hP : va_P D vwCl (MW dA h ad (MS.s_too (MS.s_frm (MS.s_kind x 2) d) q)) H := hP
        have hD : va_D A (MW dA h ad (MS.s_too (MS.s_frm (MS.s_kind x 2) d) q)) := hD
        replace hp9 : x.atN q = r7 := Eq.symm hp9
        subst hp9
        have hPc := hP.sub (ws' := []) [] rfl
        have hDc := hD.sub (ws' := []) [] (by decide) rfl
        refine jnI (rnS (As := [.int (x.atN q)]) (rest := []) hx hb hml hown hE hK (hN _ _ hS) hPc hDc (k_isLetter l D dA H.size (x.atN q)) w964 w963 w965 w328 rfl rfl ⟨⟨by decide, by decide⟩, rfl⟩ ⟨(Nat.le_of_ble_eq_true rfl), (Nat.le_of_ble_eq_true rfl)⟩ rfl hl.1 rfl (Nat.le_of_ble_eq_true rfl) d_M_next_106 ⟨(Nat.le_of_ble_eq_true rfl), (Nat.le_of_ble_eq_true rfl)⟩) hP hD hS hA [] [0, 1, 2, 3, 4, 5, 6, 7, 8, 9, 10, 11, 12, 13, 14, 15, 16, 17, 18, 19, 20, 21, 22, 23, 24, 25, 26, 27, 28, 29, 30, 31, 32, 33, 34, 35, 36, 37, 38] (wr := MW dA h ad (MS.s_too (MS.s_frm (MS.s_kind x 2) d) q)) rfl rfl (by decide) (by decide) (fun r9 u9 H locs hp9 hP hD hS => ?_)
        have hP : va_P D vwCl (MW dA h ad (MS.s_too (MS.s_frm (MS.s_kind x 2) d) q)) H := hP
        have hD : va_D A (MW dA h ad (MS.s_too (MS.s_frm (MS.s_kind x 2) d) q)) := hD
        replace hp9 : bI (isLt (x.atN q)) = r9 := Eq.symm hp9
        subst hp9
        refine lv_if_ne hx hb d_M_next_109 (tgt := 126) rfl (fun g11 => ?_) (fun g11 => ?_)
        · have g11 := bI_n0 g11
          exact J126 (by show (isLt (x.atN q) || isDg (x.atN q)) = true; rw [g11]; rfl) H _ ls hP hD hS (lv_sub hl [0] rfl)
        · have g11 := bI_0 g11
          refine lv_aload_n hx hb d_M_next_112 rfl (lv_at hl 0 rfl) ?_
          refine lv_aload_n hx hb d_M_next_113 rfl (lv_at hl 0 rfl) ?_
          refine gF (v := .int (nI q)) hx hb hown hE hK hP 0 rfl rfl layM 46 (by decide) w463 rfl d_M_next_114 ?_
          refine jfI (rnV (As := [.int (nI q)]) (rest := []) hx hb hml hown hE hK (hN _ _ hS) hP hD (k_at l D dA H.size h ad (MS.s_too (MS.s_frm (MS.s_kind x 2) d) q) q (show q < 2 ^ 31 from by omega) (show x.length ≤ 65536 from by omega)) (q0 := 0) rfl rfl w466 w465 w467 w468 w328 rfl rfl ⟨⟨by decide, by decide⟩, rfl⟩ ⟨(Nat.le_of_ble_eq_true rfl), (Nat.le_of_ble_eq_true rfl)⟩ rfl hl.1 rfl (Nat.le_of_ble_eq_true rfl) d_M_next_117 ⟨(Nat.le_of_ble_eq_true rfl), (Nat.le_of_ble_eq_true rfl)⟩) hP hD hS hA (fun r12 u13 H locs hp9 hP hD hS => ?_)
          have hP : va_P D vwCl (MW dA h ad (MS.s_too (MS.s_frm (MS.s_kind x 2) d) q)) H := hP
          have hD : va_D A (MW dA h ad (MS.s_too (MS.s_frm (MS.s_kind x 2) d) q)) := hD
          replace hp9 : x.atN q = r12 := Eq.symm hp9
          subst hp9
          have hPc := hP.sub (ws' := []) [] rfl
          have hDc := hD.sub (ws' := []) [] (by decide) rfl
          refine jnI (rnS (As := [.int (x.atN q)]) (rest := []) hx hb hml hown hE hK (hN _ _ hS) hPc hDc (k_isDigit l D dA H.size (x.atN q)) w955 w954 w956 w328 rfl rfl ⟨⟨by decide, by decide⟩, rfl⟩ ⟨(Nat.le_of_ble_eq_true rfl), (Nat.le_of_ble_eq_true rfl)⟩ rfl hl.1 rfl (Nat.le_of_ble_eq_true rfl) d_M_next_120 ⟨(Nat.le_of_ble_eq_true rfl), (Nat.le_of_ble_eq_true rfl)⟩) hP hD hS hA [] [0, 1, 2, 3, 4, 5, 6, 7, 8, 9, 10, 11, 12, 13, 14, 15, 16, 17, 18, 19, 20, 21, 22, 23, 24, 25, 26, 27, 28, 29, 30, 31, 32, 33, 34, 35, 36, 37, 38] (wr := MW dA h ad (MS.s_too (MS.s_frm (MS.s_kind x 2) d) q)) rfl rfl (by decide) (by decide) (fun r14 u9 H locs hp9 hP hD hS => ?_)
          have hP : va_P D vwCl (MW dA h ad (MS.s_too (MS.s_frm (MS.s_kind x 2) d) q)) H := hP
          have hD : va_D A (MW dA h ad (MS.s_too (MS.s_frm (MS.s_kind x 2) d) q)) := hD
          replace hp9 : bI (isDg (x.atN q)) = r14 := Eq.symm hp9
          subst hp9
          refine lv_if_eq hx hb d_M_next_123 (tgt := 275) rfl (fun g16 => ?_) (fun g16 => ?_)
          · have g16 := bI_0 g16
            refine lv_iconst (v := 1) hx hb d_M_next_275 (by decide) ?_
            have e9 : (MS.s_too (MS.s_frm (MS.s_kind x 2) d) q : MS) = MS.s_too (MS.s_frm (MS.s_kind x 2) d) b := by rw [show b = q from by (exact (i1.symm.trans (idG_f (show (isLt (x.atN q) || isDg (x.atN q)) = false from by simp [*]))))] <;> rfl
            exact rfZ hx hb hr (bI_nar true) hlk hS () rfl (cvP e9 hP) (cvD e9 hD) (Nat.le_of_ble_eq_true rfl) (Nat.le_of_ble_eq_true rfl) d_M_next_276
          · have g16 := bI_n0 g16
            exact J126 (by show (isLt (x.atN q) || isDg (x.atN q)) = true; rw [g16]; exact Bool.or_true _) H _ ls hP hD hS (lv_sub hl [0] rfl)
    exact L98 _ d hg (by omega) rfl H _ ls hP hD hS (lv_sub hl [1] rfl)
  have L0 : ∀ (k9 : Nat) (q : Nat) (i1 : skG x.tape x.length (x.length + 1 - q) q = skG x.tape x.length (x.length + 1 - x.too) x.too) (i2 : q ≤ x.length) (hk9 : x.length + 1 - q = k9), ∀ (H : Heap) (locs : List Loc) (ls : Array Slot) (hP : va_P D vwCl (MW dA h ad (MS.s_too x q)) H) (hD : va_D A (MW dA h ad (MS.s_too x q))) (hS : va_S A s.heap H locs) (hl : lv_has ls 2 [(0, .ref h)]), W p l e ({ frames := 3, cells := 0, slots := 0, locals := 46 } : Room) s m ([.ref h] : List Value).toArray below meth c H locs 0 0 (MQ below (va_Qi (fun (r9 : Int32) (u9 : Unit) => r9 = bI true) (fun (u9 : Unit) t9 => bW D A (MW dA h ad (MS.s_too (MS.s_frm (MS.s_kind x 2) d) b)) t9) A) ([.ref h] : List Value).toArray s 0 0 A) (F0 m 0 ls []) := by
    intro k9
    induction k9 using Nat.strongRecOn with
    | ind k9 ih0 =>
      intro q i1 i2 hk9 H locs ls hP hD hS hl
      refine lv_aload_n hx hb d_M_next_0 rfl (lv_at hl 0 rfl) ?_
      refine gF (v := .int (nI q)) hx hb hown hE hK hP 0 rfl rfl layM 46 (by decide) w463 rfl d_M_next_1 ?_
      refine lv_aload_n hx hb d_M_next_4 rfl (lv_at hl 0 rfl) ?_
      refine gF (v := .int (nI x.length)) hx hb hown hE hK hP 0 rfl rfl layM 2 (by decide) w320 rfl d_M_next_5 ?_
      refine lv_icmp_ge hx hb d_M_next_8 (tgt := 38) rfl (fun g17 => ?_) (fun g17 => ?_)
      · have g17 := (nI_leI (a := x.length) (b := q) (by omega) (by omega)).mp g17
        have e9 : (MS.s_too x q : MS) = MS.s_too x d := by rw [show d = q from (hp.symm.trans (i1.symm.trans (skG_n (Or.inl g17))))] <;> rfl
        exact J38  H _ ls (cvP e9 hP) (cvD e9 hD) hS (lv_sub hl [0] rfl)
      · have g17 := mt (nI_leI (a := x.length) (b := q) (by omega) (by omega)).mpr g17
        refine lv_aload_n hx hb d_M_next_11 rfl (lv_at hl 0 rfl) ?_
        refine gF (v := .ref (ad 1)) hx hb hown hE hK hP 0 rfl rfl layM 1 (by decide) w497 rfl d_M_next_12 ?_
        refine lv_aload_n hx hb d_M_next_15 rfl (lv_at hl 0 rfl) ?_
        refine gF (v := .int (nI q)) hx hb hown hE hK hP 0 rfl rfl layM 46 (by decide) w463 rfl d_M_next_16 ?_
        refine nbld (f := x.tape) hx hb hK hP 1 0 rfl rfl (q) (by omega) (by decide) d_M_next_19 ?_
        refine lv_bipush (v := 32) hx hb d_M_next_20 (by decide) ?_
        refine lv_icmp_ne hx hb d_M_next_22 (tgt := 38) rfl (fun g18 => ?_) (fun g18 => ?_)
        · have g18 := g18
          have e9 : (MS.s_too x q : MS) = MS.s_too x d := by rw [show d = q from (hp.symm.trans (i1.symm.trans (skG_n (Or.inr g18))))] <;> rfl
          exact J38  H _ ls (cvP e9 hP) (cvD e9 hD) hS (lv_sub hl [0] rfl)
        · have g18 := g18
          refine lv_aload_n hx hb d_M_next_25 rfl (lv_at hl 0 rfl) ?_
          refine lv_dup hx hb d_M_next_26 rfl ?_
          refine gF (v := .int (nI q)) hx hb hown hE hK hP 0 rfl rfl layM 46 (by decide) w463 rfl d_M_next_27 ?_
          refine lv_iconst (v := 1) hx hb d_M_next_30 (by decide) ?_
          refine lv_iadd hx hb d_M_next_31 (tpi (y := nI (q + 1)) (nI_add (q) (1)) ?_)
          refine pF (v := .int (nI (q + 1))) hx hb hown hE hK hP hD hS 0 rfl rfl layM tyM tokM nmM 46 (by decide) w463 rfl rfl rfl (Nat.le_of_ble_eq_true rfl) d_M_next_32 (fun H locs hP hD hS => ?_)
          have hP : va_P D vwCl (MW dA h ad (MS.s_too x (q + 1))) H := hP
          have hD : va_D A (MW dA h ad (MS.s_too x (q + 1))) := hD
          refine lv_goto hx hb d_M_next_35 (tgt := 0) rfl ?_
          exact ih0 _ (by omega) (q + 1) (by rw [← i1, skG_t (w := x.length + 1 - q) (by omega) g17 g18, show x.length + 1 - q - 1 = x.length + 1 - (q + 1) by omega]) (by omega) rfl H _ ls hP hD hS (lv_sub hl [0] rfl)
  exact L0 _ x.too rfl ht rfl H _ ls hP hD hS (lv_sub hl [0] rfl)
theorem d_M_next_139 : decode prog_14_method_57_code 139 = .ok (.iload_n 1, 1) := by decide +kernel
theorem d_M_next_140 : decode prog_14_method_57_code 140 = .ok (.bipush 34, 2) := by decide +kernel
theorem d_M_next_142 : decode prog_14_method_57_code 142 = .ok (.if_icmp .ne 117, 3) := by decide +kernel
theorem d_M_next_145 : decode prog_14_method_57_code 145 = .ok (.aload_n 0, 1) := by decide +kernel
theorem d_M_next_146 : decode prog_14_method_57_code 146 = .ok (.iconst 3, 1) := by decide +kernel
theorem d_M_next_147 : decode prog_14_method_57_code 147 = .ok (.putfield 351, 3) := by decide +kernel
theorem d_M_next_223 : decode prog_14_method_57_code 223 = .ok (.aload_n 0, 1) := by decide +kernel
theorem d_M_next_224 : decode prog_14_method_57_code 224 = .ok (.aload_n 0, 1) := by decide +kernel
theorem d_M_next_225 : decode prog_14_method_57_code 225 = .ok (.getfield 342, 3) := by decide +kernel
theorem d_M_next_228 : decode prog_14_method_57_code 228 = .ok (.invokevirtual 348, 3) := by decide +kernel
theorem d_M_next_231 : decode prog_14_method_57_code 231 = .ok (.bipush 34, 2) := by decide +kernel
theorem d_M_next_233 : decode prog_14_method_57_code 233 = .ok (.if_icmp .eq 13, 3) := by decide +kernel
theorem d_M_next_246 : decode prog_14_method_57_code 246 = .ok (.aload_n 0, 1) := by decide +kernel
theorem d_M_next_247 : decode prog_14_method_57_code 247 = .ok (.dup, 1) := by decide +kernel
theorem d_M_next_248 : decode prog_14_method_57_code 248 = .ok (.getfield 342, 3) := by decide +kernel
theorem d_M_next_251 : decode prog_14_method_57_code 251 = .ok (.iconst 1, 1) := by decide +kernel
theorem d_M_next_252 : decode prog_14_method_57_code 252 = .ok (.iadd, 1) := by decide +kernel
theorem d_M_next_253 : decode prog_14_method_57_code 253 = .ok (.putfield 342, 3) := by decide +kernel
theorem d_M_next_256 : decode prog_14_method_57_code 256 = .ok (.goto 19, 3) := by decide +kernel
theorem d_M_next_150 : decode prog_14_method_57_code 150 = .ok (.aload_n 0, 1) := by decide +kernel
theorem d_M_next_151 : decode prog_14_method_57_code 151 = .ok (.dup, 1) := by decide +kernel
theorem d_M_next_152 : decode prog_14_method_57_code 152 = .ok (.getfield 342, 3) := by decide +kernel
theorem d_M_next_155 : decode prog_14_method_57_code 155 = .ok (.iconst 1, 1) := by decide +kernel
theorem d_M_next_156 : decode prog_14_method_57_code 156 = .ok (.iadd, 1) := by decide +kernel
theorem d_M_next_157 : decode prog_14_method_57_code 157 = .ok (.putfield 342, 3) := by decide +kernel
theorem d_M_next_160 : decode prog_14_method_57_code 160 = .ok (.aload_n 0, 1) := by decide +kernel
theorem d_M_next_161 : decode prog_14_method_57_code 161 = .ok (.getfield 342, 3) := by decide +kernel
theorem d_M_next_164 : decode prog_14_method_57_code 164 = .ok (.aload_n 0, 1) := by decide +kernel
theorem d_M_next_165 : decode prog_14_method_57_code 165 = .ok (.getfield 148, 3) := by decide +kernel
theorem d_M_next_168 : decode prog_14_method_57_code 168 = .ok (.if_icmp .ge 55, 3) := by decide +kernel
theorem d_M_next_171 : decode prog_14_method_57_code 171 = .ok (.aload_n 0, 1) := by decide +kernel
theorem d_M_next_172 : decode prog_14_method_57_code 172 = .ok (.aload_n 0, 1) := by decide +kernel
theorem d_M_next_173 : decode prog_14_method_57_code 173 = .ok (.getfield 342, 3) := by decide +kernel
theorem d_M_next_176 : decode prog_14_method_57_code 176 = .ok (.invokevirtual 348, 3) := by decide +kernel
theorem d_M_next_179 : decode prog_14_method_57_code 179 = .ok (.bipush 31, 2) := by decide +kernel
theorem d_M_next_181 : decode prog_14_method_57_code 181 = .ok (.if_icmp .le 42, 3) := by decide +kernel
theorem d_M_next_184 : decode prog_14_method_57_code 184 = .ok (.aload_n 0, 1) := by decide +kernel
theorem d_M_next_185 : decode prog_14_method_57_code 185 = .ok (.aload_n 0, 1) := by decide +kernel
theorem d_M_next_186 : decode prog_14_method_57_code 186 = .ok (.getfield 342, 3) := by decide +kernel
theorem d_M_next_189 : decode prog_14_method_57_code 189 = .ok (.invokevirtual 348, 3) := by decide +kernel
theorem d_M_next_192 : decode prog_14_method_57_code 192 = .ok (.bipush 127, 2) := by decide +kernel
theorem d_M_next_194 : decode prog_14_method_57_code 194 = .ok (.if_icmp .ge 29, 3) := by decide +kernel
theorem d_M_next_197 : decode prog_14_method_57_code 197 = .ok (.aload_n 0, 1) := by decide +kernel
theorem d_M_next_198 : decode prog_14_method_57_code 198 = .ok (.aload_n 0, 1) := by decide +kernel
theorem d_M_next_199 : decode prog_14_method_57_code 199 = .ok (.getfield 342, 3) := by decide +kernel
theorem d_M_next_202 : decode prog_14_method_57_code 202 = .ok (.invokevirtual 348, 3) := by decide +kernel
theorem d_M_next_205 : decode prog_14_method_57_code 205 = .ok (.bipush 34, 2) := by decide +kernel
theorem d_M_next_207 : decode prog_14_method_57_code 207 = .ok (.if_icmp .eq 16, 3) := by decide +kernel
theorem d_M_next_210 : decode prog_14_method_57_code 210 = .ok (.aload_n 0, 1) := by decide +kernel
theorem d_M_next_211 : decode prog_14_method_57_code 211 = .ok (.dup, 1) := by decide +kernel
theorem d_M_next_212 : decode prog_14_method_57_code 212 = .ok (.getfield 342, 3) := by decide +kernel
theorem d_M_next_215 : decode prog_14_method_57_code 215 = .ok (.iconst 1, 1) := by decide +kernel
theorem d_M_next_216 : decode prog_14_method_57_code 216 = .ok (.iadd, 1) := by decide +kernel
theorem d_M_next_217 : decode prog_14_method_57_code 217 = .ok (.putfield 342, 3) := by decide +kernel
theorem d_M_next_220 : decode prog_14_method_57_code 220 = .ok (.goto (-60), 3) := by decide +kernel
set_option maxHeartbeats 4000000 in
set_option maxRecDepth 100000 in
theorem k_next_t (l : Launch) (D : va_G) (dA : Nat → ClassId) (sz : Nat) (h : Nat) (ad : Nat → Nat) (x : MS) (d : Nat) (b : Nat) (hl1 : x.length ≤ 65536) (ht : x.too ≤ x.length) (hp : skG x.tape x.length (x.length + 1 - x.too) x.too = d) (hk : d < x.length) (hdg : isDg (x.atN d) = false) (hlt : isLt (x.atN d) = false) (htq : x.atN d = 34) (hg : txG x.tape x.length (x.length + 1 - (d + 1)) (d + 1) = b) (hb4 : x.atN b = 34) : Met l ⟨"SeriesVaultModel", "next", "()Z"⟩ [Cond.code ⟨"SeriesVaultModel", "next", "()Z"⟩ prog_14_method_57_code 2 (some FieldType.boolean)] { frames := 3, cells := 0, slots := 0, locals := 46 } (pC D dA [.ref h] (MW dA h ad x) sz) (va_Qi (fun (r9 : Int32) (u9 : Unit) => r9 = bI true) (fun (u9 : Unit) t9 => bW D (va_A (MW dA h ad x) sz) (MW dA h ad (MS.s_too (MS.s_frm (MS.s_kind x 3) d) (b + 1))) t9) (va_A (MW dA h ad x) sz)) 0 0 (va_A (MW dA h ad x) sz) := by
  refine mkC (y := ⟨"SeriesVaultModel", "next", "()Z"⟩) (cc := prog_14_method_57_code) (maxL := 2) (av := [.ref h]) (ws := MW dA h ad x) (sz := sz) (Qc := fun A => va_Qi (fun (r9 : Int32) (u9 : Unit) => r9 = bI true) (fun (u9 : Unit) t9 => bW D A (MW dA h ad (MS.s_too (MS.s_frm (MS.s_kind x 3) d) (b + 1))) t9) A) (by decide) (Nat.le_of_ble_eq_true rfl) ?_
  intro A p e s m below meth c ls hsz hB
  obtain ⟨hx, hb, hr, hml, hown, hin, hlk, hE, hK, hP, hD, hS, hA, hN, hl⟩ := hB
  have hown : s.vm.findClass "SeriesVaultModel" = some m.cls := hown
  have hl : lv_has ls 2 [(0, .ref h)] := hl
  obtain ⟨H, hH⟩ : ∃ z, z = s.heap := ⟨_, rfl⟩
  have hP : va_P D vwCl (MW dA h ad x) H := by rw [hH]; exact hP
  have hS : va_S A s.heap H [] := by rw [hH]; exact hS
  rw [← hH]
  have J38 : ∀ (H : Heap) (locs : List Loc) (ls : Array Slot) (hP : va_P D vwCl (MW dA h ad (MS.s_too x d)) H) (hD : va_D A (MW dA h ad (MS.s_too x d))) (hS : va_S A s.heap H locs) (hl : lv_has ls 2 [(0, .ref h)]), W p l e ({ frames := 3, cells := 0, slots := 0, locals := 46 } : Room) s m ([.ref h] : List Value).toArray below meth c H locs 0 0 (MQ below (va_Qi (fun (r9 : Int32) (u9 : Unit) => r9 = bI true) (fun (u9 : Unit) t9 => bW D A (MW dA h ad (MS.s_too (MS.s_frm (MS.s_kind x 3) d) (b + 1))) t9) A) ([.ref h] : List Value).toArray s 0 0 A) (F0 m 38 ls []) := by
    intro  H locs ls hP hD hS hl
    have d1 : d ≤ x.length := by rw [← hp]; exact skG_le ht
    refine lv_aload_n hx hb d_M_next_38 rfl (lv_at hl 0 rfl) ?_
    refine lv_aload_n hx hb d_M_next_39 rfl (lv_at hl 0 rfl) ?_
    refine gF (v := .int (nI d)) hx hb hown hE hK hP 0 rfl rfl layM 46 (by decide) w463 rfl d_M_next_40 ?_
    refine pF (v := .int (nI d)) hx hb hown hE hK hP hD hS 0 rfl rfl layM tyM tokM nmM 45 (by decide) w464 rfl rfl rfl (Nat.le_of_ble_eq_true rfl) d_M_next_43 (fun H locs hP hD hS => ?_)
    have hP : va_P D vwCl (MW dA h ad (MS.s_too (MS.s_frm x d) d)) H := hP
    have hD : va_D A (MW dA h ad (MS.s_too (MS.s_frm x d) d)) := hD
    refine lv_aload_n hx hb d_M_next_46 rfl (lv_at hl 0 rfl) ?_
    refine lv_aload_n hx hb d_M_next_47 rfl (lv_at hl 0 rfl) ?_
    refine gF (v := .int (nI d)) hx hb hown hE hK hP 0 rfl rfl layM 45 (by decide) w464 rfl d_M_next_48 ?_
    refine jfI (rnV (As := [.int (nI d)]) (rest := []) hx hb hml hown hE hK (hN _ _ hS) hP hD (k_at l D dA H.size h ad (MS.s_too (MS.s_frm x d) d) d (show d < 2 ^ 31 from by omega) (show x.length ≤ 65536 from by omega)) (q0 := 0) rfl rfl w466 w465 w467 w468 w328 rfl rfl ⟨⟨by decide, by decide⟩, rfl⟩ ⟨(Nat.le_of_ble_eq_true rfl), (Nat.le_of_ble_eq_true rfl)⟩ rfl hl.1 rfl (Nat.le_of_ble_eq_true rfl) d_M_next_51 ⟨(Nat.le_of_ble_eq_true rfl), (Nat.le_of_ble_eq_true rfl)⟩) hP hD hS hA (fun r1 u2 H locs hp9 hP hD hS => ?_)
    have hP : va_P D vwCl (MW dA h ad (MS.s_too (MS.s_frm x d) d)) H := hP
    have hD : va_D A (MW dA h ad (MS.s_too (MS.s_frm x d) d)) := hD
    replace hp9 : x.atN d = r1 := Eq.symm hp9
    subst hp9
    refine lv_istore_n hx hb d_M_next_54 rfl hl (by decide) rfl (fun ls hl => ?_)
    have hl : lv_has ls 2 [(1, .int (x.atN d)), (0, .ref h)] := hl
    refine lv_aload_n hx hb d_M_next_55 rfl (lv_at hl 1 rfl) ?_
    refine gF (v := .int (nI d)) hx hb hown hE hK hP 0 rfl rfl layM 45 (by decide) w464 rfl d_M_next_56 ?_
    refine lv_aload_n hx hb d_M_next_59 rfl (lv_at hl 1 rfl) ?_
    refine gF (v := .int (nI x.length)) hx hb hown hE hK hP 0 rfl rfl layM 2 (by decide) w320 rfl d_M_next_60 ?_
    refine lv_icmp_lt hx hb d_M_next_63 (tgt := 74) rfl (fun _ => ?_) (fun h9 => absurd ((nI_ltI (a := d) (b := x.length) (by omega) (by omega)).mpr hk) h9)
    refine lv_iload_n hx hb d_M_next_74 rfl (lv_at hl 0 rfl) ?_
    have hPc := hP.sub (ws' := []) [] rfl
    have hDc := hD.sub (ws' := []) [] (by decide) rfl
    refine jnI (rnS (As := [.int (x.atN d)]) (rest := []) hx hb hml hown hE hK (hN _ _ hS) hPc hDc (k_isDigit l D dA H.size (x.atN d)) w955 w954 w956 w328 rfl rfl ⟨⟨by decide, by decide⟩, rfl⟩ ⟨(Nat.le_of_ble_eq_true rfl), (Nat.le_of_ble_eq_true rfl)⟩ rfl hl.1 rfl (Nat.le_of_ble_eq_true rfl) d_M_next_75 ⟨(Nat.le_of_ble_eq_true rfl), (Nat.le_of_ble_eq_true rfl)⟩) hP hD hS hA [] [0, 1, 2, 3, 4, 5, 6, 7, 8, 9, 10, 11, 12, 13, 14, 15, 16, 17, 18, 19, 20, 21, 22, 23, 24, 25, 26, 27, 28, 29, 30, 31, 32, 33, 34, 35, 36, 37, 38] (wr := MW dA h ad (MS.s_too (MS.s_frm x d) d)) rfl rfl (by decide) (by decide) (fun r3 u9 H locs hp9 hP hD hS => ?_)
    have hP : va_P D vwCl (MW dA h ad (MS.s_too (MS.s_frm x d) d)) H := hP
    have hD : va_D A (MW dA h ad (MS.s_too (MS.s_frm x d) d)) := hD
    replace hp9 : bI (isDg (x.atN d)) = r3 := Eq.symm hp9
    subst hp9
    refine lv_if_eq hx hb d_M_next_78 (tgt := 86) rfl (fun _ => ?_) (fun h9 => absurd (by rw [hdg]; decide) h9)
    refine lv_iload_n hx hb d_M_next_86 rfl (lv_at hl 0 rfl) ?_
    have hPc := hP.sub (ws' := []) [] rfl
    have hDc := hD.sub (ws' := []) [] (by decide) rfl
    refine jnI (rnS (As := [.int (x.atN d)]) (rest := []) hx hb hml hown hE hK (hN _ _ hS) hPc hDc (k_isLetter l D dA H.size (x.atN d)) w964 w963 w965 w328 rfl rfl ⟨⟨by decide, by decide⟩, rfl⟩ ⟨(Nat.le_of_ble_eq_true rfl), (Nat.le_of_ble_eq_true rfl)⟩ rfl hl.1 rfl (Nat.le_of_ble_eq_true rfl) d_M_next_87 ⟨(Nat.le_of_ble_eq_true rfl), (Nat.le_of_ble_eq_true rfl)⟩) hP hD hS hA [] [0, 1, 2, 3, 4, 5, 6, 7, 8, 9, 10, 11, 12, 13, 14, 15, 16, 17, 18, 19, 20, 21, 22, 23, 24, 25, 26, 27, 28, 29, 30, 31, 32, 33, 34, 35, 36, 37, 38] (wr := MW dA h ad (MS.s_too (MS.s_frm x d) d)) rfl rfl (by decide) (by decide) (fun r5 u9 H locs hp9 hP hD hS => ?_)
    have hP : va_P D vwCl (MW dA h ad (MS.s_too (MS.s_frm x d) d)) H := hP
    have hD : va_D A (MW dA h ad (MS.s_too (MS.s_frm x d) d)) := hD
    replace hp9 : bI (isLt (x.atN d)) = r5 := Eq.symm hp9
    subst hp9
    refine lv_if_eq hx hb d_M_next_90 (tgt := 139) rfl (fun _ => ?_) (fun h9 => absurd (by rw [hlt]; decide) h9)
    refine lv_iload_n hx hb d_M_next_139 rfl (lv_at hl 0 rfl) ?_
    refine lv_bipush (v := 34) hx hb d_M_next_140 (by decide) ?_
    refine lv_icmp_ne hx hb d_M_next_142 (tgt := 259) rfl (fun h9 => absurd htq h9) (fun _ => ?_)
    refine lv_aload_n hx hb d_M_next_145 rfl (lv_at hl 1 rfl) ?_
    refine lv_iconst (v := 3) hx hb d_M_next_146 (by decide) ?_
    refine pF (v := .int 3) hx hb hown hE hK hP hD hS 0 rfl rfl layM tyM tokM nmM 44 (by decide) w469 rfl rfl rfl (Nat.le_of_ble_eq_true rfl) d_M_next_147 (fun H locs hP hD hS => ?_)
    have hP : va_P D vwCl (MW dA h ad (MS.s_too (MS.s_frm (MS.s_kind x 3) d) d)) H := hP
    have hD : va_D A (MW dA h ad (MS.s_too (MS.s_frm (MS.s_kind x 3) d) d)) := hD
    have J223 : ∀ (q : Nat) (i5 : b = q) (i6 : q ≤ x.length), ∀ (H : Heap) (locs : List Loc) (ls : Array Slot) (hP : va_P D vwCl (MW dA h ad (MS.s_too (MS.s_frm (MS.s_kind x 3) d) q)) H) (hD : va_D A (MW dA h ad (MS.s_too (MS.s_frm (MS.s_kind x 3) d) q))) (hS : va_S A s.heap H locs) (hl : lv_has ls 2 [(0, .ref h)]), W p l e ({ frames := 3, cells := 0, slots := 0, locals := 46 } : Room) s m ([.ref h] : List Value).toArray below meth c H locs 0 0 (MQ below (va_Qi (fun (r9 : Int32) (u9 : Unit) => r9 = bI true) (fun (u9 : Unit) t9 => bW D A (MW dA h ad (MS.s_too (MS.s_frm (MS.s_kind x 3) d) (b + 1))) t9) A) ([.ref h] : List Value).toArray s 0 0 A) (F0 m 223 ls []) := by
      intro q i5 i6 H locs ls hP hD hS hl
      refine lv_aload_n hx hb d_M_next_223 rfl (lv_at hl 0 rfl) ?_
      refine lv_aload_n hx hb d_M_next_224 rfl (lv_at hl 0 rfl) ?_
      refine gF (v := .int (nI q)) hx hb hown hE hK hP 0 rfl rfl layM 46 (by decide) w463 rfl d_M_next_225 ?_
      refine jfI (rnV (As := [.int (nI q)]) (rest := []) hx hb hml hown hE hK (hN _ _ hS) hP hD (k_at l D dA H.size h ad (MS.s_too (MS.s_frm (MS.s_kind x 3) d) q) q (show q < 2 ^ 31 from by omega) (show x.length ≤ 65536 from by omega)) (q0 := 0) rfl rfl w466 w465 w467 w468 w328 rfl rfl ⟨⟨by decide, by decide⟩, rfl⟩ ⟨(Nat.le_of_ble_eq_true rfl), (Nat.le_of_ble_eq_true rfl)⟩ rfl hl.1 rfl (Nat.le_of_ble_eq_true rfl) d_M_next_228 ⟨(Nat.le_of_ble_eq_true rfl), (Nat.le_of_ble_eq_true rfl)⟩) hP hD hS hA (fun r7 u8 H locs hp9 hP hD hS => ?_)
      have hP : va_P D vwCl (MW dA h ad (MS.s_too (MS.s_frm (MS.s_kind x 3) d) q)) H := hP
      have hD : va_D A (MW dA h ad (MS.s_too (MS.s_frm (MS.s_kind x 3) d) q)) := hD
      replace hp9 : x.atN q = r7 := Eq.symm hp9
      subst hp9
      refine lv_bipush (v := 34) hx hb d_M_next_231 (by decide) ?_
      refine lv_icmp_eq hx hb d_M_next_233 (tgt := 246) rfl (fun _ => ?_) (fun h9 => absurd (by rw [← i5]; exact hb4) h9)
      refine lv_aload_n hx hb d_M_next_246 rfl (lv_at hl 0 rfl) ?_
      refine lv_dup hx hb d_M_next_247 rfl ?_
      refine gF (v := .int (nI q)) hx hb hown hE hK hP 0 rfl rfl layM 46 (by decide) w463 rfl d_M_next_248 ?_
      refine lv_iconst (v := 1) hx hb d_M_next_251 (by decide) ?_
      refine lv_iadd hx hb d_M_next_252 (tpi (y := nI (q + 1)) (nI_add (q) (1)) ?_)
      refine pF (v := .int (nI (q + 1))) hx hb hown hE hK hP hD hS 0 rfl rfl layM tyM tokM nmM 46 (by decide) w463 rfl rfl rfl (Nat.le_of_ble_eq_true rfl) d_M_next_253 (fun H locs hP hD hS => ?_)
      have hP : va_P D vwCl (MW dA h ad (MS.s_too (MS.s_frm (MS.s_kind x 3) d) (q + 1))) H := hP
      have hD : va_D A (MW dA h ad (MS.s_too (MS.s_frm (MS.s_kind x 3) d) (q + 1))) := hD
      refine lv_goto hx hb d_M_next_256 (tgt := 275) rfl ?_
      refine lv_iconst (v := 1) hx hb d_M_next_275 (by decide) ?_
      have e9 : (MS.s_too (MS.s_frm (MS.s_kind x 3) d) (q + 1) : MS) = MS.s_too (MS.s_frm (MS.s_kind x 3) d) (b + 1) := by rw [show (b + 1) = (q + 1) from by (rw [i5])] <;> rfl
      exact rfZ hx hb hr (bI_nar true) hlk hS () rfl (cvP e9 hP) (cvD e9 hD) (Nat.le_of_ble_eq_true rfl) (Nat.le_of_ble_eq_true rfl) d_M_next_276
    refine lv_aload_n hx hb d_M_next_150 rfl (lv_at hl 1 rfl) ?_
    refine lv_dup hx hb d_M_next_151 rfl ?_
    refine gF (v := .int (nI d)) hx hb hown hE hK hP 0 rfl rfl layM 46 (by decide) w463 rfl d_M_next_152 ?_
    refine lv_iconst (v := 1) hx hb d_M_next_155 (by decide) ?_
    refine lv_iadd hx hb d_M_next_156 (tpi (y := nI (d + 1)) (nI_add (d) (1)) ?_)
    refine pF (v := .int (nI (d + 1))) hx hb hown hE hK hP hD hS 0 rfl rfl layM tyM tokM nmM 46 (by decide) w463 rfl rfl rfl (Nat.le_of_ble_eq_true rfl) d_M_next_157 (fun H locs hP hD hS => ?_)
    have hP : va_P D vwCl (MW dA h ad (MS.s_too (MS.s_frm (MS.s_kind x 3) d) (d + 1))) H := hP
    have hD : va_D A (MW dA h ad (MS.s_too (MS.s_frm (MS.s_kind x 3) d) (d + 1))) := hD
    have L160 : ∀ (k9 : Nat) (q : Nat) (i1 : txG x.tape x.length (x.length + 1 - q) q = b) (i2 : q ≤ x.length) (hk9 : x.length + 1 - q = k9), ∀ (H : Heap) (locs : List Loc) (ls : Array Slot) (hP : va_P D vwCl (MW dA h ad (MS.s_too (MS.s_frm (MS.s_kind x 3) d) q)) H) (hD : va_D A (MW dA h ad (MS.s_too (MS.s_frm (MS.s_kind x 3) d) q))) (hS : va_S A s.heap H locs) (hl : lv_has ls 2 [(0, .ref h)]), W p l e ({ frames := 3, cells := 0, slots := 0, locals := 46 } : Room) s m ([.ref h] : List Value).toArray below meth c H locs 0 0 (MQ below (va_Qi (fun (r9 : Int32) (u9 : Unit) => r9 = bI true) (fun (u9 : Unit) t9 => bW D A (MW dA h ad (MS.s_too (MS.s_frm (MS.s_kind x 3) d) (b + 1))) t9) A) ([.ref h] : List Value).toArray s 0 0 A) (F0 m 160 ls []) := by
      intro k9
      induction k9 using Nat.strongRecOn with
      | ind k9 ih160 =>
        intro q i1 i2 hk9 H locs ls hP hD hS hl
        refine lv_aload_n hx hb d_M_next_160 rfl (lv_at hl 0 rfl) ?_
        refine gF (v := .int (nI q)) hx hb hown hE hK hP 0 rfl rfl layM 46 (by decide) w463 rfl d_M_next_161 ?_
        refine lv_aload_n hx hb d_M_next_164 rfl (lv_at hl 0 rfl) ?_
        refine gF (v := .int (nI x.length)) hx hb hown hE hK hP 0 rfl rfl layM 2 (by decide) w320 rfl d_M_next_165 ?_
        refine lv_icmp_ge hx hb d_M_next_168 (tgt := 223) rfl (fun g9 => ?_) (fun g9 => ?_)
        · have g9 := (nI_leI (a := x.length) (b := q) (by omega) (by omega)).mp g9
          exact J223 q (i1.symm.trans (txG_n (Or.inl g9))) (by omega) H _ ls hP hD hS (lv_sub hl [0] rfl)
        · have g9 := mt (nI_leI (a := x.length) (b := q) (by omega) (by omega)).mpr g9
          refine lv_aload_n hx hb d_M_next_171 rfl (lv_at hl 0 rfl) ?_
          refine lv_aload_n hx hb d_M_next_172 rfl (lv_at hl 0 rfl) ?_
          refine gF (v := .int (nI q)) hx hb hown hE hK hP 0 rfl rfl layM 46 (by decide) w463 rfl d_M_next_173 ?_
          refine jfI (rnV (As := [.int (nI q)]) (rest := []) hx hb hml hown hE hK (hN _ _ hS) hP hD (k_at l D dA H.size h ad (MS.s_too (MS.s_frm (MS.s_kind x 3) d) q) q (show q < 2 ^ 31 from by omega) (show x.length ≤ 65536 from by omega)) (q0 := 0) rfl rfl w466 w465 w467 w468 w328 rfl rfl ⟨⟨by decide, by decide⟩, rfl⟩ ⟨(Nat.le_of_ble_eq_true rfl), (Nat.le_of_ble_eq_true rfl)⟩ rfl hl.1 rfl (Nat.le_of_ble_eq_true rfl) d_M_next_176 ⟨(Nat.le_of_ble_eq_true rfl), (Nat.le_of_ble_eq_true rfl)⟩) hP hD hS hA (fun r10 u11 H locs hp9 hP hD hS => ?_)
          have hP : va_P D vwCl (MW dA h ad (MS.s_too (MS.s_frm (MS.s_kind x 3) d) q)) H := hP
          have hD : va_D A (MW dA h ad (MS.s_too (MS.s_frm (MS.s_kind x 3) d) q)) := hD
          replace hp9 : x.atN q = r10 := Eq.symm hp9
          subst hp9
          refine lv_bipush (v := 31) hx hb d_M_next_179 (by decide) ?_
          refine lv_icmp_le hx hb d_M_next_181 (tgt := 223) rfl (fun g12 => ?_) (fun g12 => ?_)
          · have g12 := g12
            exact J223 q (i1.symm.trans (txG_n (Or.inr (by show (!decide (x.atN q ≤ 31) && (!decide (127 ≤ x.atN q) && !decide (x.atN q = 34))) = false; rw [decide_eq_true g12]; rfl)))) (by omega) H _ ls hP hD hS (lv_sub hl [0] rfl)
          · have g12 := g12
            refine lv_aload_n hx hb d_M_next_184 rfl (lv_at hl 0 rfl) ?_
            refine lv_aload_n hx hb d_M_next_185 rfl (lv_at hl 0 rfl) ?_
            refine gF (v := .int (nI q)) hx hb hown hE hK hP 0 rfl rfl layM 46 (by decide) w463 rfl d_M_next_186 ?_
            refine jfI (rnV (As := [.int (nI q)]) (rest := []) hx hb hml hown hE hK (hN _ _ hS) hP hD (k_at l D dA H.size h ad (MS.s_too (MS.s_frm (MS.s_kind x 3) d) q) q (show q < 2 ^ 31 from by omega) (show x.length ≤ 65536 from by omega)) (q0 := 0) rfl rfl w466 w465 w467 w468 w328 rfl rfl ⟨⟨by decide, by decide⟩, rfl⟩ ⟨(Nat.le_of_ble_eq_true rfl), (Nat.le_of_ble_eq_true rfl)⟩ rfl hl.1 rfl (Nat.le_of_ble_eq_true rfl) d_M_next_189 ⟨(Nat.le_of_ble_eq_true rfl), (Nat.le_of_ble_eq_true rfl)⟩) hP hD hS hA (fun r13 u14 H locs hp9 hP hD hS => ?_)
            have hP : va_P D vwCl (MW dA h ad (MS.s_too (MS.s_frm (MS.s_kind x 3) d) q)) H := hP
            have hD : va_D A (MW dA h ad (MS.s_too (MS.s_frm (MS.s_kind x 3) d) q)) := hD
            replace hp9 : x.atN q = r13 := Eq.symm hp9
            subst hp9
            refine lv_bipush (v := 127) hx hb d_M_next_192 (by decide) ?_
            refine lv_icmp_ge hx hb d_M_next_194 (tgt := 223) rfl (fun g15 => ?_) (fun g15 => ?_)
            · have g15 := g15
              exact J223 q (i1.symm.trans (txG_n (Or.inr (by show (!decide (x.atN q ≤ 31) && (!decide (127 ≤ x.atN q) && !decide (x.atN q = 34))) = false; rw [decide_eq_false g12, decide_eq_true g15]; rfl)))) (by omega) H _ ls hP hD hS (lv_sub hl [0] rfl)
            · have g15 := g15
              refine lv_aload_n hx hb d_M_next_197 rfl (lv_at hl 0 rfl) ?_
              refine lv_aload_n hx hb d_M_next_198 rfl (lv_at hl 0 rfl) ?_
              refine gF (v := .int (nI q)) hx hb hown hE hK hP 0 rfl rfl layM 46 (by decide) w463 rfl d_M_next_199 ?_
              refine jfI (rnV (As := [.int (nI q)]) (rest := []) hx hb hml hown hE hK (hN _ _ hS) hP hD (k_at l D dA H.size h ad (MS.s_too (MS.s_frm (MS.s_kind x 3) d) q) q (show q < 2 ^ 31 from by omega) (show x.length ≤ 65536 from by omega)) (q0 := 0) rfl rfl w466 w465 w467 w468 w328 rfl rfl ⟨⟨by decide, by decide⟩, rfl⟩ ⟨(Nat.le_of_ble_eq_true rfl), (Nat.le_of_ble_eq_true rfl)⟩ rfl hl.1 rfl (Nat.le_of_ble_eq_true rfl) d_M_next_202 ⟨(Nat.le_of_ble_eq_true rfl), (Nat.le_of_ble_eq_true rfl)⟩) hP hD hS hA (fun r16 u17 H locs hp9 hP hD hS => ?_)
              have hP : va_P D vwCl (MW dA h ad (MS.s_too (MS.s_frm (MS.s_kind x 3) d) q)) H := hP
              have hD : va_D A (MW dA h ad (MS.s_too (MS.s_frm (MS.s_kind x 3) d) q)) := hD
              replace hp9 : x.atN q = r16 := Eq.symm hp9
              subst hp9
              refine lv_bipush (v := 34) hx hb d_M_next_205 (by decide) ?_
              refine lv_icmp_eq hx hb d_M_next_207 (tgt := 223) rfl (fun g18 => ?_) (fun g18 => ?_)
              · have g18 := g18
                exact J223 q (i1.symm.trans (txG_n (Or.inr (by show (!decide (x.atN q ≤ 31) && (!decide (127 ≤ x.atN q) && !decide (x.atN q = 34))) = false; rw [decide_eq_false g12, decide_eq_false g15, decide_eq_true g18]; rfl)))) (by omega) H _ ls hP hD hS (lv_sub hl [0] rfl)
              · have g18 := g18
                refine lv_aload_n hx hb d_M_next_210 rfl (lv_at hl 0 rfl) ?_
                refine lv_dup hx hb d_M_next_211 rfl ?_
                refine gF (v := .int (nI q)) hx hb hown hE hK hP 0 rfl rfl layM 46 (by decide) w463 rfl d_M_next_212 ?_
                refine lv_iconst (v := 1) hx hb d_M_next_215 (by decide) ?_
                refine lv_iadd hx hb d_M_next_216 (tpi (y := nI (q + 1)) (nI_add (q) (1)) ?_)
                refine pF (v := .int (nI (q + 1))) hx hb hown hE hK hP hD hS 0 rfl rfl layM tyM tokM nmM 46 (by decide) w463 rfl rfl rfl (Nat.le_of_ble_eq_true rfl) d_M_next_217 (fun H locs hP hD hS => ?_)
                have hP : va_P D vwCl (MW dA h ad (MS.s_too (MS.s_frm (MS.s_kind x 3) d) (q + 1))) H := hP
                have hD : va_D A (MW dA h ad (MS.s_too (MS.s_frm (MS.s_kind x 3) d) (q + 1))) := hD
                refine lv_goto hx hb d_M_next_220 (tgt := 160) rfl ?_
                exact ih160 _ (by omega) (q + 1) (by rw [← i1, txG_t (w := x.length + 1 - q) (by omega) g9 (by show (!decide (x.atN q ≤ 31) && (!decide (127 ≤ x.atN q) && !decide (x.atN q = 34))) = true; rw [decide_eq_false g12, decide_eq_false g15, decide_eq_false g18]; rfl), show x.length + 1 - q - 1 = x.length + 1 - (q + 1) by omega]) (by omega) rfl H _ ls hP hD hS (lv_sub hl [0] rfl)
    exact L160 _ (d + 1) hg (by omega) rfl H _ ls hP hD hS (lv_sub hl [1] rfl)
  have L0 : ∀ (k9 : Nat) (q : Nat) (i1 : skG x.tape x.length (x.length + 1 - q) q = skG x.tape x.length (x.length + 1 - x.too) x.too) (i2 : q ≤ x.length) (hk9 : x.length + 1 - q = k9), ∀ (H : Heap) (locs : List Loc) (ls : Array Slot) (hP : va_P D vwCl (MW dA h ad (MS.s_too x q)) H) (hD : va_D A (MW dA h ad (MS.s_too x q))) (hS : va_S A s.heap H locs) (hl : lv_has ls 2 [(0, .ref h)]), W p l e ({ frames := 3, cells := 0, slots := 0, locals := 46 } : Room) s m ([.ref h] : List Value).toArray below meth c H locs 0 0 (MQ below (va_Qi (fun (r9 : Int32) (u9 : Unit) => r9 = bI true) (fun (u9 : Unit) t9 => bW D A (MW dA h ad (MS.s_too (MS.s_frm (MS.s_kind x 3) d) (b + 1))) t9) A) ([.ref h] : List Value).toArray s 0 0 A) (F0 m 0 ls []) := by
    intro k9
    induction k9 using Nat.strongRecOn with
    | ind k9 ih0 =>
      intro q i1 i2 hk9 H locs ls hP hD hS hl
      refine lv_aload_n hx hb d_M_next_0 rfl (lv_at hl 0 rfl) ?_
      refine gF (v := .int (nI q)) hx hb hown hE hK hP 0 rfl rfl layM 46 (by decide) w463 rfl d_M_next_1 ?_
      refine lv_aload_n hx hb d_M_next_4 rfl (lv_at hl 0 rfl) ?_
      refine gF (v := .int (nI x.length)) hx hb hown hE hK hP 0 rfl rfl layM 2 (by decide) w320 rfl d_M_next_5 ?_
      refine lv_icmp_ge hx hb d_M_next_8 (tgt := 38) rfl (fun g19 => ?_) (fun g19 => ?_)
      · have g19 := (nI_leI (a := x.length) (b := q) (by omega) (by omega)).mp g19
        have e9 : (MS.s_too x q : MS) = MS.s_too x d := by rw [show d = q from (hp.symm.trans (i1.symm.trans (skG_n (Or.inl g19))))] <;> rfl
        exact J38  H _ ls (cvP e9 hP) (cvD e9 hD) hS (lv_sub hl [0] rfl)
      · have g19 := mt (nI_leI (a := x.length) (b := q) (by omega) (by omega)).mpr g19
        refine lv_aload_n hx hb d_M_next_11 rfl (lv_at hl 0 rfl) ?_
        refine gF (v := .ref (ad 1)) hx hb hown hE hK hP 0 rfl rfl layM 1 (by decide) w497 rfl d_M_next_12 ?_
        refine lv_aload_n hx hb d_M_next_15 rfl (lv_at hl 0 rfl) ?_
        refine gF (v := .int (nI q)) hx hb hown hE hK hP 0 rfl rfl layM 46 (by decide) w463 rfl d_M_next_16 ?_
        refine nbld (f := x.tape) hx hb hK hP 1 0 rfl rfl (q) (by omega) (by decide) d_M_next_19 ?_
        refine lv_bipush (v := 32) hx hb d_M_next_20 (by decide) ?_
        refine lv_icmp_ne hx hb d_M_next_22 (tgt := 38) rfl (fun g20 => ?_) (fun g20 => ?_)
        · have g20 := g20
          have e9 : (MS.s_too x q : MS) = MS.s_too x d := by rw [show d = q from (hp.symm.trans (i1.symm.trans (skG_n (Or.inr g20))))] <;> rfl
          exact J38  H _ ls (cvP e9 hP) (cvD e9 hD) hS (lv_sub hl [0] rfl)
        · have g20 := g20
          refine lv_aload_n hx hb d_M_next_25 rfl (lv_at hl 0 rfl) ?_
          refine lv_dup hx hb d_M_next_26 rfl ?_
          refine gF (v := .int (nI q)) hx hb hown hE hK hP 0 rfl rfl layM 46 (by decide) w463 rfl d_M_next_27 ?_
          refine lv_iconst (v := 1) hx hb d_M_next_30 (by decide) ?_
          refine lv_iadd hx hb d_M_next_31 (tpi (y := nI (q + 1)) (nI_add (q) (1)) ?_)
          refine pF (v := .int (nI (q + 1))) hx hb hown hE hK hP hD hS 0 rfl rfl layM tyM tokM nmM 46 (by decide) w463 rfl rfl rfl (Nat.le_of_ble_eq_true rfl) d_M_next_32 (fun H locs hP hD hS => ?_)
          have hP : va_P D vwCl (MW dA h ad (MS.s_too x (q + 1))) H := hP
          have hD : va_D A (MW dA h ad (MS.s_too x (q + 1))) := hD
          refine lv_goto hx hb d_M_next_35 (tgt := 0) rfl ?_
          exact ih0 _ (by omega) (q + 1) (by rw [← i1, skG_t (w := x.length + 1 - q) (by omega) g19 g20, show x.length + 1 - q - 1 = x.length + 1 - (q + 1) by omega]) (by omega) rfl H _ ls hP hD hS (lv_sub hl [0] rfl)
  exact L0 _ x.too rfl ht rfl H _ ls hP hD hS (lv_sub hl [0] rfl)
theorem d_M_next_236 : decode prog_14_method_57_code 236 = .ok (.aload_n 0, 1) := by decide +kernel
theorem d_M_next_237 : decode prog_14_method_57_code 237 = .ok (.iconst 1, 1) := by decide +kernel
theorem d_M_next_238 : decode prog_14_method_57_code 238 = .ok (.aload_n 0, 1) := by decide +kernel
theorem d_M_next_239 : decode prog_14_method_57_code 239 = .ok (.getfield 345, 3) := by decide +kernel
theorem d_M_next_242 : decode prog_14_method_57_code 242 = .ok (.invokevirtual 224, 3) := by decide +kernel
theorem d_M_next_245 : decode prog_14_method_57_code 245 = .ok (.ireturn, 1) := by decide +kernel
set_option maxHeartbeats 4000000 in
set_option maxRecDepth 100000 in
theorem k_next_tx (l : Launch) (D : va_G) (dA : Nat → ClassId) (sz : Nat) (h : Nat) (ad : Nat → Nat) (x : MS) (d : Nat) (b : Nat) (hl1 : x.length ≤ 65536) (ht : x.too ≤ x.length) (hp : skG x.tape x.length (x.length + 1 - x.too) x.too = d) (hk : d < x.length) (hdg : isDg (x.atN d) = false) (hlt : isLt (x.atN d) = false) (htq : x.atN d = 34) (hg : txG x.tape x.length (x.length + 1 - (d + 1)) (d + 1) = b) (hb4 : ¬ x.atN b = 34) (hf : x.faultCode = 0) : Met l ⟨"SeriesVaultModel", "next", "()Z"⟩ [Cond.code ⟨"SeriesVaultModel", "next", "()Z"⟩ prog_14_method_57_code 2 (some FieldType.boolean)] { frames := 3, cells := 0, slots := 0, locals := 46 } (pC D dA [.ref h] (MW dA h ad x) sz) (va_Qi (fun (r9 : Int32) (u9 : Unit) => r9 = bI false) (fun (u9 : Unit) t9 => bW D (va_A (MW dA h ad x) sz) (MW dA h ad (MS.s_too (MS.s_frm (MS.s_kind (MS.s_faultPlace (MS.s_faultCode x 1) (nI d)) 3) d) b)) t9) (va_A (MW dA h ad x) sz)) 0 0 (va_A (MW dA h ad x) sz) := by
  refine mkC (y := ⟨"SeriesVaultModel", "next", "()Z"⟩) (cc := prog_14_method_57_code) (maxL := 2) (av := [.ref h]) (ws := MW dA h ad x) (sz := sz) (Qc := fun A => va_Qi (fun (r9 : Int32) (u9 : Unit) => r9 = bI false) (fun (u9 : Unit) t9 => bW D A (MW dA h ad (MS.s_too (MS.s_frm (MS.s_kind (MS.s_faultPlace (MS.s_faultCode x 1) (nI d)) 3) d) b)) t9) A) (by decide) (Nat.le_of_ble_eq_true rfl) ?_
  intro A p e s m below meth c ls hsz hB
  obtain ⟨hx, hb, hr, hml, hown, hin, hlk, hE, hK, hP, hD, hS, hA, hN, hl⟩ := hB
  have hown : s.vm.findClass "SeriesVaultModel" = some m.cls := hown
  have hl : lv_has ls 2 [(0, .ref h)] := hl
  obtain ⟨H, hH⟩ : ∃ z, z = s.heap := ⟨_, rfl⟩
  have hP : va_P D vwCl (MW dA h ad x) H := by rw [hH]; exact hP
  have hS : va_S A s.heap H [] := by rw [hH]; exact hS
  rw [← hH]
  have J38 : ∀ (H : Heap) (locs : List Loc) (ls : Array Slot) (hP : va_P D vwCl (MW dA h ad (MS.s_too x d)) H) (hD : va_D A (MW dA h ad (MS.s_too x d))) (hS : va_S A s.heap H locs) (hl : lv_has ls 2 [(0, .ref h)]), W p l e ({ frames := 3, cells := 0, slots := 0, locals := 46 } : Room) s m ([.ref h] : List Value).toArray below meth c H locs 0 0 (MQ below (va_Qi (fun (r9 : Int32) (u9 : Unit) => r9 = bI false) (fun (u9 : Unit) t9 => bW D A (MW dA h ad (MS.s_too (MS.s_frm (MS.s_kind (MS.s_faultPlace (MS.s_faultCode x 1) (nI d)) 3) d) b)) t9) A) ([.ref h] : List Value).toArray s 0 0 A) (F0 m 38 ls []) := by
    intro  H locs ls hP hD hS hl
    have d1 : d ≤ x.length := by rw [← hp]; exact skG_le ht
    refine lv_aload_n hx hb d_M_next_38 rfl (lv_at hl 0 rfl) ?_
    refine lv_aload_n hx hb d_M_next_39 rfl (lv_at hl 0 rfl) ?_
    refine gF (v := .int (nI d)) hx hb hown hE hK hP 0 rfl rfl layM 46 (by decide) w463 rfl d_M_next_40 ?_
    refine pF (v := .int (nI d)) hx hb hown hE hK hP hD hS 0 rfl rfl layM tyM tokM nmM 45 (by decide) w464 rfl rfl rfl (Nat.le_of_ble_eq_true rfl) d_M_next_43 (fun H locs hP hD hS => ?_)
    have hP : va_P D vwCl (MW dA h ad (MS.s_too (MS.s_frm x d) d)) H := hP
    have hD : va_D A (MW dA h ad (MS.s_too (MS.s_frm x d) d)) := hD
    refine lv_aload_n hx hb d_M_next_46 rfl (lv_at hl 0 rfl) ?_
    refine lv_aload_n hx hb d_M_next_47 rfl (lv_at hl 0 rfl) ?_
    refine gF (v := .int (nI d)) hx hb hown hE hK hP 0 rfl rfl layM 45 (by decide) w464 rfl d_M_next_48 ?_
    refine jfI (rnV (As := [.int (nI d)]) (rest := []) hx hb hml hown hE hK (hN _ _ hS) hP hD (k_at l D dA H.size h ad (MS.s_too (MS.s_frm x d) d) d (show d < 2 ^ 31 from by omega) (show x.length ≤ 65536 from by omega)) (q0 := 0) rfl rfl w466 w465 w467 w468 w328 rfl rfl ⟨⟨by decide, by decide⟩, rfl⟩ ⟨(Nat.le_of_ble_eq_true rfl), (Nat.le_of_ble_eq_true rfl)⟩ rfl hl.1 rfl (Nat.le_of_ble_eq_true rfl) d_M_next_51 ⟨(Nat.le_of_ble_eq_true rfl), (Nat.le_of_ble_eq_true rfl)⟩) hP hD hS hA (fun r1 u2 H locs hp9 hP hD hS => ?_)
    have hP : va_P D vwCl (MW dA h ad (MS.s_too (MS.s_frm x d) d)) H := hP
    have hD : va_D A (MW dA h ad (MS.s_too (MS.s_frm x d) d)) := hD
    replace hp9 : x.atN d = r1 := Eq.symm hp9
    subst hp9
    refine lv_istore_n hx hb d_M_next_54 rfl hl (by decide) rfl (fun ls hl => ?_)
    have hl : lv_has ls 2 [(1, .int (x.atN d)), (0, .ref h)] := hl
    refine lv_aload_n hx hb d_M_next_55 rfl (lv_at hl 1 rfl) ?_
    refine gF (v := .int (nI d)) hx hb hown hE hK hP 0 rfl rfl layM 45 (by decide) w464 rfl d_M_next_56 ?_
    refine lv_aload_n hx hb d_M_next_59 rfl (lv_at hl 1 rfl) ?_
    refine gF (v := .int (nI x.length)) hx hb hown hE hK hP 0 rfl rfl layM 2 (by decide) w320 rfl d_M_next_60 ?_
    refine lv_icmp_lt hx hb d_M_next_63 (tgt := 74) rfl (fun _ => ?_) (fun h9 => absurd ((nI_ltI (a := d) (b := x.length) (by omega) (by omega)).mpr hk) h9)
    refine lv_iload_n hx hb d_M_next_74 rfl (lv_at hl 0 rfl) ?_
    have hPc := hP.sub (ws' := []) [] rfl
    have hDc := hD.sub (ws' := []) [] (by decide) rfl
    refine jnI (rnS (As := [.int (x.atN d)]) (rest := []) hx hb hml hown hE hK (hN _ _ hS) hPc hDc (k_isDigit l D dA H.size (x.atN d)) w955 w954 w956 w328 rfl rfl ⟨⟨by decide, by decide⟩, rfl⟩ ⟨(Nat.le_of_ble_eq_true rfl), (Nat.le_of_ble_eq_true rfl)⟩ rfl hl.1 rfl (Nat.le_of_ble_eq_true rfl) d_M_next_75 ⟨(Nat.le_of_ble_eq_true rfl), (Nat.le_of_ble_eq_true rfl)⟩) hP hD hS hA [] [0, 1, 2, 3, 4, 5, 6, 7, 8, 9, 10, 11, 12, 13, 14, 15, 16, 17, 18, 19, 20, 21, 22, 23, 24, 25, 26, 27, 28, 29, 30, 31, 32, 33, 34, 35, 36, 37, 38] (wr := MW dA h ad (MS.s_too (MS.s_frm x d) d)) rfl rfl (by decide) (by decide) (fun r3 u9 H locs hp9 hP hD hS => ?_)
    have hP : va_P D vwCl (MW dA h ad (MS.s_too (MS.s_frm x d) d)) H := hP
    have hD : va_D A (MW dA h ad (MS.s_too (MS.s_frm x d) d)) := hD
    replace hp9 : bI (isDg (x.atN d)) = r3 := Eq.symm hp9
    subst hp9
    refine lv_if_eq hx hb d_M_next_78 (tgt := 86) rfl (fun _ => ?_) (fun h9 => absurd (by rw [hdg]; decide) h9)
    refine lv_iload_n hx hb d_M_next_86 rfl (lv_at hl 0 rfl) ?_
    have hPc := hP.sub (ws' := []) [] rfl
    have hDc := hD.sub (ws' := []) [] (by decide) rfl
    refine jnI (rnS (As := [.int (x.atN d)]) (rest := []) hx hb hml hown hE hK (hN _ _ hS) hPc hDc (k_isLetter l D dA H.size (x.atN d)) w964 w963 w965 w328 rfl rfl ⟨⟨by decide, by decide⟩, rfl⟩ ⟨(Nat.le_of_ble_eq_true rfl), (Nat.le_of_ble_eq_true rfl)⟩ rfl hl.1 rfl (Nat.le_of_ble_eq_true rfl) d_M_next_87 ⟨(Nat.le_of_ble_eq_true rfl), (Nat.le_of_ble_eq_true rfl)⟩) hP hD hS hA [] [0, 1, 2, 3, 4, 5, 6, 7, 8, 9, 10, 11, 12, 13, 14, 15, 16, 17, 18, 19, 20, 21, 22, 23, 24, 25, 26, 27, 28, 29, 30, 31, 32, 33, 34, 35, 36, 37, 38] (wr := MW dA h ad (MS.s_too (MS.s_frm x d) d)) rfl rfl (by decide) (by decide) (fun r5 u9 H locs hp9 hP hD hS => ?_)
    have hP : va_P D vwCl (MW dA h ad (MS.s_too (MS.s_frm x d) d)) H := hP
    have hD : va_D A (MW dA h ad (MS.s_too (MS.s_frm x d) d)) := hD
    replace hp9 : bI (isLt (x.atN d)) = r5 := Eq.symm hp9
    subst hp9
    refine lv_if_eq hx hb d_M_next_90 (tgt := 139) rfl (fun _ => ?_) (fun h9 => absurd (by rw [hlt]; decide) h9)
    refine lv_iload_n hx hb d_M_next_139 rfl (lv_at hl 0 rfl) ?_
    refine lv_bipush (v := 34) hx hb d_M_next_140 (by decide) ?_
    refine lv_icmp_ne hx hb d_M_next_142 (tgt := 259) rfl (fun h9 => absurd htq h9) (fun _ => ?_)
    refine lv_aload_n hx hb d_M_next_145 rfl (lv_at hl 1 rfl) ?_
    refine lv_iconst (v := 3) hx hb d_M_next_146 (by decide) ?_
    refine pF (v := .int 3) hx hb hown hE hK hP hD hS 0 rfl rfl layM tyM tokM nmM 44 (by decide) w469 rfl rfl rfl (Nat.le_of_ble_eq_true rfl) d_M_next_147 (fun H locs hP hD hS => ?_)
    have hP : va_P D vwCl (MW dA h ad (MS.s_too (MS.s_frm (MS.s_kind x 3) d) d)) H := hP
    have hD : va_D A (MW dA h ad (MS.s_too (MS.s_frm (MS.s_kind x 3) d) d)) := hD
    have J223 : ∀ (q : Nat) (i5 : b = q) (i6 : q ≤ x.length), ∀ (H : Heap) (locs : List Loc) (ls : Array Slot) (hP : va_P D vwCl (MW dA h ad (MS.s_too (MS.s_frm (MS.s_kind x 3) d) q)) H) (hD : va_D A (MW dA h ad (MS.s_too (MS.s_frm (MS.s_kind x 3) d) q))) (hS : va_S A s.heap H locs) (hl : lv_has ls 2 [(0, .ref h)]), W p l e ({ frames := 3, cells := 0, slots := 0, locals := 46 } : Room) s m ([.ref h] : List Value).toArray below meth c H locs 0 0 (MQ below (va_Qi (fun (r9 : Int32) (u9 : Unit) => r9 = bI false) (fun (u9 : Unit) t9 => bW D A (MW dA h ad (MS.s_too (MS.s_frm (MS.s_kind (MS.s_faultPlace (MS.s_faultCode x 1) (nI d)) 3) d) b)) t9) A) ([.ref h] : List Value).toArray s 0 0 A) (F0 m 223 ls []) := by
      intro q i5 i6 H locs ls hP hD hS hl
      refine lv_aload_n hx hb d_M_next_223 rfl (lv_at hl 0 rfl) ?_
      refine lv_aload_n hx hb d_M_next_224 rfl (lv_at hl 0 rfl) ?_
      refine gF (v := .int (nI q)) hx hb hown hE hK hP 0 rfl rfl layM 46 (by decide) w463 rfl d_M_next_225 ?_
      refine jfI (rnV (As := [.int (nI q)]) (rest := []) hx hb hml hown hE hK (hN _ _ hS) hP hD (k_at l D dA H.size h ad (MS.s_too (MS.s_frm (MS.s_kind x 3) d) q) q (show q < 2 ^ 31 from by omega) (show x.length ≤ 65536 from by omega)) (q0 := 0) rfl rfl w466 w465 w467 w468 w328 rfl rfl ⟨⟨by decide, by decide⟩, rfl⟩ ⟨(Nat.le_of_ble_eq_true rfl), (Nat.le_of_ble_eq_true rfl)⟩ rfl hl.1 rfl (Nat.le_of_ble_eq_true rfl) d_M_next_228 ⟨(Nat.le_of_ble_eq_true rfl), (Nat.le_of_ble_eq_true rfl)⟩) hP hD hS hA (fun r7 u8 H locs hp9 hP hD hS => ?_)
      have hP : va_P D vwCl (MW dA h ad (MS.s_too (MS.s_frm (MS.s_kind x 3) d) q)) H := hP
      have hD : va_D A (MW dA h ad (MS.s_too (MS.s_frm (MS.s_kind x 3) d) q)) := hD
      replace hp9 : x.atN q = r7 := Eq.symm hp9
      subst hp9
      refine lv_bipush (v := 34) hx hb d_M_next_231 (by decide) ?_
      refine lv_icmp_eq hx hb d_M_next_233 (tgt := 246) rfl (fun h9 => absurd h9 (by rw [← i5]; exact hb4)) (fun _ => ?_)
      refine lv_aload_n hx hb d_M_next_236 rfl (lv_at hl 0 rfl) ?_
      refine lv_iconst (v := 1) hx hb d_M_next_237 (by decide) ?_
      refine lv_aload_n hx hb d_M_next_238 rfl (lv_at hl 0 rfl) ?_
      refine gF (v := .int (nI d)) hx hb hown hE hK hP 0 rfl rfl layM 45 (by decide) w464 rfl d_M_next_239 ?_
      refine jfI (rnV (As := [.int 1, .int (nI d)]) (rest := []) hx hb hml hown hE hK (hN _ _ hS) hP hD (k_flaw_0 l D dA H.size h ad (MS.s_too (MS.s_frm (MS.s_kind x 3) d) q) 1 (nI d) hf) (q0 := 0) rfl rfl w431 w430 w432 w433 w328 rfl rfl ⟨⟨by decide, by decide⟩, rfl⟩ ⟨(Nat.le_of_ble_eq_true rfl), (Nat.le_of_ble_eq_true rfl)⟩ rfl hl.1 rfl (Nat.le_of_ble_eq_true rfl) d_M_next_242 ⟨(Nat.le_of_ble_eq_true rfl), (Nat.le_of_ble_eq_true rfl)⟩) hP hD hS hA (fun r9 u10 H locs hp9 hP hD hS => ?_)
      have hP : va_P D vwCl (MW dA h ad (MS.s_too (MS.s_frm (MS.s_kind (MS.s_faultPlace (MS.s_faultCode x 1) (nI d)) 3) d) q)) H := hP
      have hD : va_D A (MW dA h ad (MS.s_too (MS.s_frm (MS.s_kind (MS.s_faultPlace (MS.s_faultCode x 1) (nI d)) 3) d) q)) := hD
      replace hp9 : bI false = r9 := Eq.symm hp9
      subst hp9
      have e9 : (MS.s_too (MS.s_frm (MS.s_kind (MS.s_faultPlace (MS.s_faultCode x 1) (nI d)) 3) d) q : MS) = MS.s_too (MS.s_frm (MS.s_kind (MS.s_faultPlace (MS.s_faultCode x 1) (nI d)) 3) d) b := by rw [show b = q from by (rw [i5])] <;> rfl
      exact rfZ hx hb hr (bI_nar false) hlk hS () rfl (cvP e9 hP) (cvD e9 hD) (Nat.le_of_ble_eq_true rfl) (Nat.le_of_ble_eq_true rfl) d_M_next_245
    refine lv_aload_n hx hb d_M_next_150 rfl (lv_at hl 1 rfl) ?_
    refine lv_dup hx hb d_M_next_151 rfl ?_
    refine gF (v := .int (nI d)) hx hb hown hE hK hP 0 rfl rfl layM 46 (by decide) w463 rfl d_M_next_152 ?_
    refine lv_iconst (v := 1) hx hb d_M_next_155 (by decide) ?_
    refine lv_iadd hx hb d_M_next_156 (tpi (y := nI (d + 1)) (nI_add (d) (1)) ?_)
    refine pF (v := .int (nI (d + 1))) hx hb hown hE hK hP hD hS 0 rfl rfl layM tyM tokM nmM 46 (by decide) w463 rfl rfl rfl (Nat.le_of_ble_eq_true rfl) d_M_next_157 (fun H locs hP hD hS => ?_)
    have hP : va_P D vwCl (MW dA h ad (MS.s_too (MS.s_frm (MS.s_kind x 3) d) (d + 1))) H := hP
    have hD : va_D A (MW dA h ad (MS.s_too (MS.s_frm (MS.s_kind x 3) d) (d + 1))) := hD
    have L160 : ∀ (k9 : Nat) (q : Nat) (i1 : txG x.tape x.length (x.length + 1 - q) q = b) (i2 : q ≤ x.length) (hk9 : x.length + 1 - q = k9), ∀ (H : Heap) (locs : List Loc) (ls : Array Slot) (hP : va_P D vwCl (MW dA h ad (MS.s_too (MS.s_frm (MS.s_kind x 3) d) q)) H) (hD : va_D A (MW dA h ad (MS.s_too (MS.s_frm (MS.s_kind x 3) d) q))) (hS : va_S A s.heap H locs) (hl : lv_has ls 2 [(0, .ref h)]), W p l e ({ frames := 3, cells := 0, slots := 0, locals := 46 } : Room) s m ([.ref h] : List Value).toArray below meth c H locs 0 0 (MQ below (va_Qi (fun (r9 : Int32) (u9 : Unit) => r9 = bI false) (fun (u9 : Unit) t9 => bW D A (MW dA h ad (MS.s_too (MS.s_frm (MS.s_kind (MS.s_faultPlace (MS.s_faultCode x 1) (nI d)) 3) d) b)) t9) A) ([.ref h] : List Value).toArray s 0 0 A) (F0 m 160 ls []) := by
      intro k9
      induction k9 using Nat.strongRecOn with
      | ind k9 ih160 =>
        intro q i1 i2 hk9 H locs ls hP hD hS hl
        refine lv_aload_n hx hb d_M_next_160 rfl (lv_at hl 0 rfl) ?_
        refine gF (v := .int (nI q)) hx hb hown hE hK hP 0 rfl rfl layM 46 (by decide) w463 rfl d_M_next_161 ?_
        refine lv_aload_n hx hb d_M_next_164 rfl (lv_at hl 0 rfl) ?_
        refine gF (v := .int (nI x.length)) hx hb hown hE hK hP 0 rfl rfl layM 2 (by decide) w320 rfl d_M_next_165 ?_
        refine lv_icmp_ge hx hb d_M_next_168 (tgt := 223) rfl (fun g11 => ?_) (fun g11 => ?_)
        · have g11 := (nI_leI (a := x.length) (b := q) (by omega) (by omega)).mp g11
          exact J223 q (i1.symm.trans (txG_n (Or.inl g11))) (by omega) H _ ls hP hD hS (lv_sub hl [0] rfl)
        · have g11 := mt (nI_leI (a := x.length) (b := q) (by omega) (by omega)).mpr g11
          refine lv_aload_n hx hb d_M_next_171 rfl (lv_at hl 0 rfl) ?_
          refine lv_aload_n hx hb d_M_next_172 rfl (lv_at hl 0 rfl) ?_
          refine gF (v := .int (nI q)) hx hb hown hE hK hP 0 rfl rfl layM 46 (by decide) w463 rfl d_M_next_173 ?_
          refine jfI (rnV (As := [.int (nI q)]) (rest := []) hx hb hml hown hE hK (hN _ _ hS) hP hD (k_at l D dA H.size h ad (MS.s_too (MS.s_frm (MS.s_kind x 3) d) q) q (show q < 2 ^ 31 from by omega) (show x.length ≤ 65536 from by omega)) (q0 := 0) rfl rfl w466 w465 w467 w468 w328 rfl rfl ⟨⟨by decide, by decide⟩, rfl⟩ ⟨(Nat.le_of_ble_eq_true rfl), (Nat.le_of_ble_eq_true rfl)⟩ rfl hl.1 rfl (Nat.le_of_ble_eq_true rfl) d_M_next_176 ⟨(Nat.le_of_ble_eq_true rfl), (Nat.le_of_ble_eq_true rfl)⟩) hP hD hS hA (fun r12 u13 H locs hp9 hP hD hS => ?_)
          have hP : va_P D vwCl (MW dA h ad (MS.s_too (MS.s_frm (MS.s_kind x 3) d) q)) H := hP
          have hD : va_D A (MW dA h ad (MS.s_too (MS.s_frm (MS.s_kind x 3) d) q)) := hD
          replace hp9 : x.atN q = r12 := Eq.symm hp9
          subst hp9
          refine lv_bipush (v := 31) hx hb d_M_next_179 (by decide) ?_
          refine lv_icmp_le hx hb d_M_next_181 (tgt := 223) rfl (fun g14 => ?_) (fun g14 => ?_)
          · have g14 := g14
            exact J223 q (i1.symm.trans (txG_n (Or.inr (by show (!decide (x.atN q ≤ 31) && (!decide (127 ≤ x.atN q) && !decide (x.atN q = 34))) = false; rw [decide_eq_true g14]; rfl)))) (by omega) H _ ls hP hD hS (lv_sub hl [0] rfl)
          · have g14 := g14
            refine lv_aload_n hx hb d_M_next_184 rfl (lv_at hl 0 rfl) ?_
            refine lv_aload_n hx hb d_M_next_185 rfl (lv_at hl 0 rfl) ?_
            refine gF (v := .int (nI q)) hx hb hown hE hK hP 0 rfl rfl layM 46 (by decide) w463 rfl d_M_next_186 ?_
            refine jfI (rnV (As := [.int (nI q)]) (rest := []) hx hb hml hown hE hK (hN _ _ hS) hP hD (k_at l D dA H.size h ad (MS.s_too (MS.s_frm (MS.s_kind x 3) d) q) q (show q < 2 ^ 31 from by omega) (show x.length ≤ 65536 from by omega)) (q0 := 0) rfl rfl w466 w465 w467 w468 w328 rfl rfl ⟨⟨by decide, by decide⟩, rfl⟩ ⟨(Nat.le_of_ble_eq_true rfl), (Nat.le_of_ble_eq_true rfl)⟩ rfl hl.1 rfl (Nat.le_of_ble_eq_true rfl) d_M_next_189 ⟨(Nat.le_of_ble_eq_true rfl), (Nat.le_of_ble_eq_true rfl)⟩) hP hD hS hA (fun r15 u16 H locs hp9 hP hD hS => ?_)
            have hP : va_P D vwCl (MW dA h ad (MS.s_too (MS.s_frm (MS.s_kind x 3) d) q)) H := hP
            have hD : va_D A (MW dA h ad (MS.s_too (MS.s_frm (MS.s_kind x 3) d) q)) := hD
            replace hp9 : x.atN q = r15 := Eq.symm hp9
            subst hp9
            refine lv_bipush (v := 127) hx hb d_M_next_192 (by decide) ?_
            refine lv_icmp_ge hx hb d_M_next_194 (tgt := 223) rfl (fun g17 => ?_) (fun g17 => ?_)
            · have g17 := g17
              exact J223 q (i1.symm.trans (txG_n (Or.inr (by show (!decide (x.atN q ≤ 31) && (!decide (127 ≤ x.atN q) && !decide (x.atN q = 34))) = false; rw [decide_eq_false g14, decide_eq_true g17]; rfl)))) (by omega) H _ ls hP hD hS (lv_sub hl [0] rfl)
            · have g17 := g17
              refine lv_aload_n hx hb d_M_next_197 rfl (lv_at hl 0 rfl) ?_
              refine lv_aload_n hx hb d_M_next_198 rfl (lv_at hl 0 rfl) ?_
              refine gF (v := .int (nI q)) hx hb hown hE hK hP 0 rfl rfl layM 46 (by decide) w463 rfl d_M_next_199 ?_
              refine jfI (rnV (As := [.int (nI q)]) (rest := []) hx hb hml hown hE hK (hN _ _ hS) hP hD (k_at l D dA H.size h ad (MS.s_too (MS.s_frm (MS.s_kind x 3) d) q) q (show q < 2 ^ 31 from by omega) (show x.length ≤ 65536 from by omega)) (q0 := 0) rfl rfl w466 w465 w467 w468 w328 rfl rfl ⟨⟨by decide, by decide⟩, rfl⟩ ⟨(Nat.le_of_ble_eq_true rfl), (Nat.le_of_ble_eq_true rfl)⟩ rfl hl.1 rfl (Nat.le_of_ble_eq_true rfl) d_M_next_202 ⟨(Nat.le_of_ble_eq_true rfl), (Nat.le_of_ble_eq_true rfl)⟩) hP hD hS hA (fun r18 u19 H locs hp9 hP hD hS => ?_)
              have hP : va_P D vwCl (MW dA h ad (MS.s_too (MS.s_frm (MS.s_kind x 3) d) q)) H := hP
              have hD : va_D A (MW dA h ad (MS.s_too (MS.s_frm (MS.s_kind x 3) d) q)) := hD
              replace hp9 : x.atN q = r18 := Eq.symm hp9
              subst hp9
              refine lv_bipush (v := 34) hx hb d_M_next_205 (by decide) ?_
              refine lv_icmp_eq hx hb d_M_next_207 (tgt := 223) rfl (fun g20 => ?_) (fun g20 => ?_)
              · have g20 := g20
                exact J223 q (i1.symm.trans (txG_n (Or.inr (by show (!decide (x.atN q ≤ 31) && (!decide (127 ≤ x.atN q) && !decide (x.atN q = 34))) = false; rw [decide_eq_false g14, decide_eq_false g17, decide_eq_true g20]; rfl)))) (by omega) H _ ls hP hD hS (lv_sub hl [0] rfl)
              · have g20 := g20
                refine lv_aload_n hx hb d_M_next_210 rfl (lv_at hl 0 rfl) ?_
                refine lv_dup hx hb d_M_next_211 rfl ?_
                refine gF (v := .int (nI q)) hx hb hown hE hK hP 0 rfl rfl layM 46 (by decide) w463 rfl d_M_next_212 ?_
                refine lv_iconst (v := 1) hx hb d_M_next_215 (by decide) ?_
                refine lv_iadd hx hb d_M_next_216 (tpi (y := nI (q + 1)) (nI_add (q) (1)) ?_)
                refine pF (v := .int (nI (q + 1))) hx hb hown hE hK hP hD hS 0 rfl rfl layM tyM tokM nmM 46 (by decide) w463 rfl rfl rfl (Nat.le_of_ble_eq_true rfl) d_M_next_217 (fun H locs hP hD hS => ?_)
                have hP : va_P D vwCl (MW dA h ad (MS.s_too (MS.s_frm (MS.s_kind x 3) d) (q + 1))) H := hP
                have hD : va_D A (MW dA h ad (MS.s_too (MS.s_frm (MS.s_kind x 3) d) (q + 1))) := hD
                refine lv_goto hx hb d_M_next_220 (tgt := 160) rfl ?_
                exact ih160 _ (by omega) (q + 1) (by rw [← i1, txG_t (w := x.length + 1 - q) (by omega) g11 (by show (!decide (x.atN q ≤ 31) && (!decide (127 ≤ x.atN q) && !decide (x.atN q = 34))) = true; rw [decide_eq_false g14, decide_eq_false g17, decide_eq_false g20]; rfl), show x.length + 1 - q - 1 = x.length + 1 - (q + 1) by omega]) (by omega) rfl H _ ls hP hD hS (lv_sub hl [0] rfl)
    exact L160 _ (d + 1) hg (by omega) rfl H _ ls hP hD hS (lv_sub hl [1] rfl)
  have L0 : ∀ (k9 : Nat) (q : Nat) (i1 : skG x.tape x.length (x.length + 1 - q) q = skG x.tape x.length (x.length + 1 - x.too) x.too) (i2 : q ≤ x.length) (hk9 : x.length + 1 - q = k9), ∀ (H : Heap) (locs : List Loc) (ls : Array Slot) (hP : va_P D vwCl (MW dA h ad (MS.s_too x q)) H) (hD : va_D A (MW dA h ad (MS.s_too x q))) (hS : va_S A s.heap H locs) (hl : lv_has ls 2 [(0, .ref h)]), W p l e ({ frames := 3, cells := 0, slots := 0, locals := 46 } : Room) s m ([.ref h] : List Value).toArray below meth c H locs 0 0 (MQ below (va_Qi (fun (r9 : Int32) (u9 : Unit) => r9 = bI false) (fun (u9 : Unit) t9 => bW D A (MW dA h ad (MS.s_too (MS.s_frm (MS.s_kind (MS.s_faultPlace (MS.s_faultCode x 1) (nI d)) 3) d) b)) t9) A) ([.ref h] : List Value).toArray s 0 0 A) (F0 m 0 ls []) := by
    intro k9
    induction k9 using Nat.strongRecOn with
    | ind k9 ih0 =>
      intro q i1 i2 hk9 H locs ls hP hD hS hl
      refine lv_aload_n hx hb d_M_next_0 rfl (lv_at hl 0 rfl) ?_
      refine gF (v := .int (nI q)) hx hb hown hE hK hP 0 rfl rfl layM 46 (by decide) w463 rfl d_M_next_1 ?_
      refine lv_aload_n hx hb d_M_next_4 rfl (lv_at hl 0 rfl) ?_
      refine gF (v := .int (nI x.length)) hx hb hown hE hK hP 0 rfl rfl layM 2 (by decide) w320 rfl d_M_next_5 ?_
      refine lv_icmp_ge hx hb d_M_next_8 (tgt := 38) rfl (fun g21 => ?_) (fun g21 => ?_)
      · have g21 := (nI_leI (a := x.length) (b := q) (by omega) (by omega)).mp g21
        have e9 : (MS.s_too x q : MS) = MS.s_too x d := by rw [show d = q from (hp.symm.trans (i1.symm.trans (skG_n (Or.inl g21))))] <;> rfl
        exact J38  H _ ls (cvP e9 hP) (cvD e9 hD) hS (lv_sub hl [0] rfl)
      · have g21 := mt (nI_leI (a := x.length) (b := q) (by omega) (by omega)).mpr g21
        refine lv_aload_n hx hb d_M_next_11 rfl (lv_at hl 0 rfl) ?_
        refine gF (v := .ref (ad 1)) hx hb hown hE hK hP 0 rfl rfl layM 1 (by decide) w497 rfl d_M_next_12 ?_
        refine lv_aload_n hx hb d_M_next_15 rfl (lv_at hl 0 rfl) ?_
        refine gF (v := .int (nI q)) hx hb hown hE hK hP 0 rfl rfl layM 46 (by decide) w463 rfl d_M_next_16 ?_
        refine nbld (f := x.tape) hx hb hK hP 1 0 rfl rfl (q) (by omega) (by decide) d_M_next_19 ?_
        refine lv_bipush (v := 32) hx hb d_M_next_20 (by decide) ?_
        refine lv_icmp_ne hx hb d_M_next_22 (tgt := 38) rfl (fun g22 => ?_) (fun g22 => ?_)
        · have g22 := g22
          have e9 : (MS.s_too x q : MS) = MS.s_too x d := by rw [show d = q from (hp.symm.trans (i1.symm.trans (skG_n (Or.inr g22))))] <;> rfl
          exact J38  H _ ls (cvP e9 hP) (cvD e9 hD) hS (lv_sub hl [0] rfl)
        · have g22 := g22
          refine lv_aload_n hx hb d_M_next_25 rfl (lv_at hl 0 rfl) ?_
          refine lv_dup hx hb d_M_next_26 rfl ?_
          refine gF (v := .int (nI q)) hx hb hown hE hK hP 0 rfl rfl layM 46 (by decide) w463 rfl d_M_next_27 ?_
          refine lv_iconst (v := 1) hx hb d_M_next_30 (by decide) ?_
          refine lv_iadd hx hb d_M_next_31 (tpi (y := nI (q + 1)) (nI_add (q) (1)) ?_)
          refine pF (v := .int (nI (q + 1))) hx hb hown hE hK hP hD hS 0 rfl rfl layM tyM tokM nmM 46 (by decide) w463 rfl rfl rfl (Nat.le_of_ble_eq_true rfl) d_M_next_32 (fun H locs hP hD hS => ?_)
          have hP : va_P D vwCl (MW dA h ad (MS.s_too x (q + 1))) H := hP
          have hD : va_D A (MW dA h ad (MS.s_too x (q + 1))) := hD
          refine lv_goto hx hb d_M_next_35 (tgt := 0) rfl ?_
          exact ih0 _ (by omega) (q + 1) (by rw [← i1, skG_t (w := x.length + 1 - q) (by omega) g21 g22, show x.length + 1 - q - 1 = x.length + 1 - (q + 1) by omega]) (by omega) rfl H _ ls hP hD hS (lv_sub hl [0] rfl)
  exact L0 _ x.too rfl ht rfl H _ ls hP hD hS (lv_sub hl [0] rfl)
theorem d_M_next_259 : decode prog_14_method_57_code 259 = .ok (.aload_n 0, 1) := by decide +kernel
theorem d_M_next_260 : decode prog_14_method_57_code 260 = .ok (.iload_n 1, 1) := by decide +kernel
theorem d_M_next_261 : decode prog_14_method_57_code 261 = .ok (.aload_n 0, 1) := by decide +kernel
theorem d_M_next_262 : decode prog_14_method_57_code 262 = .ok (.aload_n 0, 1) := by decide +kernel
theorem d_M_next_263 : decode prog_14_method_57_code 263 = .ok (.getfield 345, 3) := by decide +kernel
theorem d_M_next_266 : decode prog_14_method_57_code 266 = .ok (.iconst 1, 1) := by decide +kernel
theorem d_M_next_267 : decode prog_14_method_57_code 267 = .ok (.iadd, 1) := by decide +kernel
theorem d_M_next_268 : decode prog_14_method_57_code 268 = .ok (.invokevirtual 348, 3) := by decide +kernel
theorem d_M_next_271 : decode prog_14_method_57_code 271 = .ok (.invokevirtual 363, 3) := by decide +kernel
theorem d_M_next_274 : decode prog_14_method_57_code 274 = .ok (.ireturn, 1) := by decide +kernel
theorem w966 : Cond.methodLink "SeriesVaultModel" 363 ⟨"SeriesVaultModel", "readSign", "(II)Z"⟩ ∈ aW := aw_of (tb_10 (List.mem_of_getElem? (i := 177) rfl)) rfl
theorem w967 : Cond.code ⟨"SeriesVaultModel", "readSign", "(II)Z"⟩ prog_14_method_59_code 5 (some FieldType.boolean) ∈ aW := aw_of (tb_10 (List.mem_of_getElem? (i := 180) rfl)) rfl
theorem w968 : Cond.instanceMethod ⟨"SeriesVaultModel", "readSign", "(II)Z"⟩ ∈ aW := aw_of (tb_10 (List.mem_of_getElem? (i := 179) rfl)) rfl
theorem w969 : Cond.selects "SeriesVaultModel" ⟨"SeriesVaultModel", "readSign", "(II)Z"⟩ ⟨"SeriesVaultModel", "readSign", "(II)Z"⟩ ∈ aW := aw_pr (List.mem_map.mpr ⟨_, pv_7 (List.mem_of_getElem? (i := 2) rfl), rfl⟩) rfl
set_option maxHeartbeats 4000000 in
set_option maxRecDepth 100000 in
theorem k_next_sx (l : Launch) (D : va_G) (dA : Nat → ClassId) (sz : Nat) (h : Nat) (ad : Nat → Nat) (x : MS) (d : Nat) (hl1 : x.length ≤ 65536) (ht : x.too ≤ x.length) (hp : skG x.tape x.length (x.length + 1 - x.too) x.too = d) (hk : d < x.length) (hdg : isDg (x.atN d) = false) (hlt : isLt (x.atN d) = false) (htq : ¬ x.atN d = 34) (h0 : sgTwo (x.atN d) (x.atN (d + 1)) = 0) (h1 : sgOne (x.atN d) = false) (hf : x.faultCode = 0) : Met l ⟨"SeriesVaultModel", "next", "()Z"⟩ [Cond.code ⟨"SeriesVaultModel", "next", "()Z"⟩ prog_14_method_57_code 2 (some FieldType.boolean)] { frames := 3, cells := 0, slots := 0, locals := 46 } (pC D dA [.ref h] (MW dA h ad x) sz) (va_Qi (fun (r9 : Int32) (u9 : Unit) => r9 = bI false) (fun (u9 : Unit) t9 => bW D (va_A (MW dA h ad x) sz) (MW dA h ad (MS.s_too (MS.s_frm (MS.s_faultPlace (MS.s_faultCode x 1) (nI d)) d) d)) t9) (va_A (MW dA h ad x) sz)) 0 0 (va_A (MW dA h ad x) sz) := by
  refine mkC (y := ⟨"SeriesVaultModel", "next", "()Z"⟩) (cc := prog_14_method_57_code) (maxL := 2) (av := [.ref h]) (ws := MW dA h ad x) (sz := sz) (Qc := fun A => va_Qi (fun (r9 : Int32) (u9 : Unit) => r9 = bI false) (fun (u9 : Unit) t9 => bW D A (MW dA h ad (MS.s_too (MS.s_frm (MS.s_faultPlace (MS.s_faultCode x 1) (nI d)) d) d)) t9) A) (by decide) (Nat.le_of_ble_eq_true rfl) ?_
  intro A p e s m below meth c ls hsz hB
  obtain ⟨hx, hb, hr, hml, hown, hin, hlk, hE, hK, hP, hD, hS, hA, hN, hl⟩ := hB
  have hown : s.vm.findClass "SeriesVaultModel" = some m.cls := hown
  have hl : lv_has ls 2 [(0, .ref h)] := hl
  obtain ⟨H, hH⟩ : ∃ z, z = s.heap := ⟨_, rfl⟩
  have hP : va_P D vwCl (MW dA h ad x) H := by rw [hH]; exact hP
  have hS : va_S A s.heap H [] := by rw [hH]; exact hS
  rw [← hH]
  have J38 : ∀ (H : Heap) (locs : List Loc) (ls : Array Slot) (hP : va_P D vwCl (MW dA h ad (MS.s_too x d)) H) (hD : va_D A (MW dA h ad (MS.s_too x d))) (hS : va_S A s.heap H locs) (hl : lv_has ls 2 [(0, .ref h)]), W p l e ({ frames := 3, cells := 0, slots := 0, locals := 46 } : Room) s m ([.ref h] : List Value).toArray below meth c H locs 0 0 (MQ below (va_Qi (fun (r9 : Int32) (u9 : Unit) => r9 = bI false) (fun (u9 : Unit) t9 => bW D A (MW dA h ad (MS.s_too (MS.s_frm (MS.s_faultPlace (MS.s_faultCode x 1) (nI d)) d) d)) t9) A) ([.ref h] : List Value).toArray s 0 0 A) (F0 m 38 ls []) := by
    intro  H locs ls hP hD hS hl
    have d1 : d ≤ x.length := by rw [← hp]; exact skG_le ht
    refine lv_aload_n hx hb d_M_next_38 rfl (lv_at hl 0 rfl) ?_
    refine lv_aload_n hx hb d_M_next_39 rfl (lv_at hl 0 rfl) ?_
    refine gF (v := .int (nI d)) hx hb hown hE hK hP 0 rfl rfl layM 46 (by decide) w463 rfl d_M_next_40 ?_
    refine pF (v := .int (nI d)) hx hb hown hE hK hP hD hS 0 rfl rfl layM tyM tokM nmM 45 (by decide) w464 rfl rfl rfl (Nat.le_of_ble_eq_true rfl) d_M_next_43 (fun H locs hP hD hS => ?_)
    have hP : va_P D vwCl (MW dA h ad (MS.s_too (MS.s_frm x d) d)) H := hP
    have hD : va_D A (MW dA h ad (MS.s_too (MS.s_frm x d) d)) := hD
    refine lv_aload_n hx hb d_M_next_46 rfl (lv_at hl 0 rfl) ?_
    refine lv_aload_n hx hb d_M_next_47 rfl (lv_at hl 0 rfl) ?_
    refine gF (v := .int (nI d)) hx hb hown hE hK hP 0 rfl rfl layM 45 (by decide) w464 rfl d_M_next_48 ?_
    refine jfI (rnV (As := [.int (nI d)]) (rest := []) hx hb hml hown hE hK (hN _ _ hS) hP hD (k_at l D dA H.size h ad (MS.s_too (MS.s_frm x d) d) d (show d < 2 ^ 31 from by omega) (show x.length ≤ 65536 from by omega)) (q0 := 0) rfl rfl w466 w465 w467 w468 w328 rfl rfl ⟨⟨by decide, by decide⟩, rfl⟩ ⟨(Nat.le_of_ble_eq_true rfl), (Nat.le_of_ble_eq_true rfl)⟩ rfl hl.1 rfl (Nat.le_of_ble_eq_true rfl) d_M_next_51 ⟨(Nat.le_of_ble_eq_true rfl), (Nat.le_of_ble_eq_true rfl)⟩) hP hD hS hA (fun r1 u2 H locs hp9 hP hD hS => ?_)
    have hP : va_P D vwCl (MW dA h ad (MS.s_too (MS.s_frm x d) d)) H := hP
    have hD : va_D A (MW dA h ad (MS.s_too (MS.s_frm x d) d)) := hD
    replace hp9 : x.atN d = r1 := Eq.symm hp9
    subst hp9
    refine lv_istore_n hx hb d_M_next_54 rfl hl (by decide) rfl (fun ls hl => ?_)
    have hl : lv_has ls 2 [(1, .int (x.atN d)), (0, .ref h)] := hl
    refine lv_aload_n hx hb d_M_next_55 rfl (lv_at hl 1 rfl) ?_
    refine gF (v := .int (nI d)) hx hb hown hE hK hP 0 rfl rfl layM 45 (by decide) w464 rfl d_M_next_56 ?_
    refine lv_aload_n hx hb d_M_next_59 rfl (lv_at hl 1 rfl) ?_
    refine gF (v := .int (nI x.length)) hx hb hown hE hK hP 0 rfl rfl layM 2 (by decide) w320 rfl d_M_next_60 ?_
    refine lv_icmp_lt hx hb d_M_next_63 (tgt := 74) rfl (fun _ => ?_) (fun h9 => absurd ((nI_ltI (a := d) (b := x.length) (by omega) (by omega)).mpr hk) h9)
    refine lv_iload_n hx hb d_M_next_74 rfl (lv_at hl 0 rfl) ?_
    have hPc := hP.sub (ws' := []) [] rfl
    have hDc := hD.sub (ws' := []) [] (by decide) rfl
    refine jnI (rnS (As := [.int (x.atN d)]) (rest := []) hx hb hml hown hE hK (hN _ _ hS) hPc hDc (k_isDigit l D dA H.size (x.atN d)) w955 w954 w956 w328 rfl rfl ⟨⟨by decide, by decide⟩, rfl⟩ ⟨(Nat.le_of_ble_eq_true rfl), (Nat.le_of_ble_eq_true rfl)⟩ rfl hl.1 rfl (Nat.le_of_ble_eq_true rfl) d_M_next_75 ⟨(Nat.le_of_ble_eq_true rfl), (Nat.le_of_ble_eq_true rfl)⟩) hP hD hS hA [] [0, 1, 2, 3, 4, 5, 6, 7, 8, 9, 10, 11, 12, 13, 14, 15, 16, 17, 18, 19, 20, 21, 22, 23, 24, 25, 26, 27, 28, 29, 30, 31, 32, 33, 34, 35, 36, 37, 38] (wr := MW dA h ad (MS.s_too (MS.s_frm x d) d)) rfl rfl (by decide) (by decide) (fun r3 u9 H locs hp9 hP hD hS => ?_)
    have hP : va_P D vwCl (MW dA h ad (MS.s_too (MS.s_frm x d) d)) H := hP
    have hD : va_D A (MW dA h ad (MS.s_too (MS.s_frm x d) d)) := hD
    replace hp9 : bI (isDg (x.atN d)) = r3 := Eq.symm hp9
    subst hp9
    refine lv_if_eq hx hb d_M_next_78 (tgt := 86) rfl (fun _ => ?_) (fun h9 => absurd (by rw [hdg]; decide) h9)
    refine lv_iload_n hx hb d_M_next_86 rfl (lv_at hl 0 rfl) ?_
    have hPc := hP.sub (ws' := []) [] rfl
    have hDc := hD.sub (ws' := []) [] (by decide) rfl
    refine jnI (rnS (As := [.int (x.atN d)]) (rest := []) hx hb hml hown hE hK (hN _ _ hS) hPc hDc (k_isLetter l D dA H.size (x.atN d)) w964 w963 w965 w328 rfl rfl ⟨⟨by decide, by decide⟩, rfl⟩ ⟨(Nat.le_of_ble_eq_true rfl), (Nat.le_of_ble_eq_true rfl)⟩ rfl hl.1 rfl (Nat.le_of_ble_eq_true rfl) d_M_next_87 ⟨(Nat.le_of_ble_eq_true rfl), (Nat.le_of_ble_eq_true rfl)⟩) hP hD hS hA [] [0, 1, 2, 3, 4, 5, 6, 7, 8, 9, 10, 11, 12, 13, 14, 15, 16, 17, 18, 19, 20, 21, 22, 23, 24, 25, 26, 27, 28, 29, 30, 31, 32, 33, 34, 35, 36, 37, 38] (wr := MW dA h ad (MS.s_too (MS.s_frm x d) d)) rfl rfl (by decide) (by decide) (fun r5 u9 H locs hp9 hP hD hS => ?_)
    have hP : va_P D vwCl (MW dA h ad (MS.s_too (MS.s_frm x d) d)) H := hP
    have hD : va_D A (MW dA h ad (MS.s_too (MS.s_frm x d) d)) := hD
    replace hp9 : bI (isLt (x.atN d)) = r5 := Eq.symm hp9
    subst hp9
    refine lv_if_eq hx hb d_M_next_90 (tgt := 139) rfl (fun _ => ?_) (fun h9 => absurd (by rw [hlt]; decide) h9)
    refine lv_iload_n hx hb d_M_next_139 rfl (lv_at hl 0 rfl) ?_
    refine lv_bipush (v := 34) hx hb d_M_next_140 (by decide) ?_
    refine lv_icmp_ne hx hb d_M_next_142 (tgt := 259) rfl (fun _ => ?_) (fun h9 => absurd h9 htq)
    refine lv_aload_n hx hb d_M_next_259 rfl (lv_at hl 1 rfl) ?_
    refine lv_iload_n hx hb d_M_next_260 rfl (lv_at hl 0 rfl) ?_
    refine lv_aload_n hx hb d_M_next_261 rfl (lv_at hl 1 rfl) ?_
    refine lv_aload_n hx hb d_M_next_262 rfl (lv_at hl 1 rfl) ?_
    refine gF (v := .int (nI d)) hx hb hown hE hK hP 0 rfl rfl layM 45 (by decide) w464 rfl d_M_next_263 ?_
    refine lv_iconst (v := 1) hx hb d_M_next_266 (by decide) ?_
    refine lv_iadd hx hb d_M_next_267 (tpi (y := nI (d + 1)) (nI_add (d) (1)) ?_)
    refine jfI (rnV (As := [.int (nI (d + 1))]) (rest := [.int (x.atN d), .ref h]) hx hb hml hown hE hK (hN _ _ hS) hP hD (k_at l D dA H.size h ad (MS.s_too (MS.s_frm x d) d) (d + 1) (show (d + 1) < 2 ^ 31 from by omega) (show x.length ≤ 65536 from by omega)) (q0 := 0) rfl rfl w466 w465 w467 w468 w328 rfl rfl ⟨⟨by decide, by decide⟩, rfl⟩ ⟨(Nat.le_of_ble_eq_true rfl), (Nat.le_of_ble_eq_true rfl)⟩ rfl hl.1 rfl (Nat.le_of_ble_eq_true rfl) d_M_next_268 ⟨(Nat.le_of_ble_eq_true rfl), (Nat.le_of_ble_eq_true rfl)⟩) hP hD hS hA (fun r7 u8 H locs hp9 hP hD hS => ?_)
    have hP : va_P D vwCl (MW dA h ad (MS.s_too (MS.s_frm x d) d)) H := hP
    have hD : va_D A (MW dA h ad (MS.s_too (MS.s_frm x d) d)) := hD
    replace hp9 : x.atN (d + 1) = r7 := Eq.symm hp9
    subst hp9
    refine jfI (rnV (As := [.int (x.atN d), .int (x.atN (d + 1))]) (rest := []) hx hb hml hown hE hK (hN _ _ hS) hP hD (k_readSign_x l D dA H.size h ad (MS.s_too (MS.s_frm x d) d) (x.atN d) (x.atN (d + 1)) h0 h1 hf) (q0 := 0) rfl rfl w967 w966 w968 w969 w328 rfl rfl ⟨⟨by decide, by decide⟩, rfl⟩ ⟨(Nat.le_of_ble_eq_true rfl), (Nat.le_of_ble_eq_true rfl)⟩ rfl hl.1 rfl (Nat.le_of_ble_eq_true rfl) d_M_next_271 ⟨(Nat.le_of_ble_eq_true rfl), (Nat.le_of_ble_eq_true rfl)⟩) hP hD hS hA (fun r9 u10 H locs hp9 hP hD hS => ?_)
    have hP : va_P D vwCl (MW dA h ad (MS.s_too (MS.s_frm (MS.s_faultPlace (MS.s_faultCode x 1) (nI d)) d) d)) H := hP
    have hD : va_D A (MW dA h ad (MS.s_too (MS.s_frm (MS.s_faultPlace (MS.s_faultCode x 1) (nI d)) d) d)) := hD
    replace hp9 : bI false = r9 := Eq.symm hp9
    subst hp9
    exact rfZ hx hb hr (bI_nar false) hlk hS () rfl hP hD (Nat.le_of_ble_eq_true rfl) (Nat.le_of_ble_eq_true rfl) d_M_next_274
  have L0 : ∀ (k9 : Nat) (q : Nat) (i1 : skG x.tape x.length (x.length + 1 - q) q = skG x.tape x.length (x.length + 1 - x.too) x.too) (i2 : q ≤ x.length) (hk9 : x.length + 1 - q = k9), ∀ (H : Heap) (locs : List Loc) (ls : Array Slot) (hP : va_P D vwCl (MW dA h ad (MS.s_too x q)) H) (hD : va_D A (MW dA h ad (MS.s_too x q))) (hS : va_S A s.heap H locs) (hl : lv_has ls 2 [(0, .ref h)]), W p l e ({ frames := 3, cells := 0, slots := 0, locals := 46 } : Room) s m ([.ref h] : List Value).toArray below meth c H locs 0 0 (MQ below (va_Qi (fun (r9 : Int32) (u9 : Unit) => r9 = bI false) (fun (u9 : Unit) t9 => bW D A (MW dA h ad (MS.s_too (MS.s_frm (MS.s_faultPlace (MS.s_faultCode x 1) (nI d)) d) d)) t9) A) ([.ref h] : List Value).toArray s 0 0 A) (F0 m 0 ls []) := by
    intro k9
    induction k9 using Nat.strongRecOn with
    | ind k9 ih0 =>
      intro q i1 i2 hk9 H locs ls hP hD hS hl
      refine lv_aload_n hx hb d_M_next_0 rfl (lv_at hl 0 rfl) ?_
      refine gF (v := .int (nI q)) hx hb hown hE hK hP 0 rfl rfl layM 46 (by decide) w463 rfl d_M_next_1 ?_
      refine lv_aload_n hx hb d_M_next_4 rfl (lv_at hl 0 rfl) ?_
      refine gF (v := .int (nI x.length)) hx hb hown hE hK hP 0 rfl rfl layM 2 (by decide) w320 rfl d_M_next_5 ?_
      refine lv_icmp_ge hx hb d_M_next_8 (tgt := 38) rfl (fun g11 => ?_) (fun g11 => ?_)
      · have g11 := (nI_leI (a := x.length) (b := q) (by omega) (by omega)).mp g11
        have e9 : (MS.s_too x q : MS) = MS.s_too x d := by rw [show d = q from (hp.symm.trans (i1.symm.trans (skG_n (Or.inl g11))))] <;> rfl
        exact J38  H _ ls (cvP e9 hP) (cvD e9 hD) hS (lv_sub hl [0] rfl)
      · have g11 := mt (nI_leI (a := x.length) (b := q) (by omega) (by omega)).mpr g11
        refine lv_aload_n hx hb d_M_next_11 rfl (lv_at hl 0 rfl) ?_
        refine gF (v := .ref (ad 1)) hx hb hown hE hK hP 0 rfl rfl layM 1 (by decide) w497 rfl d_M_next_12 ?_
        refine lv_aload_n hx hb d_M_next_15 rfl (lv_at hl 0 rfl) ?_
        refine gF (v := .int (nI q)) hx hb hown hE hK hP 0 rfl rfl layM 46 (by decide) w463 rfl d_M_next_16 ?_
        refine nbld (f := x.tape) hx hb hK hP 1 0 rfl rfl (q) (by omega) (by decide) d_M_next_19 ?_
        refine lv_bipush (v := 32) hx hb d_M_next_20 (by decide) ?_
        refine lv_icmp_ne hx hb d_M_next_22 (tgt := 38) rfl (fun g12 => ?_) (fun g12 => ?_)
        · have g12 := g12
          have e9 : (MS.s_too x q : MS) = MS.s_too x d := by rw [show d = q from (hp.symm.trans (i1.symm.trans (skG_n (Or.inr g12))))] <;> rfl
          exact J38  H _ ls (cvP e9 hP) (cvD e9 hD) hS (lv_sub hl [0] rfl)
        · have g12 := g12
          refine lv_aload_n hx hb d_M_next_25 rfl (lv_at hl 0 rfl) ?_
          refine lv_dup hx hb d_M_next_26 rfl ?_
          refine gF (v := .int (nI q)) hx hb hown hE hK hP 0 rfl rfl layM 46 (by decide) w463 rfl d_M_next_27 ?_
          refine lv_iconst (v := 1) hx hb d_M_next_30 (by decide) ?_
          refine lv_iadd hx hb d_M_next_31 (tpi (y := nI (q + 1)) (nI_add (q) (1)) ?_)
          refine pF (v := .int (nI (q + 1))) hx hb hown hE hK hP hD hS 0 rfl rfl layM tyM tokM nmM 46 (by decide) w463 rfl rfl rfl (Nat.le_of_ble_eq_true rfl) d_M_next_32 (fun H locs hP hD hS => ?_)
          have hP : va_P D vwCl (MW dA h ad (MS.s_too x (q + 1))) H := hP
          have hD : va_D A (MW dA h ad (MS.s_too x (q + 1))) := hD
          refine lv_goto hx hb d_M_next_35 (tgt := 0) rfl ?_
          exact ih0 _ (by omega) (q + 1) (by rw [← i1, skG_t (w := x.length + 1 - q) (by omega) g11 g12, show x.length + 1 - q - 1 = x.length + 1 - (q + 1) by omega]) (by omega) rfl H _ ls hP hD hS (lv_sub hl [0] rfl)
  exact L0 _ x.too rfl ht rfl H _ ls hP hD hS (lv_sub hl [0] rfl)
set_option maxHeartbeats 4000000 in
set_option maxRecDepth 100000 in
theorem k_next_s1 (l : Launch) (D : va_G) (dA : Nat → ClassId) (sz : Nat) (h : Nat) (ad : Nat → Nat) (x : MS) (d : Nat) (hl1 : x.length ≤ 65536) (ht : x.too ≤ x.length) (hp : skG x.tape x.length (x.length + 1 - x.too) x.too = d) (hk : d < x.length) (hdg : isDg (x.atN d) = false) (hlt : isLt (x.atN d) = false) (htq : ¬ x.atN d = 34) (h0 : sgTwo (x.atN d) (x.atN (d + 1)) = 0) (h1 : sgOne (x.atN d) = true) : Met l ⟨"SeriesVaultModel", "next", "()Z"⟩ [Cond.code ⟨"SeriesVaultModel", "next", "()Z"⟩ prog_14_method_57_code 2 (some FieldType.boolean)] { frames := 3, cells := 0, slots := 0, locals := 46 } (pC D dA [.ref h] (MW dA h ad x) sz) (va_Qi (fun (r9 : Int32) (u9 : Unit) => r9 = bI true) (fun (u9 : Unit) t9 => bW D (va_A (MW dA h ad x) sz) (MW dA h ad (MS.s_too (MS.s_frm (MS.s_kind x (x.atN d)) d) (d + 1))) t9) (va_A (MW dA h ad x) sz)) 0 0 (va_A (MW dA h ad x) sz) := by
  refine mkC (y := ⟨"SeriesVaultModel", "next", "()Z"⟩) (cc := prog_14_method_57_code) (maxL := 2) (av := [.ref h]) (ws := MW dA h ad x) (sz := sz) (Qc := fun A => va_Qi (fun (r9 : Int32) (u9 : Unit) => r9 = bI true) (fun (u9 : Unit) t9 => bW D A (MW dA h ad (MS.s_too (MS.s_frm (MS.s_kind x (x.atN d)) d) (d + 1))) t9) A) (by decide) (Nat.le_of_ble_eq_true rfl) ?_
  intro A p e s m below meth c ls hsz hB
  obtain ⟨hx, hb, hr, hml, hown, hin, hlk, hE, hK, hP, hD, hS, hA, hN, hl⟩ := hB
  have hown : s.vm.findClass "SeriesVaultModel" = some m.cls := hown
  have hl : lv_has ls 2 [(0, .ref h)] := hl
  obtain ⟨H, hH⟩ : ∃ z, z = s.heap := ⟨_, rfl⟩
  have hP : va_P D vwCl (MW dA h ad x) H := by rw [hH]; exact hP
  have hS : va_S A s.heap H [] := by rw [hH]; exact hS
  rw [← hH]
  have J38 : ∀ (H : Heap) (locs : List Loc) (ls : Array Slot) (hP : va_P D vwCl (MW dA h ad (MS.s_too x d)) H) (hD : va_D A (MW dA h ad (MS.s_too x d))) (hS : va_S A s.heap H locs) (hl : lv_has ls 2 [(0, .ref h)]), W p l e ({ frames := 3, cells := 0, slots := 0, locals := 46 } : Room) s m ([.ref h] : List Value).toArray below meth c H locs 0 0 (MQ below (va_Qi (fun (r9 : Int32) (u9 : Unit) => r9 = bI true) (fun (u9 : Unit) t9 => bW D A (MW dA h ad (MS.s_too (MS.s_frm (MS.s_kind x (x.atN d)) d) (d + 1))) t9) A) ([.ref h] : List Value).toArray s 0 0 A) (F0 m 38 ls []) := by
    intro  H locs ls hP hD hS hl
    have d1 : d ≤ x.length := by rw [← hp]; exact skG_le ht
    refine lv_aload_n hx hb d_M_next_38 rfl (lv_at hl 0 rfl) ?_
    refine lv_aload_n hx hb d_M_next_39 rfl (lv_at hl 0 rfl) ?_
    refine gF (v := .int (nI d)) hx hb hown hE hK hP 0 rfl rfl layM 46 (by decide) w463 rfl d_M_next_40 ?_
    refine pF (v := .int (nI d)) hx hb hown hE hK hP hD hS 0 rfl rfl layM tyM tokM nmM 45 (by decide) w464 rfl rfl rfl (Nat.le_of_ble_eq_true rfl) d_M_next_43 (fun H locs hP hD hS => ?_)
    have hP : va_P D vwCl (MW dA h ad (MS.s_too (MS.s_frm x d) d)) H := hP
    have hD : va_D A (MW dA h ad (MS.s_too (MS.s_frm x d) d)) := hD
    refine lv_aload_n hx hb d_M_next_46 rfl (lv_at hl 0 rfl) ?_
    refine lv_aload_n hx hb d_M_next_47 rfl (lv_at hl 0 rfl) ?_
    refine gF (v := .int (nI d)) hx hb hown hE hK hP 0 rfl rfl layM 45 (by decide) w464 rfl d_M_next_48 ?_
    refine jfI (rnV (As := [.int (nI d)]) (rest := []) hx hb hml hown hE hK (hN _ _ hS) hP hD (k_at l D dA H.size h ad (MS.s_too (MS.s_frm x d) d) d (show d < 2 ^ 31 from by omega) (show x.length ≤ 65536 from by omega)) (q0 := 0) rfl rfl w466 w465 w467 w468 w328 rfl rfl ⟨⟨by decide, by decide⟩, rfl⟩ ⟨(Nat.le_of_ble_eq_true rfl), (Nat.le_of_ble_eq_true rfl)⟩ rfl hl.1 rfl (Nat.le_of_ble_eq_true rfl) d_M_next_51 ⟨(Nat.le_of_ble_eq_true rfl), (Nat.le_of_ble_eq_true rfl)⟩) hP hD hS hA (fun r1 u2 H locs hp9 hP hD hS => ?_)
    have hP : va_P D vwCl (MW dA h ad (MS.s_too (MS.s_frm x d) d)) H := hP
    have hD : va_D A (MW dA h ad (MS.s_too (MS.s_frm x d) d)) := hD
    replace hp9 : x.atN d = r1 := Eq.symm hp9
    subst hp9
    refine lv_istore_n hx hb d_M_next_54 rfl hl (by decide) rfl (fun ls hl => ?_)
    have hl : lv_has ls 2 [(1, .int (x.atN d)), (0, .ref h)] := hl
    refine lv_aload_n hx hb d_M_next_55 rfl (lv_at hl 1 rfl) ?_
    refine gF (v := .int (nI d)) hx hb hown hE hK hP 0 rfl rfl layM 45 (by decide) w464 rfl d_M_next_56 ?_
    refine lv_aload_n hx hb d_M_next_59 rfl (lv_at hl 1 rfl) ?_
    refine gF (v := .int (nI x.length)) hx hb hown hE hK hP 0 rfl rfl layM 2 (by decide) w320 rfl d_M_next_60 ?_
    refine lv_icmp_lt hx hb d_M_next_63 (tgt := 74) rfl (fun _ => ?_) (fun h9 => absurd ((nI_ltI (a := d) (b := x.length) (by omega) (by omega)).mpr hk) h9)
    refine lv_iload_n hx hb d_M_next_74 rfl (lv_at hl 0 rfl) ?_
    have hPc := hP.sub (ws' := []) [] rfl
    have hDc := hD.sub (ws' := []) [] (by decide) rfl
    refine jnI (rnS (As := [.int (x.atN d)]) (rest := []) hx hb hml hown hE hK (hN _ _ hS) hPc hDc (k_isDigit l D dA H.size (x.atN d)) w955 w954 w956 w328 rfl rfl ⟨⟨by decide, by decide⟩, rfl⟩ ⟨(Nat.le_of_ble_eq_true rfl), (Nat.le_of_ble_eq_true rfl)⟩ rfl hl.1 rfl (Nat.le_of_ble_eq_true rfl) d_M_next_75 ⟨(Nat.le_of_ble_eq_true rfl), (Nat.le_of_ble_eq_true rfl)⟩) hP hD hS hA [] [0, 1, 2, 3, 4, 5, 6, 7, 8, 9, 10, 11, 12, 13, 14, 15, 16, 17, 18, 19, 20, 21, 22, 23, 24, 25, 26, 27, 28, 29, 30, 31, 32, 33, 34, 35, 36, 37, 38] (wr := MW dA h ad (MS.s_too (MS.s_frm x d) d)) rfl rfl (by decide) (by decide) (fun r3 u9 H locs hp9 hP hD hS => ?_)
    have hP : va_P D vwCl (MW dA h ad (MS.s_too (MS.s_frm x d) d)) H := hP
    have hD : va_D A (MW dA h ad (MS.s_too (MS.s_frm x d) d)) := hD
    replace hp9 : bI (isDg (x.atN d)) = r3 := Eq.symm hp9
    subst hp9
    refine lv_if_eq hx hb d_M_next_78 (tgt := 86) rfl (fun _ => ?_) (fun h9 => absurd (by rw [hdg]; decide) h9)
    refine lv_iload_n hx hb d_M_next_86 rfl (lv_at hl 0 rfl) ?_
    have hPc := hP.sub (ws' := []) [] rfl
    have hDc := hD.sub (ws' := []) [] (by decide) rfl
    refine jnI (rnS (As := [.int (x.atN d)]) (rest := []) hx hb hml hown hE hK (hN _ _ hS) hPc hDc (k_isLetter l D dA H.size (x.atN d)) w964 w963 w965 w328 rfl rfl ⟨⟨by decide, by decide⟩, rfl⟩ ⟨(Nat.le_of_ble_eq_true rfl), (Nat.le_of_ble_eq_true rfl)⟩ rfl hl.1 rfl (Nat.le_of_ble_eq_true rfl) d_M_next_87 ⟨(Nat.le_of_ble_eq_true rfl), (Nat.le_of_ble_eq_true rfl)⟩) hP hD hS hA [] [0, 1, 2, 3, 4, 5, 6, 7, 8, 9, 10, 11, 12, 13, 14, 15, 16, 17, 18, 19, 20, 21, 22, 23, 24, 25, 26, 27, 28, 29, 30, 31, 32, 33, 34, 35, 36, 37, 38] (wr := MW dA h ad (MS.s_too (MS.s_frm x d) d)) rfl rfl (by decide) (by decide) (fun r5 u9 H locs hp9 hP hD hS => ?_)
    have hP : va_P D vwCl (MW dA h ad (MS.s_too (MS.s_frm x d) d)) H := hP
    have hD : va_D A (MW dA h ad (MS.s_too (MS.s_frm x d) d)) := hD
    replace hp9 : bI (isLt (x.atN d)) = r5 := Eq.symm hp9
    subst hp9
    refine lv_if_eq hx hb d_M_next_90 (tgt := 139) rfl (fun _ => ?_) (fun h9 => absurd (by rw [hlt]; decide) h9)
    refine lv_iload_n hx hb d_M_next_139 rfl (lv_at hl 0 rfl) ?_
    refine lv_bipush (v := 34) hx hb d_M_next_140 (by decide) ?_
    refine lv_icmp_ne hx hb d_M_next_142 (tgt := 259) rfl (fun _ => ?_) (fun h9 => absurd h9 htq)
    refine lv_aload_n hx hb d_M_next_259 rfl (lv_at hl 1 rfl) ?_
    refine lv_iload_n hx hb d_M_next_260 rfl (lv_at hl 0 rfl) ?_
    refine lv_aload_n hx hb d_M_next_261 rfl (lv_at hl 1 rfl) ?_
    refine lv_aload_n hx hb d_M_next_262 rfl (lv_at hl 1 rfl) ?_
    refine gF (v := .int (nI d)) hx hb hown hE hK hP 0 rfl rfl layM 45 (by decide) w464 rfl d_M_next_263 ?_
    refine lv_iconst (v := 1) hx hb d_M_next_266 (by decide) ?_
    refine lv_iadd hx hb d_M_next_267 (tpi (y := nI (d + 1)) (nI_add (d) (1)) ?_)
    refine jfI (rnV (As := [.int (nI (d + 1))]) (rest := [.int (x.atN d), .ref h]) hx hb hml hown hE hK (hN _ _ hS) hP hD (k_at l D dA H.size h ad (MS.s_too (MS.s_frm x d) d) (d + 1) (show (d + 1) < 2 ^ 31 from by omega) (show x.length ≤ 65536 from by omega)) (q0 := 0) rfl rfl w466 w465 w467 w468 w328 rfl rfl ⟨⟨by decide, by decide⟩, rfl⟩ ⟨(Nat.le_of_ble_eq_true rfl), (Nat.le_of_ble_eq_true rfl)⟩ rfl hl.1 rfl (Nat.le_of_ble_eq_true rfl) d_M_next_268 ⟨(Nat.le_of_ble_eq_true rfl), (Nat.le_of_ble_eq_true rfl)⟩) hP hD hS hA (fun r7 u8 H locs hp9 hP hD hS => ?_)
    have hP : va_P D vwCl (MW dA h ad (MS.s_too (MS.s_frm x d) d)) H := hP
    have hD : va_D A (MW dA h ad (MS.s_too (MS.s_frm x d) d)) := hD
    replace hp9 : x.atN (d + 1) = r7 := Eq.symm hp9
    subst hp9
    refine jfI (rnV (As := [.int (x.atN d), .int (x.atN (d + 1))]) (rest := []) hx hb hml hown hE hK (hN _ _ hS) hP hD (k_readSign_1 l D dA H.size h ad (MS.s_too (MS.s_frm x d) d) (x.atN d) (x.atN (d + 1)) h0 h1) (q0 := 0) rfl rfl w967 w966 w968 w969 w328 rfl rfl ⟨⟨by decide, by decide⟩, rfl⟩ ⟨(Nat.le_of_ble_eq_true rfl), (Nat.le_of_ble_eq_true rfl)⟩ rfl hl.1 rfl (Nat.le_of_ble_eq_true rfl) d_M_next_271 ⟨(Nat.le_of_ble_eq_true rfl), (Nat.le_of_ble_eq_true rfl)⟩) hP hD hS hA (fun r9 u10 H locs hp9 hP hD hS => ?_)
    have hP : va_P D vwCl (MW dA h ad (MS.s_too (MS.s_frm (MS.s_kind x (x.atN d)) d) (d + 1))) H := hP
    have hD : va_D A (MW dA h ad (MS.s_too (MS.s_frm (MS.s_kind x (x.atN d)) d) (d + 1))) := hD
    replace hp9 : bI true = r9 := Eq.symm hp9
    subst hp9
    exact rfZ hx hb hr (bI_nar true) hlk hS () rfl hP hD (Nat.le_of_ble_eq_true rfl) (Nat.le_of_ble_eq_true rfl) d_M_next_274
  have L0 : ∀ (k9 : Nat) (q : Nat) (i1 : skG x.tape x.length (x.length + 1 - q) q = skG x.tape x.length (x.length + 1 - x.too) x.too) (i2 : q ≤ x.length) (hk9 : x.length + 1 - q = k9), ∀ (H : Heap) (locs : List Loc) (ls : Array Slot) (hP : va_P D vwCl (MW dA h ad (MS.s_too x q)) H) (hD : va_D A (MW dA h ad (MS.s_too x q))) (hS : va_S A s.heap H locs) (hl : lv_has ls 2 [(0, .ref h)]), W p l e ({ frames := 3, cells := 0, slots := 0, locals := 46 } : Room) s m ([.ref h] : List Value).toArray below meth c H locs 0 0 (MQ below (va_Qi (fun (r9 : Int32) (u9 : Unit) => r9 = bI true) (fun (u9 : Unit) t9 => bW D A (MW dA h ad (MS.s_too (MS.s_frm (MS.s_kind x (x.atN d)) d) (d + 1))) t9) A) ([.ref h] : List Value).toArray s 0 0 A) (F0 m 0 ls []) := by
    intro k9
    induction k9 using Nat.strongRecOn with
    | ind k9 ih0 =>
      intro q i1 i2 hk9 H locs ls hP hD hS hl
      refine lv_aload_n hx hb d_M_next_0 rfl (lv_at hl 0 rfl) ?_
      refine gF (v := .int (nI q)) hx hb hown hE hK hP 0 rfl rfl layM 46 (by decide) w463 rfl d_M_next_1 ?_
      refine lv_aload_n hx hb d_M_next_4 rfl (lv_at hl 0 rfl) ?_
      refine gF (v := .int (nI x.length)) hx hb hown hE hK hP 0 rfl rfl layM 2 (by decide) w320 rfl d_M_next_5 ?_
      refine lv_icmp_ge hx hb d_M_next_8 (tgt := 38) rfl (fun g11 => ?_) (fun g11 => ?_)
      · have g11 := (nI_leI (a := x.length) (b := q) (by omega) (by omega)).mp g11
        have e9 : (MS.s_too x q : MS) = MS.s_too x d := by rw [show d = q from (hp.symm.trans (i1.symm.trans (skG_n (Or.inl g11))))] <;> rfl
        exact J38  H _ ls (cvP e9 hP) (cvD e9 hD) hS (lv_sub hl [0] rfl)
      · have g11 := mt (nI_leI (a := x.length) (b := q) (by omega) (by omega)).mpr g11
        refine lv_aload_n hx hb d_M_next_11 rfl (lv_at hl 0 rfl) ?_
        refine gF (v := .ref (ad 1)) hx hb hown hE hK hP 0 rfl rfl layM 1 (by decide) w497 rfl d_M_next_12 ?_
        refine lv_aload_n hx hb d_M_next_15 rfl (lv_at hl 0 rfl) ?_
        refine gF (v := .int (nI q)) hx hb hown hE hK hP 0 rfl rfl layM 46 (by decide) w463 rfl d_M_next_16 ?_
        refine nbld (f := x.tape) hx hb hK hP 1 0 rfl rfl (q) (by omega) (by decide) d_M_next_19 ?_
        refine lv_bipush (v := 32) hx hb d_M_next_20 (by decide) ?_
        refine lv_icmp_ne hx hb d_M_next_22 (tgt := 38) rfl (fun g12 => ?_) (fun g12 => ?_)
        · have g12 := g12
          have e9 : (MS.s_too x q : MS) = MS.s_too x d := by rw [show d = q from (hp.symm.trans (i1.symm.trans (skG_n (Or.inr g12))))] <;> rfl
          exact J38  H _ ls (cvP e9 hP) (cvD e9 hD) hS (lv_sub hl [0] rfl)
        · have g12 := g12
          refine lv_aload_n hx hb d_M_next_25 rfl (lv_at hl 0 rfl) ?_
          refine lv_dup hx hb d_M_next_26 rfl ?_
          refine gF (v := .int (nI q)) hx hb hown hE hK hP 0 rfl rfl layM 46 (by decide) w463 rfl d_M_next_27 ?_
          refine lv_iconst (v := 1) hx hb d_M_next_30 (by decide) ?_
          refine lv_iadd hx hb d_M_next_31 (tpi (y := nI (q + 1)) (nI_add (q) (1)) ?_)
          refine pF (v := .int (nI (q + 1))) hx hb hown hE hK hP hD hS 0 rfl rfl layM tyM tokM nmM 46 (by decide) w463 rfl rfl rfl (Nat.le_of_ble_eq_true rfl) d_M_next_32 (fun H locs hP hD hS => ?_)
          have hP : va_P D vwCl (MW dA h ad (MS.s_too x (q + 1))) H := hP
          have hD : va_D A (MW dA h ad (MS.s_too x (q + 1))) := hD
          refine lv_goto hx hb d_M_next_35 (tgt := 0) rfl ?_
          exact ih0 _ (by omega) (q + 1) (by rw [← i1, skG_t (w := x.length + 1 - q) (by omega) g11 g12, show x.length + 1 - q - 1 = x.length + 1 - (q + 1) by omega]) (by omega) rfl H _ ls hP hD hS (lv_sub hl [0] rfl)
  exact L0 _ x.too rfl ht rfl H _ ls hP hD hS (lv_sub hl [0] rfl)
set_option maxHeartbeats 4000000 in
set_option maxRecDepth 100000 in
theorem k_next_s2 (l : Launch) (D : va_G) (dA : Nat → ClassId) (sz : Nat) (h : Nat) (ad : Nat → Nat) (x : MS) (d : Nat) (n : Nat) (hl1 : x.length ≤ 65536) (ht : x.too ≤ x.length) (hp : skG x.tape x.length (x.length + 1 - x.too) x.too = d) (hk : d < x.length) (hdg : isDg (x.atN d) = false) (hlt : isLt (x.atN d) = false) (htq : ¬ x.atN d = 34) (h0 : sgTwo (x.atN d) (x.atN (d + 1)) = n) (h2 : 0 < n) (h3 : n ≤ 258) : Met l ⟨"SeriesVaultModel", "next", "()Z"⟩ [Cond.code ⟨"SeriesVaultModel", "next", "()Z"⟩ prog_14_method_57_code 2 (some FieldType.boolean)] { frames := 3, cells := 0, slots := 0, locals := 46 } (pC D dA [.ref h] (MW dA h ad x) sz) (va_Qi (fun (r9 : Int32) (u9 : Unit) => r9 = bI true) (fun (u9 : Unit) t9 => bW D (va_A (MW dA h ad x) sz) (MW dA h ad (MS.s_too (MS.s_frm (MS.s_kind x (nI n)) d) (d + 2))) t9) (va_A (MW dA h ad x) sz)) 0 0 (va_A (MW dA h ad x) sz) := by
  refine mkC (y := ⟨"SeriesVaultModel", "next", "()Z"⟩) (cc := prog_14_method_57_code) (maxL := 2) (av := [.ref h]) (ws := MW dA h ad x) (sz := sz) (Qc := fun A => va_Qi (fun (r9 : Int32) (u9 : Unit) => r9 = bI true) (fun (u9 : Unit) t9 => bW D A (MW dA h ad (MS.s_too (MS.s_frm (MS.s_kind x (nI n)) d) (d + 2))) t9) A) (by decide) (Nat.le_of_ble_eq_true rfl) ?_
  intro A p e s m below meth c ls hsz hB
  obtain ⟨hx, hb, hr, hml, hown, hin, hlk, hE, hK, hP, hD, hS, hA, hN, hl⟩ := hB
  have hown : s.vm.findClass "SeriesVaultModel" = some m.cls := hown
  have hl : lv_has ls 2 [(0, .ref h)] := hl
  obtain ⟨H, hH⟩ : ∃ z, z = s.heap := ⟨_, rfl⟩
  have hP : va_P D vwCl (MW dA h ad x) H := by rw [hH]; exact hP
  have hS : va_S A s.heap H [] := by rw [hH]; exact hS
  rw [← hH]
  have J38 : ∀ (H : Heap) (locs : List Loc) (ls : Array Slot) (hP : va_P D vwCl (MW dA h ad (MS.s_too x d)) H) (hD : va_D A (MW dA h ad (MS.s_too x d))) (hS : va_S A s.heap H locs) (hl : lv_has ls 2 [(0, .ref h)]), W p l e ({ frames := 3, cells := 0, slots := 0, locals := 46 } : Room) s m ([.ref h] : List Value).toArray below meth c H locs 0 0 (MQ below (va_Qi (fun (r9 : Int32) (u9 : Unit) => r9 = bI true) (fun (u9 : Unit) t9 => bW D A (MW dA h ad (MS.s_too (MS.s_frm (MS.s_kind x (nI n)) d) (d + 2))) t9) A) ([.ref h] : List Value).toArray s 0 0 A) (F0 m 38 ls []) := by
    intro  H locs ls hP hD hS hl
    have d1 : d ≤ x.length := by rw [← hp]; exact skG_le ht
    refine lv_aload_n hx hb d_M_next_38 rfl (lv_at hl 0 rfl) ?_
    refine lv_aload_n hx hb d_M_next_39 rfl (lv_at hl 0 rfl) ?_
    refine gF (v := .int (nI d)) hx hb hown hE hK hP 0 rfl rfl layM 46 (by decide) w463 rfl d_M_next_40 ?_
    refine pF (v := .int (nI d)) hx hb hown hE hK hP hD hS 0 rfl rfl layM tyM tokM nmM 45 (by decide) w464 rfl rfl rfl (Nat.le_of_ble_eq_true rfl) d_M_next_43 (fun H locs hP hD hS => ?_)
    have hP : va_P D vwCl (MW dA h ad (MS.s_too (MS.s_frm x d) d)) H := hP
    have hD : va_D A (MW dA h ad (MS.s_too (MS.s_frm x d) d)) := hD
    refine lv_aload_n hx hb d_M_next_46 rfl (lv_at hl 0 rfl) ?_
    refine lv_aload_n hx hb d_M_next_47 rfl (lv_at hl 0 rfl) ?_
    refine gF (v := .int (nI d)) hx hb hown hE hK hP 0 rfl rfl layM 45 (by decide) w464 rfl d_M_next_48 ?_
    refine jfI (rnV (As := [.int (nI d)]) (rest := []) hx hb hml hown hE hK (hN _ _ hS) hP hD (k_at l D dA H.size h ad (MS.s_too (MS.s_frm x d) d) d (show d < 2 ^ 31 from by omega) (show x.length ≤ 65536 from by omega)) (q0 := 0) rfl rfl w466 w465 w467 w468 w328 rfl rfl ⟨⟨by decide, by decide⟩, rfl⟩ ⟨(Nat.le_of_ble_eq_true rfl), (Nat.le_of_ble_eq_true rfl)⟩ rfl hl.1 rfl (Nat.le_of_ble_eq_true rfl) d_M_next_51 ⟨(Nat.le_of_ble_eq_true rfl), (Nat.le_of_ble_eq_true rfl)⟩) hP hD hS hA (fun r1 u2 H locs hp9 hP hD hS => ?_)
    have hP : va_P D vwCl (MW dA h ad (MS.s_too (MS.s_frm x d) d)) H := hP
    have hD : va_D A (MW dA h ad (MS.s_too (MS.s_frm x d) d)) := hD
    replace hp9 : x.atN d = r1 := Eq.symm hp9
    subst hp9
    refine lv_istore_n hx hb d_M_next_54 rfl hl (by decide) rfl (fun ls hl => ?_)
    have hl : lv_has ls 2 [(1, .int (x.atN d)), (0, .ref h)] := hl
    refine lv_aload_n hx hb d_M_next_55 rfl (lv_at hl 1 rfl) ?_
    refine gF (v := .int (nI d)) hx hb hown hE hK hP 0 rfl rfl layM 45 (by decide) w464 rfl d_M_next_56 ?_
    refine lv_aload_n hx hb d_M_next_59 rfl (lv_at hl 1 rfl) ?_
    refine gF (v := .int (nI x.length)) hx hb hown hE hK hP 0 rfl rfl layM 2 (by decide) w320 rfl d_M_next_60 ?_
    refine lv_icmp_lt hx hb d_M_next_63 (tgt := 74) rfl (fun _ => ?_) (fun h9 => absurd ((nI_ltI (a := d) (b := x.length) (by omega) (by omega)).mpr hk) h9)
    refine lv_iload_n hx hb d_M_next_74 rfl (lv_at hl 0 rfl) ?_
    have hPc := hP.sub (ws' := []) [] rfl
    have hDc := hD.sub (ws' := []) [] (by decide) rfl
    refine jnI (rnS (As := [.int (x.atN d)]) (rest := []) hx hb hml hown hE hK (hN _ _ hS) hPc hDc (k_isDigit l D dA H.size (x.atN d)) w955 w954 w956 w328 rfl rfl ⟨⟨by decide, by decide⟩, rfl⟩ ⟨(Nat.le_of_ble_eq_true rfl), (Nat.le_of_ble_eq_true rfl)⟩ rfl hl.1 rfl (Nat.le_of_ble_eq_true rfl) d_M_next_75 ⟨(Nat.le_of_ble_eq_true rfl), (Nat.le_of_ble_eq_true rfl)⟩) hP hD hS hA [] [0, 1, 2, 3, 4, 5, 6, 7, 8, 9, 10, 11, 12, 13, 14, 15, 16, 17, 18, 19, 20, 21, 22, 23, 24, 25, 26, 27, 28, 29, 30, 31, 32, 33, 34, 35, 36, 37, 38] (wr := MW dA h ad (MS.s_too (MS.s_frm x d) d)) rfl rfl (by decide) (by decide) (fun r3 u9 H locs hp9 hP hD hS => ?_)
    have hP : va_P D vwCl (MW dA h ad (MS.s_too (MS.s_frm x d) d)) H := hP
    have hD : va_D A (MW dA h ad (MS.s_too (MS.s_frm x d) d)) := hD
    replace hp9 : bI (isDg (x.atN d)) = r3 := Eq.symm hp9
    subst hp9
    refine lv_if_eq hx hb d_M_next_78 (tgt := 86) rfl (fun _ => ?_) (fun h9 => absurd (by rw [hdg]; decide) h9)
    refine lv_iload_n hx hb d_M_next_86 rfl (lv_at hl 0 rfl) ?_
    have hPc := hP.sub (ws' := []) [] rfl
    have hDc := hD.sub (ws' := []) [] (by decide) rfl
    refine jnI (rnS (As := [.int (x.atN d)]) (rest := []) hx hb hml hown hE hK (hN _ _ hS) hPc hDc (k_isLetter l D dA H.size (x.atN d)) w964 w963 w965 w328 rfl rfl ⟨⟨by decide, by decide⟩, rfl⟩ ⟨(Nat.le_of_ble_eq_true rfl), (Nat.le_of_ble_eq_true rfl)⟩ rfl hl.1 rfl (Nat.le_of_ble_eq_true rfl) d_M_next_87 ⟨(Nat.le_of_ble_eq_true rfl), (Nat.le_of_ble_eq_true rfl)⟩) hP hD hS hA [] [0, 1, 2, 3, 4, 5, 6, 7, 8, 9, 10, 11, 12, 13, 14, 15, 16, 17, 18, 19, 20, 21, 22, 23, 24, 25, 26, 27, 28, 29, 30, 31, 32, 33, 34, 35, 36, 37, 38] (wr := MW dA h ad (MS.s_too (MS.s_frm x d) d)) rfl rfl (by decide) (by decide) (fun r5 u9 H locs hp9 hP hD hS => ?_)
    have hP : va_P D vwCl (MW dA h ad (MS.s_too (MS.s_frm x d) d)) H := hP
    have hD : va_D A (MW dA h ad (MS.s_too (MS.s_frm x d) d)) := hD
    replace hp9 : bI (isLt (x.atN d)) = r5 := Eq.symm hp9
    subst hp9
    refine lv_if_eq hx hb d_M_next_90 (tgt := 139) rfl (fun _ => ?_) (fun h9 => absurd (by rw [hlt]; decide) h9)
    refine lv_iload_n hx hb d_M_next_139 rfl (lv_at hl 0 rfl) ?_
    refine lv_bipush (v := 34) hx hb d_M_next_140 (by decide) ?_
    refine lv_icmp_ne hx hb d_M_next_142 (tgt := 259) rfl (fun _ => ?_) (fun h9 => absurd h9 htq)
    refine lv_aload_n hx hb d_M_next_259 rfl (lv_at hl 1 rfl) ?_
    refine lv_iload_n hx hb d_M_next_260 rfl (lv_at hl 0 rfl) ?_
    refine lv_aload_n hx hb d_M_next_261 rfl (lv_at hl 1 rfl) ?_
    refine lv_aload_n hx hb d_M_next_262 rfl (lv_at hl 1 rfl) ?_
    refine gF (v := .int (nI d)) hx hb hown hE hK hP 0 rfl rfl layM 45 (by decide) w464 rfl d_M_next_263 ?_
    refine lv_iconst (v := 1) hx hb d_M_next_266 (by decide) ?_
    refine lv_iadd hx hb d_M_next_267 (tpi (y := nI (d + 1)) (nI_add (d) (1)) ?_)
    refine jfI (rnV (As := [.int (nI (d + 1))]) (rest := [.int (x.atN d), .ref h]) hx hb hml hown hE hK (hN _ _ hS) hP hD (k_at l D dA H.size h ad (MS.s_too (MS.s_frm x d) d) (d + 1) (show (d + 1) < 2 ^ 31 from by omega) (show x.length ≤ 65536 from by omega)) (q0 := 0) rfl rfl w466 w465 w467 w468 w328 rfl rfl ⟨⟨by decide, by decide⟩, rfl⟩ ⟨(Nat.le_of_ble_eq_true rfl), (Nat.le_of_ble_eq_true rfl)⟩ rfl hl.1 rfl (Nat.le_of_ble_eq_true rfl) d_M_next_268 ⟨(Nat.le_of_ble_eq_true rfl), (Nat.le_of_ble_eq_true rfl)⟩) hP hD hS hA (fun r7 u8 H locs hp9 hP hD hS => ?_)
    have hP : va_P D vwCl (MW dA h ad (MS.s_too (MS.s_frm x d) d)) H := hP
    have hD : va_D A (MW dA h ad (MS.s_too (MS.s_frm x d) d)) := hD
    replace hp9 : x.atN (d + 1) = r7 := Eq.symm hp9
    subst hp9
    refine jfI (rnV (As := [.int (x.atN d), .int (x.atN (d + 1))]) (rest := []) hx hb hml hown hE hK (hN _ _ hS) hP hD (k_readSign_2 l D dA H.size h ad (MS.s_too (MS.s_frm x d) d) (x.atN d) (x.atN (d + 1)) n h0 h2 h3) (q0 := 0) rfl rfl w967 w966 w968 w969 w328 rfl rfl ⟨⟨by decide, by decide⟩, rfl⟩ ⟨(Nat.le_of_ble_eq_true rfl), (Nat.le_of_ble_eq_true rfl)⟩ rfl hl.1 rfl (Nat.le_of_ble_eq_true rfl) d_M_next_271 ⟨(Nat.le_of_ble_eq_true rfl), (Nat.le_of_ble_eq_true rfl)⟩) hP hD hS hA (fun r9 u10 H locs hp9 hP hD hS => ?_)
    have hP : va_P D vwCl (MW dA h ad (MS.s_too (MS.s_frm (MS.s_kind x (nI n)) d) (d + 2))) H := hP
    have hD : va_D A (MW dA h ad (MS.s_too (MS.s_frm (MS.s_kind x (nI n)) d) (d + 2))) := hD
    replace hp9 : bI true = r9 := Eq.symm hp9
    subst hp9
    exact rfZ hx hb hr (bI_nar true) hlk hS () rfl hP hD (Nat.le_of_ble_eq_true rfl) (Nat.le_of_ble_eq_true rfl) d_M_next_274
  have L0 : ∀ (k9 : Nat) (q : Nat) (i1 : skG x.tape x.length (x.length + 1 - q) q = skG x.tape x.length (x.length + 1 - x.too) x.too) (i2 : q ≤ x.length) (hk9 : x.length + 1 - q = k9), ∀ (H : Heap) (locs : List Loc) (ls : Array Slot) (hP : va_P D vwCl (MW dA h ad (MS.s_too x q)) H) (hD : va_D A (MW dA h ad (MS.s_too x q))) (hS : va_S A s.heap H locs) (hl : lv_has ls 2 [(0, .ref h)]), W p l e ({ frames := 3, cells := 0, slots := 0, locals := 46 } : Room) s m ([.ref h] : List Value).toArray below meth c H locs 0 0 (MQ below (va_Qi (fun (r9 : Int32) (u9 : Unit) => r9 = bI true) (fun (u9 : Unit) t9 => bW D A (MW dA h ad (MS.s_too (MS.s_frm (MS.s_kind x (nI n)) d) (d + 2))) t9) A) ([.ref h] : List Value).toArray s 0 0 A) (F0 m 0 ls []) := by
    intro k9
    induction k9 using Nat.strongRecOn with
    | ind k9 ih0 =>
      intro q i1 i2 hk9 H locs ls hP hD hS hl
      refine lv_aload_n hx hb d_M_next_0 rfl (lv_at hl 0 rfl) ?_
      refine gF (v := .int (nI q)) hx hb hown hE hK hP 0 rfl rfl layM 46 (by decide) w463 rfl d_M_next_1 ?_
      refine lv_aload_n hx hb d_M_next_4 rfl (lv_at hl 0 rfl) ?_
      refine gF (v := .int (nI x.length)) hx hb hown hE hK hP 0 rfl rfl layM 2 (by decide) w320 rfl d_M_next_5 ?_
      refine lv_icmp_ge hx hb d_M_next_8 (tgt := 38) rfl (fun g11 => ?_) (fun g11 => ?_)
      · have g11 := (nI_leI (a := x.length) (b := q) (by omega) (by omega)).mp g11
        have e9 : (MS.s_too x q : MS) = MS.s_too x d := by rw [show d = q from (hp.symm.trans (i1.symm.trans (skG_n (Or.inl g11))))] <;> rfl
        exact J38  H _ ls (cvP e9 hP) (cvD e9 hD) hS (lv_sub hl [0] rfl)
      · have g11 := mt (nI_leI (a := x.length) (b := q) (by omega) (by omega)).mpr g11
        refine lv_aload_n hx hb d_M_next_11 rfl (lv_at hl 0 rfl) ?_
        refine gF (v := .ref (ad 1)) hx hb hown hE hK hP 0 rfl rfl layM 1 (by decide) w497 rfl d_M_next_12 ?_
        refine lv_aload_n hx hb d_M_next_15 rfl (lv_at hl 0 rfl) ?_
        refine gF (v := .int (nI q)) hx hb hown hE hK hP 0 rfl rfl layM 46 (by decide) w463 rfl d_M_next_16 ?_
        refine nbld (f := x.tape) hx hb hK hP 1 0 rfl rfl (q) (by omega) (by decide) d_M_next_19 ?_
        refine lv_bipush (v := 32) hx hb d_M_next_20 (by decide) ?_
        refine lv_icmp_ne hx hb d_M_next_22 (tgt := 38) rfl (fun g12 => ?_) (fun g12 => ?_)
        · have g12 := g12
          have e9 : (MS.s_too x q : MS) = MS.s_too x d := by rw [show d = q from (hp.symm.trans (i1.symm.trans (skG_n (Or.inr g12))))] <;> rfl
          exact J38  H _ ls (cvP e9 hP) (cvD e9 hD) hS (lv_sub hl [0] rfl)
        · have g12 := g12
          refine lv_aload_n hx hb d_M_next_25 rfl (lv_at hl 0 rfl) ?_
          refine lv_dup hx hb d_M_next_26 rfl ?_
          refine gF (v := .int (nI q)) hx hb hown hE hK hP 0 rfl rfl layM 46 (by decide) w463 rfl d_M_next_27 ?_
          refine lv_iconst (v := 1) hx hb d_M_next_30 (by decide) ?_
          refine lv_iadd hx hb d_M_next_31 (tpi (y := nI (q + 1)) (nI_add (q) (1)) ?_)
          refine pF (v := .int (nI (q + 1))) hx hb hown hE hK hP hD hS 0 rfl rfl layM tyM tokM nmM 46 (by decide) w463 rfl rfl rfl (Nat.le_of_ble_eq_true rfl) d_M_next_32 (fun H locs hP hD hS => ?_)
          have hP : va_P D vwCl (MW dA h ad (MS.s_too x (q + 1))) H := hP
          have hD : va_D A (MW dA h ad (MS.s_too x (q + 1))) := hD
          refine lv_goto hx hb d_M_next_35 (tgt := 0) rfl ?_
          exact ih0 _ (by omega) (q + 1) (by rw [← i1, skG_t (w := x.length + 1 - q) (by omega) g11 g12, show x.length + 1 - q - 1 = x.length + 1 - (q + 1) by omega]) (by omega) rfl H _ ls hP hD hS (lv_sub hl [0] rfl)
  exact L0 _ x.too rfl ht rfl H _ ls hP hD hS (lv_sub hl [0] rfl)
end
section
def MS.nmB (x : MS) (a b c d : Int32) (n : Nat) : Bool := decide (x.kind = 2) && (decide (x.too - x.frm = n) && (decide (x.atN x.frm = a) && (decide (x.atN (x.frm + 1) = b) && ((decide (n < 3) || decide (x.atN (x.frm + 2) = c)) && (decide (n < 4) || decide (x.atN (x.frm + 3) = d))))))
theorem d_M_isStart_0 : decode prog_14_method_63_code 0 = .ok (.aload_n 0, 1) := by decide +kernel
theorem d_M_isStart_1 : decode prog_14_method_63_code 1 = .ok (.aload_n 0, 1) := by decide +kernel
theorem d_M_isStart_2 : decode prog_14_method_63_code 2 = .ok (.getfield 345, 3) := by decide +kernel
theorem d_M_isStart_5 : decode prog_14_method_63_code 5 = .ok (.invokevirtual 348, 3) := by decide +kernel
theorem d_M_isStart_8 : decode prog_14_method_63_code 8 = .ok (.iload_n 1, 1) := by decide +kernel
theorem d_M_isStart_9 : decode prog_14_method_63_code 9 = .ok (.if_icmp .ne 35, 3) := by decide +kernel
theorem d_M_isStart_44 : decode prog_14_method_63_code 44 = .ok (.iconst 0, 1) := by decide +kernel
theorem d_M_isStart_45 : decode prog_14_method_63_code 45 = .ok (.ireturn, 1) := by decide +kernel
theorem d_M_isStart_12 : decode prog_14_method_63_code 12 = .ok (.aload_n 0, 1) := by decide +kernel
theorem d_M_isStart_13 : decode prog_14_method_63_code 13 = .ok (.aload_n 0, 1) := by decide +kernel
theorem d_M_isStart_14 : decode prog_14_method_63_code 14 = .ok (.getfield 345, 3) := by decide +kernel
theorem d_M_isStart_17 : decode prog_14_method_63_code 17 = .ok (.iconst 1, 1) := by decide +kernel
theorem d_M_isStart_18 : decode prog_14_method_63_code 18 = .ok (.iadd, 1) := by decide +kernel
theorem d_M_isStart_19 : decode prog_14_method_63_code 19 = .ok (.invokevirtual 348, 3) := by decide +kernel
theorem d_M_isStart_22 : decode prog_14_method_63_code 22 = .ok (.iload_n 2, 1) := by decide +kernel
theorem d_M_isStart_23 : decode prog_14_method_63_code 23 = .ok (.if_icmp .ne 21, 3) := by decide +kernel
theorem d_M_isStart_26 : decode prog_14_method_63_code 26 = .ok (.aload_n 0, 1) := by decide +kernel
theorem d_M_isStart_27 : decode prog_14_method_63_code 27 = .ok (.aload_n 0, 1) := by decide +kernel
theorem d_M_isStart_28 : decode prog_14_method_63_code 28 = .ok (.getfield 345, 3) := by decide +kernel
theorem d_M_isStart_31 : decode prog_14_method_63_code 31 = .ok (.iconst 2, 1) := by decide +kernel
theorem d_M_isStart_32 : decode prog_14_method_63_code 32 = .ok (.iadd, 1) := by decide +kernel
theorem d_M_isStart_33 : decode prog_14_method_63_code 33 = .ok (.invokevirtual 348, 3) := by decide +kernel
theorem d_M_isStart_36 : decode prog_14_method_63_code 36 = .ok (.iload_n 3, 1) := by decide +kernel
theorem d_M_isStart_37 : decode prog_14_method_63_code 37 = .ok (.if_icmp .ne 7, 3) := by decide +kernel
theorem d_M_isStart_40 : decode prog_14_method_63_code 40 = .ok (.iconst 1, 1) := by decide +kernel
theorem d_M_isStart_41 : decode prog_14_method_63_code 41 = .ok (.goto 4, 3) := by decide +kernel
set_option maxHeartbeats 4000000 in
set_option maxRecDepth 100000 in
theorem k_isStart (l : Launch) (D : va_G) (dA : Nat → ClassId) (sz : Nat) (h : Nat) (ad : Nat → Nat) (x : MS) (a : Int32) (b : Int32) (c7 : Int32) (hl1 : x.length ≤ 65536) (hfr : x.frm ≤ x.too) (hto : x.too ≤ 65537) : Met l ⟨"SeriesVaultModel", "isStart", "(CCC)Z"⟩ [Cond.code ⟨"SeriesVaultModel", "isStart", "(CCC)Z"⟩ prog_14_method_63_code 4 (some FieldType.boolean)] { frames := 2, cells := 0, slots := 0, locals := 21 } (pC D dA [.ref h, .int a, .int b, .int c7] (MW dA h ad x) sz) (va_Qi (fun (r9 : Int32) (u9 : Unit) => r9 = bI (x.stB a b c7)) (fun (u9 : Unit) t9 => bW D (va_A (MW dA h ad x) sz) (MW dA h ad x) t9) (va_A (MW dA h ad x) sz)) 0 0 (va_A (MW dA h ad x) sz) := by
  refine mkC (y := ⟨"SeriesVaultModel", "isStart", "(CCC)Z"⟩) (cc := prog_14_method_63_code) (maxL := 4) (av := [.ref h, .int a, .int b, .int c7]) (ws := MW dA h ad x) (sz := sz) (Qc := fun A => va_Qi (fun (r9 : Int32) (u9 : Unit) => r9 = bI (x.stB a b c7)) (fun (u9 : Unit) t9 => bW D A (MW dA h ad x) t9) A) (by decide) (Nat.le_of_ble_eq_true rfl) ?_
  intro A p e s m below meth c ls hsz hB
  obtain ⟨hx, hb, hr, hml, hown, hin, hlk, hE, hK, hP, hD, hS, hA, hN, hl⟩ := hB
  have hown : s.vm.findClass "SeriesVaultModel" = some m.cls := hown
  have hl : lv_has ls 4 [(0, .ref h), (1, .int a), (2, .int b), (3, .int c7)] := hl
  obtain ⟨H, hH⟩ : ∃ z, z = s.heap := ⟨_, rfl⟩
  have hP : va_P D vwCl (MW dA h ad x) H := by rw [hH]; exact hP
  have hS : va_S A s.heap H [] := by rw [hH]; exact hS
  rw [← hH]
  refine lv_aload_n hx hb d_M_isStart_0 rfl (lv_at hl 0 rfl) ?_
  refine lv_aload_n hx hb d_M_isStart_1 rfl (lv_at hl 0 rfl) ?_
  refine gF (v := .int (nI x.frm)) hx hb hown hE hK hP 0 rfl rfl layM 45 (by decide) w464 rfl d_M_isStart_2 ?_
  refine jfI (rnV (As := [.int (nI x.frm)]) (rest := []) hx hb hml hown hE hK (hN _ _ hS) hP hD (k_at l D dA H.size h ad x x.frm (show x.frm < 2 ^ 31 from by omega) (show x.length ≤ 65536 from by omega)) (q0 := 0) rfl rfl w466 w465 w467 w468 w328 rfl rfl ⟨⟨by decide, by decide⟩, rfl⟩ ⟨(Nat.le_of_ble_eq_true rfl), (Nat.le_of_ble_eq_true rfl)⟩ rfl hl.1 rfl (Nat.le_of_ble_eq_true rfl) d_M_isStart_5 ⟨(Nat.le_of_ble_eq_true rfl), (Nat.le_of_ble_eq_true rfl)⟩) hP hD hS hA (fun r1 u2 H locs hp9 hP hD hS => ?_)
  have hP : va_P D vwCl (MW dA h ad x) H := hP
  have hD : va_D A (MW dA h ad x) := hD
  replace hp9 : x.atN x.frm = r1 := Eq.symm hp9
  subst hp9
  refine lv_iload_n hx hb d_M_isStart_8 rfl (lv_at hl 1 rfl) ?_
  refine lv_icmp_ne hx hb d_M_isStart_9 (tgt := 44) rfl (fun g3 => ?_) (fun g3 => ?_)
  · have g3 := g3
    refine lv_iconst (v := 0) hx hb d_M_isStart_44 (by decide) ?_
    exact rfZ hx hb hr (bI_nar false) hlk hS () (by simp [MS.stB, bI, *]) hP hD (Nat.le_of_ble_eq_true rfl) (Nat.le_of_ble_eq_true rfl) d_M_isStart_45
  · have g3 := g3
    refine lv_aload_n hx hb d_M_isStart_12 rfl (lv_at hl 0 rfl) ?_
    refine lv_aload_n hx hb d_M_isStart_13 rfl (lv_at hl 0 rfl) ?_
    refine gF (v := .int (nI x.frm)) hx hb hown hE hK hP 0 rfl rfl layM 45 (by decide) w464 rfl d_M_isStart_14 ?_
    refine lv_iconst (v := 1) hx hb d_M_isStart_17 (by decide) ?_
    refine lv_iadd hx hb d_M_isStart_18 (tpi (y := nI (x.frm + 1)) (nI_add (x.frm) (1)) ?_)
    refine jfI (rnV (As := [.int (nI (x.frm + 1))]) (rest := []) hx hb hml hown hE hK (hN _ _ hS) hP hD (k_at l D dA H.size h ad x (x.frm + 1) (show (x.frm + 1) < 2 ^ 31 from by omega) (show x.length ≤ 65536 from by omega)) (q0 := 0) rfl rfl w466 w465 w467 w468 w328 rfl rfl ⟨⟨by decide, by decide⟩, rfl⟩ ⟨(Nat.le_of_ble_eq_true rfl), (Nat.le_of_ble_eq_true rfl)⟩ rfl hl.1 rfl (Nat.le_of_ble_eq_true rfl) d_M_isStart_19 ⟨(Nat.le_of_ble_eq_true rfl), (Nat.le_of_ble_eq_true rfl)⟩) hP hD hS hA (fun r4 u5 H locs hp9 hP hD hS => ?_)
    have hP : va_P D vwCl (MW dA h ad x) H := hP
    have hD : va_D A (MW dA h ad x) := hD
    replace hp9 : x.atN (x.frm + 1) = r4 := Eq.symm hp9
    subst hp9
    refine lv_iload_n hx hb d_M_isStart_22 rfl (lv_at hl 2 rfl) ?_
    refine lv_icmp_ne hx hb d_M_isStart_23 (tgt := 44) rfl (fun g6 => ?_) (fun g6 => ?_)
    · have g6 := g6
      refine lv_iconst (v := 0) hx hb d_M_isStart_44 (by decide) ?_
      exact rfZ hx hb hr (bI_nar false) hlk hS () (by simp [MS.stB, bI, *]) hP hD (Nat.le_of_ble_eq_true rfl) (Nat.le_of_ble_eq_true rfl) d_M_isStart_45
    · have g6 := g6
      refine lv_aload_n hx hb d_M_isStart_26 rfl (lv_at hl 0 rfl) ?_
      refine lv_aload_n hx hb d_M_isStart_27 rfl (lv_at hl 0 rfl) ?_
      refine gF (v := .int (nI x.frm)) hx hb hown hE hK hP 0 rfl rfl layM 45 (by decide) w464 rfl d_M_isStart_28 ?_
      refine lv_iconst (v := 2) hx hb d_M_isStart_31 (by decide) ?_
      refine lv_iadd hx hb d_M_isStart_32 (tpi (y := nI (x.frm + 2)) (nI_add (x.frm) (2)) ?_)
      refine jfI (rnV (As := [.int (nI (x.frm + 2))]) (rest := []) hx hb hml hown hE hK (hN _ _ hS) hP hD (k_at l D dA H.size h ad x (x.frm + 2) (show (x.frm + 2) < 2 ^ 31 from by omega) (show x.length ≤ 65536 from by omega)) (q0 := 0) rfl rfl w466 w465 w467 w468 w328 rfl rfl ⟨⟨by decide, by decide⟩, rfl⟩ ⟨(Nat.le_of_ble_eq_true rfl), (Nat.le_of_ble_eq_true rfl)⟩ rfl hl.1 rfl (Nat.le_of_ble_eq_true rfl) d_M_isStart_33 ⟨(Nat.le_of_ble_eq_true rfl), (Nat.le_of_ble_eq_true rfl)⟩) hP hD hS hA (fun r7 u8 H locs hp9 hP hD hS => ?_)
      have hP : va_P D vwCl (MW dA h ad x) H := hP
      have hD : va_D A (MW dA h ad x) := hD
      replace hp9 : x.atN (x.frm + 2) = r7 := Eq.symm hp9
      subst hp9
      refine lv_iload_n hx hb d_M_isStart_36 rfl (lv_at hl 3 rfl) ?_
      refine lv_icmp_ne hx hb d_M_isStart_37 (tgt := 44) rfl (fun g9 => ?_) (fun g9 => ?_)
      · have g9 := g9
        refine lv_iconst (v := 0) hx hb d_M_isStart_44 (by decide) ?_
        exact rfZ hx hb hr (bI_nar false) hlk hS () (by simp [MS.stB, bI, *]) hP hD (Nat.le_of_ble_eq_true rfl) (Nat.le_of_ble_eq_true rfl) d_M_isStart_45
      · have g9 := g9
        refine lv_iconst (v := 1) hx hb d_M_isStart_40 (by decide) ?_
        refine lv_goto hx hb d_M_isStart_41 (tgt := 45) rfl ?_
        exact rfZ hx hb hr (bI_nar true) hlk hS () (by simp [MS.stB, bI, *]) hP hD (Nat.le_of_ble_eq_true rfl) (Nat.le_of_ble_eq_true rfl) d_M_isStart_45
theorem d_M_isName_0 : decode prog_14_method_61_code 0 = .ok (.aload_n 0, 1) := by decide +kernel
theorem d_M_isName_1 : decode prog_14_method_61_code 1 = .ok (.getfield 351, 3) := by decide +kernel
theorem d_M_isName_4 : decode prog_14_method_61_code 4 = .ok (.iconst 2, 1) := by decide +kernel
theorem d_M_isName_5 : decode prog_14_method_61_code 5 = .ok (.if_icmp .ne 88, 3) := by decide +kernel
theorem d_M_isName_93 : decode prog_14_method_61_code 93 = .ok (.iconst 0, 1) := by decide +kernel
theorem d_M_isName_94 : decode prog_14_method_61_code 94 = .ok (.ireturn, 1) := by decide +kernel
theorem d_M_isName_8 : decode prog_14_method_61_code 8 = .ok (.aload_n 0, 1) := by decide +kernel
theorem d_M_isName_9 : decode prog_14_method_61_code 9 = .ok (.getfield 342, 3) := by decide +kernel
theorem d_M_isName_12 : decode prog_14_method_61_code 12 = .ok (.aload_n 0, 1) := by decide +kernel
theorem d_M_isName_13 : decode prog_14_method_61_code 13 = .ok (.getfield 345, 3) := by decide +kernel
theorem d_M_isName_16 : decode prog_14_method_61_code 16 = .ok (.isub, 1) := by decide +kernel
theorem d_M_isName_17 : decode prog_14_method_61_code 17 = .ok (.iload 5, 2) := by decide +kernel
theorem d_M_isName_19 : decode prog_14_method_61_code 19 = .ok (.if_icmp .ne 74, 3) := by decide +kernel
theorem d_M_isName_22 : decode prog_14_method_61_code 22 = .ok (.aload_n 0, 1) := by decide +kernel
theorem d_M_isName_23 : decode prog_14_method_61_code 23 = .ok (.aload_n 0, 1) := by decide +kernel
theorem d_M_isName_24 : decode prog_14_method_61_code 24 = .ok (.getfield 345, 3) := by decide +kernel
theorem d_M_isName_27 : decode prog_14_method_61_code 27 = .ok (.invokevirtual 348, 3) := by decide +kernel
theorem d_M_isName_30 : decode prog_14_method_61_code 30 = .ok (.iload_n 1, 1) := by decide +kernel
theorem d_M_isName_31 : decode prog_14_method_61_code 31 = .ok (.if_icmp .ne 62, 3) := by decide +kernel
theorem d_M_isName_34 : decode prog_14_method_61_code 34 = .ok (.aload_n 0, 1) := by decide +kernel
theorem d_M_isName_35 : decode prog_14_method_61_code 35 = .ok (.aload_n 0, 1) := by decide +kernel
theorem d_M_isName_36 : decode prog_14_method_61_code 36 = .ok (.getfield 345, 3) := by decide +kernel
theorem d_M_isName_39 : decode prog_14_method_61_code 39 = .ok (.iconst 1, 1) := by decide +kernel
theorem d_M_isName_40 : decode prog_14_method_61_code 40 = .ok (.iadd, 1) := by decide +kernel
theorem d_M_isName_41 : decode prog_14_method_61_code 41 = .ok (.invokevirtual 348, 3) := by decide +kernel
theorem d_M_isName_44 : decode prog_14_method_61_code 44 = .ok (.iload_n 2, 1) := by decide +kernel
theorem d_M_isName_45 : decode prog_14_method_61_code 45 = .ok (.if_icmp .ne 48, 3) := by decide +kernel
theorem d_M_isName_48 : decode prog_14_method_61_code 48 = .ok (.iload 5, 2) := by decide +kernel
theorem d_M_isName_50 : decode prog_14_method_61_code 50 = .ok (.iconst 3, 1) := by decide +kernel
theorem d_M_isName_51 : decode prog_14_method_61_code 51 = .ok (.if_icmp .lt 17, 3) := by decide +kernel
theorem d_M_isName_68 : decode prog_14_method_61_code 68 = .ok (.iload 5, 2) := by decide +kernel
theorem d_M_isName_70 : decode prog_14_method_61_code 70 = .ok (.iconst 4, 1) := by decide +kernel
theorem d_M_isName_71 : decode prog_14_method_61_code 71 = .ok (.if_icmp .lt 18, 3) := by decide +kernel
theorem d_M_isName_89 : decode prog_14_method_61_code 89 = .ok (.iconst 1, 1) := by decide +kernel
theorem d_M_isName_90 : decode prog_14_method_61_code 90 = .ok (.goto 4, 3) := by decide +kernel
theorem d_M_isName_74 : decode prog_14_method_61_code 74 = .ok (.aload_n 0, 1) := by decide +kernel
theorem d_M_isName_75 : decode prog_14_method_61_code 75 = .ok (.aload_n 0, 1) := by decide +kernel
theorem d_M_isName_76 : decode prog_14_method_61_code 76 = .ok (.getfield 345, 3) := by decide +kernel
theorem d_M_isName_79 : decode prog_14_method_61_code 79 = .ok (.iconst 3, 1) := by decide +kernel
theorem d_M_isName_80 : decode prog_14_method_61_code 80 = .ok (.iadd, 1) := by decide +kernel
theorem d_M_isName_81 : decode prog_14_method_61_code 81 = .ok (.invokevirtual 348, 3) := by decide +kernel
theorem d_M_isName_84 : decode prog_14_method_61_code 84 = .ok (.iload 4, 2) := by decide +kernel
theorem d_M_isName_86 : decode prog_14_method_61_code 86 = .ok (.if_icmp .ne 7, 3) := by decide +kernel
theorem d_M_isName_54 : decode prog_14_method_61_code 54 = .ok (.aload_n 0, 1) := by decide +kernel
theorem d_M_isName_55 : decode prog_14_method_61_code 55 = .ok (.aload_n 0, 1) := by decide +kernel
theorem d_M_isName_56 : decode prog_14_method_61_code 56 = .ok (.getfield 345, 3) := by decide +kernel
theorem d_M_isName_59 : decode prog_14_method_61_code 59 = .ok (.iconst 2, 1) := by decide +kernel
theorem d_M_isName_60 : decode prog_14_method_61_code 60 = .ok (.iadd, 1) := by decide +kernel
theorem d_M_isName_61 : decode prog_14_method_61_code 61 = .ok (.invokevirtual 348, 3) := by decide +kernel
theorem d_M_isName_64 : decode prog_14_method_61_code 64 = .ok (.iload_n 3, 1) := by decide +kernel
theorem d_M_isName_65 : decode prog_14_method_61_code 65 = .ok (.if_icmp .ne 28, 3) := by decide +kernel
set_option maxHeartbeats 4000000 in
set_option maxRecDepth 100000 in
theorem k_isName (l : Launch) (D : va_G) (dA : Nat → ClassId) (sz : Nat) (h : Nat) (ad : Nat → Nat) (x : MS) (a : Int32) (b : Int32) (c7 : Int32) (d : Int32) (n : Nat) (hl1 : x.length ≤ 65536) (hfr : x.frm ≤ x.too) (hto : x.too ≤ 65537) (hn : n ≤ 4) : Met l ⟨"SeriesVaultModel", "isName", "(CCCCI)Z"⟩ [Cond.code ⟨"SeriesVaultModel", "isName", "(CCCCI)Z"⟩ prog_14_method_61_code 6 (some FieldType.boolean)] { frames := 2, cells := 0, slots := 0, locals := 21 } (pC D dA [.ref h, .int a, .int b, .int c7, .int d, .int (nI n)] (MW dA h ad x) sz) (va_Qi (fun (r9 : Int32) (u9 : Unit) => r9 = bI (x.nmB a b c7 d n)) (fun (u9 : Unit) t9 => bW D (va_A (MW dA h ad x) sz) (MW dA h ad x) t9) (va_A (MW dA h ad x) sz)) 0 0 (va_A (MW dA h ad x) sz) := by
  refine mkC (y := ⟨"SeriesVaultModel", "isName", "(CCCCI)Z"⟩) (cc := prog_14_method_61_code) (maxL := 6) (av := [.ref h, .int a, .int b, .int c7, .int d, .int (nI n)]) (ws := MW dA h ad x) (sz := sz) (Qc := fun A => va_Qi (fun (r9 : Int32) (u9 : Unit) => r9 = bI (x.nmB a b c7 d n)) (fun (u9 : Unit) t9 => bW D A (MW dA h ad x) t9) A) (by decide) (Nat.le_of_ble_eq_true rfl) ?_
  intro A p e s m below meth c ls hsz hB
  obtain ⟨hx, hb, hr, hml, hown, hin, hlk, hE, hK, hP, hD, hS, hA, hN, hl⟩ := hB
  have hown : s.vm.findClass "SeriesVaultModel" = some m.cls := hown
  have hl : lv_has ls 6 [(0, .ref h), (1, .int a), (2, .int b), (3, .int c7), (4, .int d), (5, .int (nI n))] := hl
  obtain ⟨H, hH⟩ : ∃ z, z = s.heap := ⟨_, rfl⟩
  have hP : va_P D vwCl (MW dA h ad x) H := by rw [hH]; exact hP
  have hS : va_S A s.heap H [] := by rw [hH]; exact hS
  rw [← hH]
  refine lv_aload_n hx hb d_M_isName_0 rfl (lv_at hl 0 rfl) ?_
  refine gF (v := .int x.kind) hx hb hown hE hK hP 0 rfl rfl layM 44 (by decide) w469 rfl d_M_isName_1 ?_
  refine lv_iconst (v := 2) hx hb d_M_isName_4 (by decide) ?_
  refine lv_icmp_ne hx hb d_M_isName_5 (tgt := 93) rfl (fun g1 => ?_) (fun g1 => ?_)
  · have g1 := g1
    refine lv_iconst (v := 0) hx hb d_M_isName_93 (by decide) ?_
    exact rfZ hx hb hr (bI_nar false) hlk hS () (by simp [MS.nmB, bI, *]) hP hD (Nat.le_of_ble_eq_true rfl) (Nat.le_of_ble_eq_true rfl) d_M_isName_94
  · have g1 := g1
    refine lv_aload_n hx hb d_M_isName_8 rfl (lv_at hl 0 rfl) ?_
    refine gF (v := .int (nI x.too)) hx hb hown hE hK hP 0 rfl rfl layM 46 (by decide) w463 rfl d_M_isName_9 ?_
    refine lv_aload_n hx hb d_M_isName_12 rfl (lv_at hl 0 rfl) ?_
    refine gF (v := .int (nI x.frm)) hx hb hown hE hK hP 0 rfl rfl layM 45 (by decide) w464 rfl d_M_isName_13 ?_
    refine lv_isub hx hb d_M_isName_16 (tpi (y := nI (x.too - x.frm)) (pk_sub (a := x.too) (b := x.frm) (by omega)) ?_)
    refine lv_iload hx hb d_M_isName_17 (lv_at hl 5 rfl) ?_
    refine lv_icmp_ne hx hb d_M_isName_19 (tgt := 93) rfl (fun g2 => ?_) (fun g2 => ?_)
    · have g2 := mt (nI_eq (a := x.too - x.frm) (b := n) (by omega) (by omega)).mpr g2
      refine lv_iconst (v := 0) hx hb d_M_isName_93 (by decide) ?_
      exact rfZ hx hb hr (bI_nar false) hlk hS () (by simp [MS.nmB, bI, *]) hP hD (Nat.le_of_ble_eq_true rfl) (Nat.le_of_ble_eq_true rfl) d_M_isName_94
    · have g2 := (nI_eq (a := x.too - x.frm) (b := n) (by omega) (by omega)).mp g2
      refine lv_aload_n hx hb d_M_isName_22 rfl (lv_at hl 0 rfl) ?_
      refine lv_aload_n hx hb d_M_isName_23 rfl (lv_at hl 0 rfl) ?_
      refine gF (v := .int (nI x.frm)) hx hb hown hE hK hP 0 rfl rfl layM 45 (by decide) w464 rfl d_M_isName_24 ?_
      refine jfI (rnV (As := [.int (nI x.frm)]) (rest := []) hx hb hml hown hE hK (hN _ _ hS) hP hD (k_at l D dA H.size h ad x x.frm (show x.frm < 2 ^ 31 from by omega) (show x.length ≤ 65536 from by omega)) (q0 := 0) rfl rfl w466 w465 w467 w468 w328 rfl rfl ⟨⟨by decide, by decide⟩, rfl⟩ ⟨(Nat.le_of_ble_eq_true rfl), (Nat.le_of_ble_eq_true rfl)⟩ rfl hl.1 rfl (Nat.le_of_ble_eq_true rfl) d_M_isName_27 ⟨(Nat.le_of_ble_eq_true rfl), (Nat.le_of_ble_eq_true rfl)⟩) hP hD hS hA (fun r3 u4 H locs hp9 hP hD hS => ?_)
      have hP : va_P D vwCl (MW dA h ad x) H := hP
      have hD : va_D A (MW dA h ad x) := hD
      replace hp9 : x.atN x.frm = r3 := Eq.symm hp9
      subst hp9
      refine lv_iload_n hx hb d_M_isName_30 rfl (lv_at hl 1 rfl) ?_
      refine lv_icmp_ne hx hb d_M_isName_31 (tgt := 93) rfl (fun g5 => ?_) (fun g5 => ?_)
      · have g5 := g5
        refine lv_iconst (v := 0) hx hb d_M_isName_93 (by decide) ?_
        exact rfZ hx hb hr (bI_nar false) hlk hS () (by simp [MS.nmB, bI, *]) hP hD (Nat.le_of_ble_eq_true rfl) (Nat.le_of_ble_eq_true rfl) d_M_isName_94
      · have g5 := g5
        refine lv_aload_n hx hb d_M_isName_34 rfl (lv_at hl 0 rfl) ?_
        refine lv_aload_n hx hb d_M_isName_35 rfl (lv_at hl 0 rfl) ?_
        refine gF (v := .int (nI x.frm)) hx hb hown hE hK hP 0 rfl rfl layM 45 (by decide) w464 rfl d_M_isName_36 ?_
        refine lv_iconst (v := 1) hx hb d_M_isName_39 (by decide) ?_
        refine lv_iadd hx hb d_M_isName_40 (tpi (y := nI (x.frm + 1)) (nI_add (x.frm) (1)) ?_)
        refine jfI (rnV (As := [.int (nI (x.frm + 1))]) (rest := []) hx hb hml hown hE hK (hN _ _ hS) hP hD (k_at l D dA H.size h ad x (x.frm + 1) (show (x.frm + 1) < 2 ^ 31 from by omega) (show x.length ≤ 65536 from by omega)) (q0 := 0) rfl rfl w466 w465 w467 w468 w328 rfl rfl ⟨⟨by decide, by decide⟩, rfl⟩ ⟨(Nat.le_of_ble_eq_true rfl), (Nat.le_of_ble_eq_true rfl)⟩ rfl hl.1 rfl (Nat.le_of_ble_eq_true rfl) d_M_isName_41 ⟨(Nat.le_of_ble_eq_true rfl), (Nat.le_of_ble_eq_true rfl)⟩) hP hD hS hA (fun r6 u7 H locs hp9 hP hD hS => ?_)
        have hP : va_P D vwCl (MW dA h ad x) H := hP
        have hD : va_D A (MW dA h ad x) := hD
        replace hp9 : x.atN (x.frm + 1) = r6 := Eq.symm hp9
        subst hp9
        refine lv_iload_n hx hb d_M_isName_44 rfl (lv_at hl 2 rfl) ?_
        refine lv_icmp_ne hx hb d_M_isName_45 (tgt := 93) rfl (fun g8 => ?_) (fun g8 => ?_)
        · have g8 := g8
          refine lv_iconst (v := 0) hx hb d_M_isName_93 (by decide) ?_
          exact rfZ hx hb hr (bI_nar false) hlk hS () (by simp [MS.nmB, bI, *]) hP hD (Nat.le_of_ble_eq_true rfl) (Nat.le_of_ble_eq_true rfl) d_M_isName_94
        · have g8 := g8
          refine lv_iload hx hb d_M_isName_48 (lv_at hl 5 rfl) ?_
          refine lv_iconst (v := 3) hx hb d_M_isName_50 (by decide) ?_
          refine lv_icmp_lt hx hb d_M_isName_51 (tgt := 68) rfl (fun g9 => ?_) (fun g9 => ?_)
          · have g9 := (nI_ltI (a := n) (b := 3) (by omega) (by omega)).mp g9
            refine lv_iload hx hb d_M_isName_68 (lv_at hl 5 rfl) ?_
            refine lv_iconst (v := 4) hx hb d_M_isName_70 (by decide) ?_
            refine lv_icmp_lt hx hb d_M_isName_71 (tgt := 89) rfl (fun g10 => ?_) (fun g10 => ?_)
            · have g10 := (nI_ltI (a := n) (b := 4) (by omega) (by omega)).mp g10
              refine lv_iconst (v := 1) hx hb d_M_isName_89 (by decide) ?_
              refine lv_goto hx hb d_M_isName_90 (tgt := 94) rfl ?_
              exact rfZ hx hb hr (bI_nar true) hlk hS () (by simp [MS.nmB, bI, *]) hP hD (Nat.le_of_ble_eq_true rfl) (Nat.le_of_ble_eq_true rfl) d_M_isName_94
            · have g10 := mt (nI_ltI (a := n) (b := 4) (by omega) (by omega)).mpr g10
              refine lv_aload_n hx hb d_M_isName_74 rfl (lv_at hl 0 rfl) ?_
              refine lv_aload_n hx hb d_M_isName_75 rfl (lv_at hl 0 rfl) ?_
              refine gF (v := .int (nI x.frm)) hx hb hown hE hK hP 0 rfl rfl layM 45 (by decide) w464 rfl d_M_isName_76 ?_
              refine lv_iconst (v := 3) hx hb d_M_isName_79 (by decide) ?_
              refine lv_iadd hx hb d_M_isName_80 (tpi (y := nI (x.frm + 3)) (nI_add (x.frm) (3)) ?_)
              refine jfI (rnV (As := [.int (nI (x.frm + 3))]) (rest := []) hx hb hml hown hE hK (hN _ _ hS) hP hD (k_at l D dA H.size h ad x (x.frm + 3) (show (x.frm + 3) < 2 ^ 31 from by omega) (show x.length ≤ 65536 from by omega)) (q0 := 0) rfl rfl w466 w465 w467 w468 w328 rfl rfl ⟨⟨by decide, by decide⟩, rfl⟩ ⟨(Nat.le_of_ble_eq_true rfl), (Nat.le_of_ble_eq_true rfl)⟩ rfl hl.1 rfl (Nat.le_of_ble_eq_true rfl) d_M_isName_81 ⟨(Nat.le_of_ble_eq_true rfl), (Nat.le_of_ble_eq_true rfl)⟩) hP hD hS hA (fun r11 u12 H locs hp9 hP hD hS => ?_)
              have hP : va_P D vwCl (MW dA h ad x) H := hP
              have hD : va_D A (MW dA h ad x) := hD
              replace hp9 : x.atN (x.frm + 3) = r11 := Eq.symm hp9
              subst hp9
              refine lv_iload hx hb d_M_isName_84 (lv_at hl 4 rfl) ?_
              refine lv_icmp_ne hx hb d_M_isName_86 (tgt := 93) rfl (fun g13 => ?_) (fun g13 => ?_)
              · have g13 := g13
                refine lv_iconst (v := 0) hx hb d_M_isName_93 (by decide) ?_
                exact rfZ hx hb hr (bI_nar false) hlk hS () (by simp [MS.nmB, bI, *]) hP hD (Nat.le_of_ble_eq_true rfl) (Nat.le_of_ble_eq_true rfl) d_M_isName_94
              · have g13 := g13
                refine lv_iconst (v := 1) hx hb d_M_isName_89 (by decide) ?_
                refine lv_goto hx hb d_M_isName_90 (tgt := 94) rfl ?_
                exact rfZ hx hb hr (bI_nar true) hlk hS () (by simp [MS.nmB, bI, *]) hP hD (Nat.le_of_ble_eq_true rfl) (Nat.le_of_ble_eq_true rfl) d_M_isName_94
          · have g9 := mt (nI_ltI (a := n) (b := 3) (by omega) (by omega)).mpr g9
            refine lv_aload_n hx hb d_M_isName_54 rfl (lv_at hl 0 rfl) ?_
            refine lv_aload_n hx hb d_M_isName_55 rfl (lv_at hl 0 rfl) ?_
            refine gF (v := .int (nI x.frm)) hx hb hown hE hK hP 0 rfl rfl layM 45 (by decide) w464 rfl d_M_isName_56 ?_
            refine lv_iconst (v := 2) hx hb d_M_isName_59 (by decide) ?_
            refine lv_iadd hx hb d_M_isName_60 (tpi (y := nI (x.frm + 2)) (nI_add (x.frm) (2)) ?_)
            refine jfI (rnV (As := [.int (nI (x.frm + 2))]) (rest := []) hx hb hml hown hE hK (hN _ _ hS) hP hD (k_at l D dA H.size h ad x (x.frm + 2) (show (x.frm + 2) < 2 ^ 31 from by omega) (show x.length ≤ 65536 from by omega)) (q0 := 0) rfl rfl w466 w465 w467 w468 w328 rfl rfl ⟨⟨by decide, by decide⟩, rfl⟩ ⟨(Nat.le_of_ble_eq_true rfl), (Nat.le_of_ble_eq_true rfl)⟩ rfl hl.1 rfl (Nat.le_of_ble_eq_true rfl) d_M_isName_61 ⟨(Nat.le_of_ble_eq_true rfl), (Nat.le_of_ble_eq_true rfl)⟩) hP hD hS hA (fun r14 u15 H locs hp9 hP hD hS => ?_)
            have hP : va_P D vwCl (MW dA h ad x) H := hP
            have hD : va_D A (MW dA h ad x) := hD
            replace hp9 : x.atN (x.frm + 2) = r14 := Eq.symm hp9
            subst hp9
            refine lv_iload_n hx hb d_M_isName_64 rfl (lv_at hl 3 rfl) ?_
            refine lv_icmp_ne hx hb d_M_isName_65 (tgt := 93) rfl (fun g16 => ?_) (fun g16 => ?_)
            · have g16 := g16
              refine lv_iconst (v := 0) hx hb d_M_isName_93 (by decide) ?_
              exact rfZ hx hb hr (bI_nar false) hlk hS () (by simp [MS.nmB, bI, *]) hP hD (Nat.le_of_ble_eq_true rfl) (Nat.le_of_ble_eq_true rfl) d_M_isName_94
            · have g16 := g16
              refine lv_iload hx hb d_M_isName_68 (lv_at hl 5 rfl) ?_
              refine lv_iconst (v := 4) hx hb d_M_isName_70 (by decide) ?_
              refine lv_icmp_lt hx hb d_M_isName_71 (tgt := 89) rfl (fun g17 => ?_) (fun g17 => ?_)
              · have g17 := (nI_ltI (a := n) (b := 4) (by omega) (by omega)).mp g17
                refine lv_iconst (v := 1) hx hb d_M_isName_89 (by decide) ?_
                refine lv_goto hx hb d_M_isName_90 (tgt := 94) rfl ?_
                exact rfZ hx hb hr (bI_nar true) hlk hS () (by simp [MS.nmB, bI, *]) hP hD (Nat.le_of_ble_eq_true rfl) (Nat.le_of_ble_eq_true rfl) d_M_isName_94
              · have g17 := mt (nI_ltI (a := n) (b := 4) (by omega) (by omega)).mpr g17
                refine lv_aload_n hx hb d_M_isName_74 rfl (lv_at hl 0 rfl) ?_
                refine lv_aload_n hx hb d_M_isName_75 rfl (lv_at hl 0 rfl) ?_
                refine gF (v := .int (nI x.frm)) hx hb hown hE hK hP 0 rfl rfl layM 45 (by decide) w464 rfl d_M_isName_76 ?_
                refine lv_iconst (v := 3) hx hb d_M_isName_79 (by decide) ?_
                refine lv_iadd hx hb d_M_isName_80 (tpi (y := nI (x.frm + 3)) (nI_add (x.frm) (3)) ?_)
                refine jfI (rnV (As := [.int (nI (x.frm + 3))]) (rest := []) hx hb hml hown hE hK (hN _ _ hS) hP hD (k_at l D dA H.size h ad x (x.frm + 3) (show (x.frm + 3) < 2 ^ 31 from by omega) (show x.length ≤ 65536 from by omega)) (q0 := 0) rfl rfl w466 w465 w467 w468 w328 rfl rfl ⟨⟨by decide, by decide⟩, rfl⟩ ⟨(Nat.le_of_ble_eq_true rfl), (Nat.le_of_ble_eq_true rfl)⟩ rfl hl.1 rfl (Nat.le_of_ble_eq_true rfl) d_M_isName_81 ⟨(Nat.le_of_ble_eq_true rfl), (Nat.le_of_ble_eq_true rfl)⟩) hP hD hS hA (fun r18 u19 H locs hp9 hP hD hS => ?_)
                have hP : va_P D vwCl (MW dA h ad x) H := hP
                have hD : va_D A (MW dA h ad x) := hD
                replace hp9 : x.atN (x.frm + 3) = r18 := Eq.symm hp9
                subst hp9
                refine lv_iload hx hb d_M_isName_84 (lv_at hl 4 rfl) ?_
                refine lv_icmp_ne hx hb d_M_isName_86 (tgt := 93) rfl (fun g20 => ?_) (fun g20 => ?_)
                · have g20 := g20
                  refine lv_iconst (v := 0) hx hb d_M_isName_93 (by decide) ?_
                  exact rfZ hx hb hr (bI_nar false) hlk hS () (by simp [MS.nmB, bI, *]) hP hD (Nat.le_of_ble_eq_true rfl) (Nat.le_of_ble_eq_true rfl) d_M_isName_94
                · have g20 := g20
                  refine lv_iconst (v := 1) hx hb d_M_isName_89 (by decide) ?_
                  refine lv_goto hx hb d_M_isName_90 (tgt := 94) rfl ?_
                  exact rfZ hx hb hr (bI_nar true) hlk hS () (by simp [MS.nmB, bI, *]) hP hD (Nat.le_of_ble_eq_true rfl) (Nat.le_of_ble_eq_true rfl) d_M_isName_94
end
section
def jnB (sg : Int32) (ia ib : Bool) (y : Int64) : Bool := ia && (ib && ((!decide (sg = 47) && !decide (sg = 37)) || !decide (y = 0)))
def jnW (sg : Int32) (b : Bool) (u y : Int64) : Int64 := if b = false then 0 else if sg = 43 then u + y else if sg = 45 then u - y else if sg = 42 then u * y else if sg = 47 then u / y else u - u / y * y
def isOp (sg : Int32) : Prop := sg = 43 ∨ sg = 45 ∨ sg = 42 ∨ sg = 47 ∨ sg = 37
theorem jn_nz {sg : Int32} {ia ib v : Bool} {y : Int64} (h : jnB sg ia ib y = v) (hv : v = true) (hs : sg = 47 ∨ sg = 37) : ¬ y = 0 := by
  subst hv
  intro e
  subst e
  unfold jnB at h
  rcases hs with hs | hs <;> subst hs <;> revert h <;> cases ia <;> cases ib <;> decide
theorem d_M_join_48 : decode prog_14_method_74_code 48 = .ok (.istore 5, 2) := by decide +kernel
theorem d_M_join_50 : decode prog_14_method_74_code 50 = .ok (.aload_n 0, 1) := by decide +kernel
theorem d_M_join_51 : decode prog_14_method_74_code 51 = .ok (.getfield 104, 3) := by decide +kernel
theorem d_M_join_54 : decode prog_14_method_74_code 54 = .ok (.iload_n 3, 1) := by decide +kernel
theorem d_M_join_55 : decode prog_14_method_74_code 55 = .ok (.laload, 1) := by decide +kernel
theorem d_M_join_56 : decode prog_14_method_74_code 56 = .ok (.lstore 6, 2) := by decide +kernel
theorem d_M_join_58 : decode prog_14_method_74_code 58 = .ok (.aload_n 0, 1) := by decide +kernel
theorem d_M_join_59 : decode prog_14_method_74_code 59 = .ok (.getfield 104, 3) := by decide +kernel
theorem d_M_join_62 : decode prog_14_method_74_code 62 = .ok (.iload 4, 2) := by decide +kernel
theorem d_M_join_64 : decode prog_14_method_74_code 64 = .ok (.laload, 1) := by decide +kernel
theorem d_M_join_65 : decode prog_14_method_74_code 65 = .ok (.lstore 8, 2) := by decide +kernel
theorem d_M_join_67 : decode prog_14_method_74_code 67 = .ok (.aload_n 0, 1) := by decide +kernel
theorem d_M_join_68 : decode prog_14_method_74_code 68 = .ok (.getfield 107, 3) := by decide +kernel
theorem d_M_join_71 : decode prog_14_method_74_code 71 = .ok (.iload_n 2, 1) := by decide +kernel
theorem d_M_join_72 : decode prog_14_method_74_code 72 = .ok (.iload 5, 2) := by decide +kernel
theorem d_M_join_74 : decode prog_14_method_74_code 74 = .ok (.bastore, 1) := by decide +kernel
theorem d_M_join_75 : decode prog_14_method_74_code 75 = .ok (.aload_n 0, 1) := by decide +kernel
theorem d_M_join_76 : decode prog_14_method_74_code 76 = .ok (.getfield 104, 3) := by decide +kernel
theorem d_M_join_79 : decode prog_14_method_74_code 79 = .ok (.iload_n 2, 1) := by decide +kernel
theorem d_M_join_150 : decode prog_14_method_74_code 150 = .ok (.lastore, 1) := by decide +kernel
theorem d_M_join_151 : decode prog_14_method_74_code 151 = .ok (.return_, 1) := by decide +kernel
theorem d_M_join_80 : decode prog_14_method_74_code 80 = .ok (.iload 5, 2) := by decide +kernel
theorem d_M_join_82 : decode prog_14_method_74_code 82 = .ok (.ifCond .ne 7, 3) := by decide +kernel
theorem d_M_join_89 : decode prog_14_method_74_code 89 = .ok (.iload_n 1, 1) := by decide +kernel
theorem d_M_join_90 : decode prog_14_method_74_code 90 = .ok (.bipush 43, 2) := by decide +kernel
theorem d_M_join_92 : decode prog_14_method_74_code 92 = .ok (.if_icmp .ne 11, 3) := by decide +kernel
theorem d_M_join_103 : decode prog_14_method_74_code 103 = .ok (.iload_n 1, 1) := by decide +kernel
theorem d_M_join_104 : decode prog_14_method_74_code 104 = .ok (.bipush 45, 2) := by decide +kernel
theorem d_M_join_106 : decode prog_14_method_74_code 106 = .ok (.if_icmp .ne 11, 3) := by decide +kernel
theorem d_M_join_117 : decode prog_14_method_74_code 117 = .ok (.iload_n 1, 1) := by decide +kernel
theorem d_M_join_118 : decode prog_14_method_74_code 118 = .ok (.bipush 42, 2) := by decide +kernel
theorem d_M_join_120 : decode prog_14_method_74_code 120 = .ok (.if_icmp .ne 11, 3) := by decide +kernel
theorem d_M_join_131 : decode prog_14_method_74_code 131 = .ok (.iload_n 1, 1) := by decide +kernel
theorem d_M_join_132 : decode prog_14_method_74_code 132 = .ok (.bipush 47, 2) := by decide +kernel
theorem d_M_join_134 : decode prog_14_method_74_code 134 = .ok (.if_icmp .ne 11, 3) := by decide +kernel
theorem d_M_join_145 : decode prog_14_method_74_code 145 = .ok (.lload 6, 2) := by decide +kernel
theorem d_M_join_147 : decode prog_14_method_74_code 147 = .ok (.lload 8, 2) := by decide +kernel
theorem d_M_join_149 : decode prog_14_method_74_code 149 = .ok (.lrem, 1) := by decide +kernel
theorem d_M_join_137 : decode prog_14_method_74_code 137 = .ok (.lload 6, 2) := by decide +kernel
theorem d_M_join_139 : decode prog_14_method_74_code 139 = .ok (.lload 8, 2) := by decide +kernel
theorem d_M_join_141 : decode prog_14_method_74_code 141 = .ok (.ldiv, 1) := by decide +kernel
theorem d_M_join_142 : decode prog_14_method_74_code 142 = .ok (.goto 8, 3) := by decide +kernel
theorem d_M_join_123 : decode prog_14_method_74_code 123 = .ok (.lload 6, 2) := by decide +kernel
theorem d_M_join_125 : decode prog_14_method_74_code 125 = .ok (.lload 8, 2) := by decide +kernel
theorem d_M_join_127 : decode prog_14_method_74_code 127 = .ok (.lmul, 1) := by decide +kernel
theorem d_M_join_128 : decode prog_14_method_74_code 128 = .ok (.goto 22, 3) := by decide +kernel
theorem d_M_join_109 : decode prog_14_method_74_code 109 = .ok (.lload 6, 2) := by decide +kernel
theorem d_M_join_111 : decode prog_14_method_74_code 111 = .ok (.lload 8, 2) := by decide +kernel
theorem d_M_join_113 : decode prog_14_method_74_code 113 = .ok (.lsub, 1) := by decide +kernel
theorem d_M_join_114 : decode prog_14_method_74_code 114 = .ok (.goto 36, 3) := by decide +kernel
theorem d_M_join_95 : decode prog_14_method_74_code 95 = .ok (.lload 6, 2) := by decide +kernel
theorem d_M_join_97 : decode prog_14_method_74_code 97 = .ok (.lload 8, 2) := by decide +kernel
theorem d_M_join_99 : decode prog_14_method_74_code 99 = .ok (.ladd, 1) := by decide +kernel
theorem d_M_join_100 : decode prog_14_method_74_code 100 = .ok (.goto 50, 3) := by decide +kernel
theorem d_M_join_85 : decode prog_14_method_74_code 85 = .ok (.lconst 0, 1) := by decide +kernel
theorem d_M_join_86 : decode prog_14_method_74_code 86 = .ok (.goto 64, 3) := by decide +kernel
theorem d_M_join_0 : decode prog_14_method_74_code 0 = .ok (.aload_n 0, 1) := by decide +kernel
theorem d_M_join_1 : decode prog_14_method_74_code 1 = .ok (.getfield 107, 3) := by decide +kernel
theorem d_M_join_4 : decode prog_14_method_74_code 4 = .ok (.iload_n 3, 1) := by decide +kernel
theorem d_M_join_5 : decode prog_14_method_74_code 5 = .ok (.baload, 1) := by decide +kernel
theorem d_M_join_6 : decode prog_14_method_74_code 6 = .ok (.ifCond .eq 41, 3) := by decide +kernel
theorem d_M_join_47 : decode prog_14_method_74_code 47 = .ok (.iconst 0, 1) := by decide +kernel
theorem d_M_join_9 : decode prog_14_method_74_code 9 = .ok (.aload_n 0, 1) := by decide +kernel
theorem d_M_join_10 : decode prog_14_method_74_code 10 = .ok (.getfield 107, 3) := by decide +kernel
theorem d_M_join_13 : decode prog_14_method_74_code 13 = .ok (.iload 4, 2) := by decide +kernel
theorem d_M_join_15 : decode prog_14_method_74_code 15 = .ok (.baload, 1) := by decide +kernel
theorem d_M_join_16 : decode prog_14_method_74_code 16 = .ok (.ifCond .eq 31, 3) := by decide +kernel
theorem d_M_join_19 : decode prog_14_method_74_code 19 = .ok (.iload_n 1, 1) := by decide +kernel
theorem d_M_join_20 : decode prog_14_method_74_code 20 = .ok (.bipush 47, 2) := by decide +kernel
theorem d_M_join_22 : decode prog_14_method_74_code 22 = .ok (.if_icmp .eq 9, 3) := by decide +kernel
theorem d_M_join_31 : decode prog_14_method_74_code 31 = .ok (.aload_n 0, 1) := by decide +kernel
theorem d_M_join_32 : decode prog_14_method_74_code 32 = .ok (.getfield 104, 3) := by decide +kernel
theorem d_M_join_35 : decode prog_14_method_74_code 35 = .ok (.iload 4, 2) := by decide +kernel
theorem d_M_join_37 : decode prog_14_method_74_code 37 = .ok (.laload, 1) := by decide +kernel
theorem d_M_join_38 : decode prog_14_method_74_code 38 = .ok (.lconst 0, 1) := by decide +kernel
theorem d_M_join_39 : decode prog_14_method_74_code 39 = .ok (.lcmp, 1) := by decide +kernel
theorem d_M_join_40 : decode prog_14_method_74_code 40 = .ok (.ifCond .eq 7, 3) := by decide +kernel
theorem d_M_join_43 : decode prog_14_method_74_code 43 = .ok (.iconst 1, 1) := by decide +kernel
theorem d_M_join_44 : decode prog_14_method_74_code 44 = .ok (.goto 4, 3) := by decide +kernel
theorem d_M_join_25 : decode prog_14_method_74_code 25 = .ok (.iload_n 1, 1) := by decide +kernel
theorem d_M_join_26 : decode prog_14_method_74_code 26 = .ok (.bipush 37, 2) := by decide +kernel
theorem d_M_join_28 : decode prog_14_method_74_code 28 = .ok (.if_icmp .ne 15, 3) := by decide +kernel
set_option maxHeartbeats 4000000 in
set_option maxRecDepth 100000 in
theorem k_join (l : Launch) (D : va_G) (dA : Nat → ClassId) (sz : Nat) (h : Nat) (ad : Nat → Nat) (x : MS) (sg : Int32) (w : Nat) (a : Nat) (b : Nat) (hsg : isOp sg) (hw : w < 327680) (ha : a < 327680) (hb2 : b < 327680) : Met l ⟨"SeriesVaultModel", "join", "(IIII)V"⟩ [Cond.code ⟨"SeriesVaultModel", "join", "(IIII)V"⟩ prog_14_method_74_code 10 none] { frames := 1, cells := 0, slots := 0, locals := 0 } (pC D dA [.ref h, .int sg, .int (nI w), .int (nI a), .int (nI b)] (MW dA h ad x) sz) (va_Qv (fun (u9 : Unit) => True) (fun (u9 : Unit) t9 => bW D (va_A (MW dA h ad x) sz) (MW dA h ad (MS.s_isCell (MS.s_cells x (va_up x.cells w (jnW sg (jnB sg (x.isCell a) (x.isCell b) (x.cells b)) (x.cells a) (x.cells b)))) (va_up x.isCell w (jnB sg (x.isCell a) (x.isCell b) (x.cells b))))) t9) (va_A (MW dA h ad x) sz)) 0 0 (va_A (MW dA h ad x) sz) := by
  refine mkC (y := ⟨"SeriesVaultModel", "join", "(IIII)V"⟩) (cc := prog_14_method_74_code) (maxL := 10) (av := [.ref h, .int sg, .int (nI w), .int (nI a), .int (nI b)]) (ws := MW dA h ad x) (sz := sz) (Qc := fun A => va_Qv (fun (u9 : Unit) => True) (fun (u9 : Unit) t9 => bW D A (MW dA h ad (MS.s_isCell (MS.s_cells x (va_up x.cells w (jnW sg (jnB sg (x.isCell a) (x.isCell b) (x.cells b)) (x.cells a) (x.cells b)))) (va_up x.isCell w (jnB sg (x.isCell a) (x.isCell b) (x.cells b))))) t9) A) (by decide) (Nat.le_of_ble_eq_true rfl) ?_
  intro A p e s m below meth c ls hsz hB
  obtain ⟨hx, hb, hr, hml, hown, hin, hlk, hE, hK, hP, hD, hS, hA, hN, hl⟩ := hB
  have hown : s.vm.findClass "SeriesVaultModel" = some m.cls := hown
  have hl : lv_has ls 10 [(0, .ref h), (1, .int sg), (2, .int (nI w)), (3, .int (nI a)), (4, .int (nI b))] := hl
  obtain ⟨H, hH⟩ : ∃ z, z = s.heap := ⟨_, rfl⟩
  have hP : va_P D vwCl (MW dA h ad x) H := by rw [hH]; exact hP
  have hS : va_S A s.heap H [] := by rw [hH]; exact hS
  rw [← hH]
  have J48 : ∀ (v : Bool) (j1 : jnB sg (x.isCell a) (x.isCell b) (x.cells b) = v), ∀ (H : Heap) (locs : List Loc) (ls : Array Slot) (hP : va_P D vwCl (MW dA h ad x) H) (hD : va_D A (MW dA h ad x)) (hS : va_S A s.heap H locs) (hl : lv_has ls 10 [(1, .int sg), (2, .int (nI w)), (3, .int (nI a)), (4, .int (nI b)), (0, .ref h)]), W p l e ({ frames := 1, cells := 0, slots := 0, locals := 0 } : Room) s m ([.ref h, .int sg, .int (nI w), .int (nI a), .int (nI b)] : List Value).toArray below meth c H locs 0 0 (MQ below (va_Qv (fun (u9 : Unit) => True) (fun (u9 : Unit) t9 => bW D A (MW dA h ad (MS.s_isCell (MS.s_cells x (va_up x.cells w (jnW sg (jnB sg (x.isCell a) (x.isCell b) (x.cells b)) (x.cells a) (x.cells b)))) (va_up x.isCell w (jnB sg (x.isCell a) (x.isCell b) (x.cells b))))) t9) A) ([.ref h, .int sg, .int (nI w), .int (nI a), .int (nI b)] : List Value).toArray s 0 0 A) (F0 m 48 ls [.int (bI v)]) := by
    intro v j1 H locs ls hP hD hS hl
    refine lv_istore hx hb d_M_join_48 hl (by decide) rfl (fun ls hl => ?_)
    have hl : lv_has ls 10 [(5, .int (bI v)), (1, .int sg), (2, .int (nI w)), (3, .int (nI a)), (4, .int (nI b)), (0, .ref h)] := hl
    refine lv_aload_n hx hb d_M_join_50 rfl (lv_at hl 5 rfl) ?_
    refine gF (v := .ref (ad 53)) hx hb hown hE hK hP 0 rfl rfl layM 53 (by decide) w524 rfl d_M_join_51 ?_
    refine lv_iload_n hx hb d_M_join_54 rfl (lv_at hl 3 rfl) ?_
    refine nlld (f := x.cells) hx hb hK hP 26 2 rfl rfl (a) (by omega) (by decide) d_M_join_55 ?_
    refine lv_lstore hx hb d_M_join_56 hl (by decide) rfl (fun ls hl => ?_)
    have hl : lv_has ls 10 [(6, .long (x.cells a)), (5, .int (bI v)), (1, .int sg), (2, .int (nI w)), (3, .int (nI a)), (4, .int (nI b)), (0, .ref h)] := hl
    refine lv_aload_n hx hb d_M_join_58 rfl (lv_at hl 6 rfl) ?_
    refine gF (v := .ref (ad 53)) hx hb hown hE hK hP 0 rfl rfl layM 53 (by decide) w524 rfl d_M_join_59 ?_
    refine lv_iload hx hb d_M_join_62 (lv_at hl 5 rfl) ?_
    refine nlld (f := x.cells) hx hb hK hP 26 2 rfl rfl (b) (by omega) (by decide) d_M_join_64 ?_
    refine lv_lstore hx hb d_M_join_65 hl (by decide) rfl (fun ls hl => ?_)
    have hl : lv_has ls 10 [(8, .long (x.cells b)), (6, .long (x.cells a)), (5, .int (bI v)), (1, .int sg), (2, .int (nI w)), (3, .int (nI a)), (4, .int (nI b)), (0, .ref h)] := hl
    refine lv_aload_n hx hb d_M_join_67 rfl (lv_at hl 7 rfl) ?_
    refine gF (v := .ref (ad 54)) hx hb hown hE hK hP 0 rfl rfl layM 54 (by decide) w526 rfl d_M_join_68 ?_
    refine lv_iload_n hx hb d_M_join_71 rfl (lv_at hl 4 rfl) ?_
    refine lv_iload hx hb d_M_join_72 (lv_at hl 2 rfl) ?_
    refine nzstB (v := v) hx hb hK hP hD hS 27 3 rfl rfl (w) (by omega) (by decide) d_M_join_74 (fun H locs hP hD hS => ?_)
    have hP : va_P D vwCl (MW dA h ad (MS.s_isCell x (va_up x.isCell w v))) H := hP
    have hD : va_D A (MW dA h ad (MS.s_isCell x (va_up x.isCell w v))) := hD
    refine lv_aload_n hx hb d_M_join_75 rfl (lv_at hl 7 rfl) ?_
    refine gF (v := .ref (ad 53)) hx hb hown hE hK hP 0 rfl rfl layM 53 (by decide) w524 rfl d_M_join_76 ?_
    refine lv_iload_n hx hb d_M_join_79 rfl (lv_at hl 4 rfl) ?_
    have J150 : ∀ (m7 : Int64) (j2 : jnW sg v (x.cells a) (x.cells b) = m7), ∀ (H : Heap) (locs : List Loc) (ls : Array Slot) (hP : va_P D vwCl (MW dA h ad (MS.s_isCell x (va_up x.isCell w v))) H) (hD : va_D A (MW dA h ad (MS.s_isCell x (va_up x.isCell w v)))) (hS : va_S A s.heap H locs) (hl : lv_has ls 10 [(8, .long (x.cells b)), (6, .long (x.cells a)), (5, .int (bI v)), (1, .int sg), (2, .int (nI w)), (3, .int (nI a)), (4, .int (nI b)), (0, .ref h)]), W p l e ({ frames := 1, cells := 0, slots := 0, locals := 0 } : Room) s m ([.ref h, .int sg, .int (nI w), .int (nI a), .int (nI b)] : List Value).toArray below meth c H locs 0 0 (MQ below (va_Qv (fun (u9 : Unit) => True) (fun (u9 : Unit) t9 => bW D A (MW dA h ad (MS.s_isCell (MS.s_cells x (va_up x.cells w (jnW sg (jnB sg (x.isCell a) (x.isCell b) (x.cells b)) (x.cells a) (x.cells b)))) (va_up x.isCell w (jnB sg (x.isCell a) (x.isCell b) (x.cells b))))) t9) A) ([.ref h, .int sg, .int (nI w), .int (nI a), .int (nI b)] : List Value).toArray s 0 0 A) (F0 m 150 ls [.long m7, .int (nI w), .ref (ad 53)]) := by
      intro m7 j2 H locs ls hP hD hS hl
      refine nlst hx hb hK hP hD hS 26 2 rfl rfl (w) (by omega) (by decide) d_M_join_150 (fun H locs hP hD hS => ?_)
      have hP : va_P D vwCl (MW dA h ad (MS.s_isCell (MS.s_cells x (va_up x.cells w m7)) (va_up x.isCell w v))) H := hP
      have hD : va_D A (MW dA h ad (MS.s_isCell (MS.s_cells x (va_up x.cells w m7)) (va_up x.isCell w v))) := hD
      have e9 : (MS.s_isCell (MS.s_cells x (va_up x.cells w m7)) (va_up x.isCell w v) : MS) = MS.s_isCell (MS.s_cells x (va_up x.cells w (jnW sg (jnB sg (x.isCell a) (x.isCell b) (x.cells b)) (x.cells a) (x.cells b)))) (va_up x.isCell w (jnB sg (x.isCell a) (x.isCell b) (x.cells b))) := by rw [show (va_up x.cells w (jnW sg (jnB sg (x.isCell a) (x.isCell b) (x.cells b)) (x.cells a) (x.cells b))) = (va_up x.cells w m7) from by (rw [j1, j2]), show (va_up x.isCell w (jnB sg (x.isCell a) (x.isCell b) (x.cells b))) = (va_up x.isCell w v) from by (rw [j1])] <;> rfl
      exact rfV hx hb hr hlk hS () trivial (cvP e9 hP) (cvD e9 hD) (Nat.le_of_ble_eq_true rfl) (Nat.le_of_ble_eq_true rfl) d_M_join_151
    refine lv_iload hx hb d_M_join_80 (lv_at hl 2 rfl) ?_
    refine lv_if_ne hx hb d_M_join_82 (tgt := 89) rfl (fun g1 => ?_) (fun g1 => ?_)
    · have g1 := bI_n0 g1
      refine lv_iload_n hx hb d_M_join_89 rfl (lv_at hl 3 rfl) ?_
      refine lv_bipush (v := 43) hx hb d_M_join_90 (by decide) ?_
      refine lv_icmp_ne hx hb d_M_join_92 (tgt := 103) rfl (fun g2 => ?_) (fun g2 => ?_)
      · have g2 := g2
        refine lv_iload_n hx hb d_M_join_103 rfl (lv_at hl 3 rfl) ?_
        refine lv_bipush (v := 45) hx hb d_M_join_104 (by decide) ?_
        refine lv_icmp_ne hx hb d_M_join_106 (tgt := 117) rfl (fun g3 => ?_) (fun g3 => ?_)
        · have g3 := g3
          refine lv_iload_n hx hb d_M_join_117 rfl (lv_at hl 3 rfl) ?_
          refine lv_bipush (v := 42) hx hb d_M_join_118 (by decide) ?_
          refine lv_icmp_ne hx hb d_M_join_120 (tgt := 131) rfl (fun g4 => ?_) (fun g4 => ?_)
          · have g4 := g4
            refine lv_iload_n hx hb d_M_join_131 rfl (lv_at hl 3 rfl) ?_
            refine lv_bipush (v := 47) hx hb d_M_join_132 (by decide) ?_
            refine lv_icmp_ne hx hb d_M_join_134 (tgt := 145) rfl (fun g5 => ?_) (fun g5 => ?_)
            · have g5 := g5
              refine lv_lload hx hb d_M_join_145 (lv_at hl 1 rfl) ?_
              refine lv_lload hx hb d_M_join_147 (lv_at hl 0 rfl) ?_
              refine lv_lrem hx hb d_M_join_149 (jn_nz j1 g1 (Or.inr ((((hsg.resolve_left g2).resolve_left g3).resolve_left g4).resolve_left g5))) ?_
              exact J150 ((x.cells a) - (x.cells a) / (x.cells b) * (x.cells b)) (by unfold jnW; rw [if_neg (by rw [g1]; decide), if_neg g2, if_neg g3, if_neg g4, if_neg g5]) H _ ls hP hD hS (lv_sub hl [0, 1, 2, 3, 4, 5, 6, 7] rfl)
            · have g5 := g5
              refine lv_lload hx hb d_M_join_137 (lv_at hl 1 rfl) ?_
              refine lv_lload hx hb d_M_join_139 (lv_at hl 0 rfl) ?_
              refine lv_ldiv hx hb d_M_join_141 (jn_nz j1 g1 (Or.inl g5)) ?_
              refine lv_goto hx hb d_M_join_142 (tgt := 150) rfl ?_
              exact J150 ((x.cells a) / (x.cells b)) (by unfold jnW; rw [if_neg (by rw [g1]; decide), if_neg g2, if_neg g3, if_neg g4, if_pos g5]) H _ ls hP hD hS (lv_sub hl [0, 1, 2, 3, 4, 5, 6, 7] rfl)
          · have g4 := g4
            refine lv_lload hx hb d_M_join_123 (lv_at hl 1 rfl) ?_
            refine lv_lload hx hb d_M_join_125 (lv_at hl 0 rfl) ?_
            refine lv_lmul hx hb d_M_join_127 ?_
            refine lv_goto hx hb d_M_join_128 (tgt := 150) rfl ?_
            exact J150 ((x.cells a) * (x.cells b)) (by unfold jnW; rw [if_neg (by rw [g1]; decide), if_neg g2, if_neg g3, if_pos g4]) H _ ls hP hD hS (lv_sub hl [0, 1, 2, 3, 4, 5, 6, 7] rfl)
        · have g3 := g3
          refine lv_lload hx hb d_M_join_109 (lv_at hl 1 rfl) ?_
          refine lv_lload hx hb d_M_join_111 (lv_at hl 0 rfl) ?_
          refine lv_lsub hx hb d_M_join_113 ?_
          refine lv_goto hx hb d_M_join_114 (tgt := 150) rfl ?_
          exact J150 ((x.cells a) - (x.cells b)) (by unfold jnW; rw [if_neg (by rw [g1]; decide), if_neg g2, if_pos g3]) H _ ls hP hD hS (lv_sub hl [0, 1, 2, 3, 4, 5, 6, 7] rfl)
      · have g2 := g2
        refine lv_lload hx hb d_M_join_95 (lv_at hl 1 rfl) ?_
        refine lv_lload hx hb d_M_join_97 (lv_at hl 0 rfl) ?_
        refine lv_ladd hx hb d_M_join_99 ?_
        refine lv_goto hx hb d_M_join_100 (tgt := 150) rfl ?_
        exact J150 ((x.cells a) + (x.cells b)) (by unfold jnW; rw [if_neg (by rw [g1]; decide), if_pos g2]) H _ ls hP hD hS (lv_sub hl [0, 1, 2, 3, 4, 5, 6, 7] rfl)
    · have g1 := bI_0 g1
      refine lv_lconst (v := 0) hx hb d_M_join_85 (by decide) ?_
      refine lv_goto hx hb d_M_join_86 (tgt := 150) rfl ?_
      exact J150 0 (if_pos g1) H _ ls hP hD hS (lv_sub hl [0, 1, 2, 3, 4, 5, 6, 7] rfl)
  refine lv_aload_n hx hb d_M_join_0 rfl (lv_at hl 0 rfl) ?_
  refine gF (v := .ref (ad 54)) hx hb hown hE hK hP 0 rfl rfl layM 54 (by decide) w526 rfl d_M_join_1 ?_
  refine lv_iload_n hx hb d_M_join_4 rfl (lv_at hl 3 rfl) ?_
  refine nzld (f := (fun z9 => bI (x.isCell z9))) hx hb hK hP 27 3 rfl rfl (a) (by omega) (by decide) d_M_join_5 ?_
  refine lv_if_eq hx hb d_M_join_6 (tgt := 47) rfl (fun g6 => ?_) (fun g6 => ?_)
  · have g6 := bI_0 g6
    refine lv_iconst (v := 0) hx hb d_M_join_47 (by decide) ?_
    exact J48 false (by simp [jnB, *]) H _ ls hP hD hS (lv_sub hl [1, 2, 3, 4, 0] rfl)
  · have g6 := bI_n0 g6
    refine lv_aload_n hx hb d_M_join_9 rfl (lv_at hl 0 rfl) ?_
    refine gF (v := .ref (ad 54)) hx hb hown hE hK hP 0 rfl rfl layM 54 (by decide) w526 rfl d_M_join_10 ?_
    refine lv_iload hx hb d_M_join_13 (lv_at hl 4 rfl) ?_
    refine nzld (f := (fun z9 => bI (x.isCell z9))) hx hb hK hP 27 3 rfl rfl (b) (by omega) (by decide) d_M_join_15 ?_
    refine lv_if_eq hx hb d_M_join_16 (tgt := 47) rfl (fun g7 => ?_) (fun g7 => ?_)
    · have g7 := bI_0 g7
      refine lv_iconst (v := 0) hx hb d_M_join_47 (by decide) ?_
      exact J48 false (by simp [jnB, *]) H _ ls hP hD hS (lv_sub hl [1, 2, 3, 4, 0] rfl)
    · have g7 := bI_n0 g7
      refine lv_iload_n hx hb d_M_join_19 rfl (lv_at hl 1 rfl) ?_
      refine lv_bipush (v := 47) hx hb d_M_join_20 (by decide) ?_
      refine lv_icmp_eq hx hb d_M_join_22 (tgt := 31) rfl (fun g8 => ?_) (fun g8 => ?_)
      · have g8 := g8
        refine lv_aload_n hx hb d_M_join_31 rfl (lv_at hl 0 rfl) ?_
        refine gF (v := .ref (ad 53)) hx hb hown hE hK hP 0 rfl rfl layM 53 (by decide) w524 rfl d_M_join_32 ?_
        refine lv_iload hx hb d_M_join_35 (lv_at hl 4 rfl) ?_
        refine nlld (f := x.cells) hx hb hK hP 26 2 rfl rfl (b) (by omega) (by decide) d_M_join_37 ?_
        refine lv_lconst (v := 0) hx hb d_M_join_38 (by decide) ?_
        refine W.lcmp hx hb d_M_join_39 ?_
        refine lv_if_eq hx hb d_M_join_40 (tgt := 47) rfl (fun g9 => ?_) (fun g9 => ?_)
        · have g9 := (lg_cmp_eq _ _).mp g9
          refine lv_iconst (v := 0) hx hb d_M_join_47 (by decide) ?_
          exact J48 false (by simp [jnB, *]) H _ ls hP hD hS (lv_sub hl [1, 2, 3, 4, 0] rfl)
        · have g9 := mt (lg_cmp_eq _ _).mpr g9
          refine lv_iconst (v := 1) hx hb d_M_join_43 (by decide) ?_
          refine lv_goto hx hb d_M_join_44 (tgt := 48) rfl ?_
          exact J48 true (by simp [jnB, *]) H _ ls hP hD hS (lv_sub hl [1, 2, 3, 4, 0] rfl)
      · have g8 := g8
        refine lv_iload_n hx hb d_M_join_25 rfl (lv_at hl 1 rfl) ?_
        refine lv_bipush (v := 37) hx hb d_M_join_26 (by decide) ?_
        refine lv_icmp_ne hx hb d_M_join_28 (tgt := 43) rfl (fun g10 => ?_) (fun g10 => ?_)
        · have g10 := g10
          refine lv_iconst (v := 1) hx hb d_M_join_43 (by decide) ?_
          refine lv_goto hx hb d_M_join_44 (tgt := 48) rfl ?_
          exact J48 true (by simp [jnB, *]) H _ ls hP hD hS (lv_sub hl [1, 2, 3, 4, 0] rfl)
        · have g10 := g10
          refine lv_aload_n hx hb d_M_join_31 rfl (lv_at hl 0 rfl) ?_
          refine gF (v := .ref (ad 53)) hx hb hown hE hK hP 0 rfl rfl layM 53 (by decide) w524 rfl d_M_join_32 ?_
          refine lv_iload hx hb d_M_join_35 (lv_at hl 4 rfl) ?_
          refine nlld (f := x.cells) hx hb hK hP 26 2 rfl rfl (b) (by omega) (by decide) d_M_join_37 ?_
          refine lv_lconst (v := 0) hx hb d_M_join_38 (by decide) ?_
          refine W.lcmp hx hb d_M_join_39 ?_
          refine lv_if_eq hx hb d_M_join_40 (tgt := 47) rfl (fun g11 => ?_) (fun g11 => ?_)
          · have g11 := (lg_cmp_eq _ _).mp g11
            refine lv_iconst (v := 0) hx hb d_M_join_47 (by decide) ?_
            exact J48 false (by simp [jnB, *]) H _ ls hP hD hS (lv_sub hl [1, 2, 3, 4, 0] rfl)
          · have g11 := mt (lg_cmp_eq _ _).mpr g11
            refine lv_iconst (v := 1) hx hb d_M_join_43 (by decide) ?_
            refine lv_goto hx hb d_M_join_44 (tgt := 48) rfl ?_
            exact J48 true (by simp [jnB, *]) H _ ls hP hD hS (lv_sub hl [1, 2, 3, 4, 0] rfl)
end
