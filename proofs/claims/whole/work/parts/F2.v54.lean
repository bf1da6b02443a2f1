/-! The class's tokens: the tape f, its length n. -/
def whG (P : Int32 → Bool) (f : Nat → Int32) (n : Nat) : Nat → Nat → Nat
  | 0, q => q
  | w + 1, q => if q < n ∧ P (f q) = true then whG P f n w (q + 1) else q
/-- the first place from q on whose byte is none of P's, or the end -/
def whE (P : Int32 → Bool) (f : Nat → Int32) (n q : Nat) : Nat := whG P f n (n - q) q
theorem whE_t {P : Int32 → Bool} {f : Nat → Int32} {n q : Nat} (h : q < n) (h2 : P (f q) = true) : whE P f n q = whE P f n (q + 1) := by
  unfold whE
  obtain ⟨d, e⟩ : ∃ d, n - q = d + 1 := ⟨n - q - 1, by omega⟩
  rw [e, show n - (q + 1) = d by omega]
  exact if_pos ⟨h, h2⟩
theorem whE_n {P : Int32 → Bool} {f : Nat → Int32} {n q : Nat} (h : n ≤ q) : whE P f n q = q := by
  unfold whE
  rw [show n - q = 0 by omega]
  rfl
theorem whE_f {P : Int32 → Bool} {f : Nat → Int32} {n q : Nat} (h2 : P (f q) = false) : whE P f n q = q := by
  unfold whE
  cases e : n - q with
  | zero => rfl
  | succ d => exact if_neg (fun z => by rw [h2] at z; exact absurd z.2 (by decide))
theorem whG_in {P : Int32 → Bool} {f : Nat → Int32} {n : Nat} : ∀ {w q : Nat}, q ≤ n → q ≤ whG P f n w q ∧ whG P f n w q ≤ n
  | 0, q, h => ⟨Nat.le_refl q, h⟩
  | w + 1, q, h => by
    show q ≤ (if q < n ∧ P (f q) = true then whG P f n w (q + 1) else q) ∧ (if q < n ∧ P (f q) = true then whG P f n w (q + 1) else q) ≤ n
    split
    · rename_i g
      have := whG_in (P := P) (f := f) (n := n) (w := w) (q := q + 1) (by omega)
      omega
    · exact ⟨Nat.le_refl q, h⟩
theorem whE_in {P : Int32 → Bool} {f : Nat → Int32} {n q : Nat} (h : q ≤ n) : q ≤ whE P f n q ∧ whE P f n q ≤ n := whG_in h
def isSp (z : Int32) : Bool := decide (z = 32)
def isTv (z : Int32) : Bool := !decide (z = 34) && (!decide (z < 32) && !decide (126 < z))
/-- k digits from q on as a number, and whether it grew too large -/
def nuV (f : Nat → Int32) (q : Nat) : Nat → Int64
  | 0 => 0
  | k + 1 => 10 * nuV f q k + (f (q + k) - 48).toInt64
def nuO (f : Nat → Int32) (q : Nat) : Nat → Bool
  | 0 => false
  | k + 1 => nuO f q k || decide ((9223372036854775807 - (f (q + k) - 48).toInt64) / 10 < nuV f q k)
/-- a sign: its kind, its length -/
def sgV (z y : Int32) : Int32 × Nat :=
  if z = 33 then (if y = 61 then (260, 2) else if y = 94 then (262, 2) else (263, 1)) else
  if z = 94 then (if y = 61 then (261, 2) else (263, 1)) else
  if z = 37 ∨ z = 40 ∨ z = 41 ∨ z = 42 ∨ z = 43 ∨ z = 44 ∨ z = 45 ∨ z = 47 ∨ z = 61 ∨ z = 123 ∨ z = 125 then (z, 1) else (263, 1)
/-- the byte at q, 0 behind the end -/
def atV (f : Nat → Int32) (n q : Nat) : Int32 := if q < n then f q else 0
theorem atV_t {f : Nat → Int32} {n q : Nat} (h : q < n) : atV f n q = f q := if_pos h
theorem atV_f {f : Nat → Int32} {n q : Nat} (h : n ≤ q) : atV f n q = 0 := if_neg (by omega)
def nuK (f : Nat → Int32) (q k : Nat) : Int32 := if nuO f q k = true then 263 else 257
/-- a text read: its kind, its end -/
def tvK (f : Nat → Int32) (n q : Nat) : Int32 := if atV f n (whE isTv f n (q + 1)) = 34 then 259 else 263
def tvN (f : Nat → Int32) (n q e : Nat) : Nat := if atV f n (whE isTv f n (q + 1)) = 34 then whE isTv f n (q + 1) + 1 else e
theorem tvK_y {f : Nat → Int32} {n q : Nat} (h : atV f n (whE isTv f n (q + 1)) = 34) : tvK f n q = 259 := if_pos h
theorem tvK_n {f : Nat → Int32} {n q : Nat} (h : ¬ atV f n (whE isTv f n (q + 1)) = 34) : tvK f n q = 263 := if_neg h
theorem tvN_y {f : Nat → Int32} {n q e : Nat} (h : atV f n (whE isTv f n (q + 1)) = 34) : tvN f n q e = whE isTv f n (q + 1) + 1 := if_pos h
theorem tvN_n {f : Nat → Int32} {n q e : Nat} (h : ¬ atV f n (whE isTv f n (q + 1)) = 34) : tvN f n q e = e := if_neg h
theorem d_Q_isDigit_0 : decode prog_6_method_20_code 0 = .ok (.iload_n 0, 1) := by decide +kernel
theorem d_Q_isDigit_1 : decode prog_6_method_20_code 1 = .ok (.bipush 48, 2) := by decide +kernel
theorem d_Q_isDigit_3 : decode prog_6_method_20_code 3 = .ok (.if_icmp .lt 13, 3) := by decide +kernel
theorem d_Q_isDigit_16 : decode prog_6_method_20_code 16 = .ok (.iconst 0, 1) := by decide +kernel
theorem d_Q_isDigit_17 : decode prog_6_method_20_code 17 = .ok (.ireturn, 1) := by decide +kernel
theorem d_Q_isDigit_6 : decode prog_6_method_20_code 6 = .ok (.iload_n 0, 1) := by decide +kernel
theorem d_Q_isDigit_7 : decode prog_6_method_20_code 7 = .ok (.bipush 57, 2) := by decide +kernel
theorem d_Q_isDigit_9 : decode prog_6_method_20_code 9 = .ok (.if_icmp .gt 7, 3) := by decide +kernel
theorem d_Q_isDigit_12 : decode prog_6_method_20_code 12 = .ok (.iconst 1, 1) := by decide +kernel
theorem d_Q_isDigit_13 : decode prog_6_method_20_code 13 = .ok (.goto 4, 3) := by decide +kernel
set_option maxHeartbeats 4000000 in
set_option maxRecDepth 100000 in
theorem v_QisDigit (l : Launch) (D : va_G) (dA : Nat → ClassId) (sz : Nat) (z : Int32) : Met l ⟨"SeriesVault$Question", "isDigit", "(I)Z"⟩ [Cond.code ⟨"SeriesVault$Question", "isDigit", "(I)Z"⟩ prog_6_method_20_code 1 (some FieldType.boolean)] { frames := 1, cells := 0, slots := 0, locals := 0 } (pC D dA [.int z] ([]) sz) (va_Qi (fun (r9 : Int32) (u9 : Unit) => r9 = bI (isDg z)) (fun (u9 : Unit) t9 => bW D (va_A ([]) sz) ([]) t9) (va_A ([]) sz)) 0 0 (va_A ([]) sz) := by
  refine mkC (y := ⟨"SeriesVault$Question", "isDigit", "(I)Z"⟩) (cc := prog_6_method_20_code) (maxL := 1) (av := [.int z]) (ws := []) (sz := sz) (Qc := fun A => va_Qi (fun (r9 : Int32) (u9 : Unit) => r9 = bI (isDg z)) (fun (u9 : Unit) t9 => bW D A ([]) t9) A) (by decide) (Nat.le_of_ble_eq_true rfl) ?_
  intro A p e s m below meth c ls hsz hB
  obtain ⟨hx, hb, hr, hml, hown, hin, hlk, hE, hK, hP, hD, hS, hA, hN, hl⟩ := hB
  have hown : s.vm.findClass "SeriesVault$Question" = some m.cls := hown
  have hl : lv_has ls 1 [(0, .int z)] := hl
  obtain ⟨H, hH⟩ : ∃ z, z = s.heap := ⟨_, rfl⟩
  have hP : va_P D vwCl ([]) H := by rw [hH]; exact hP
  have hS : va_S A s.heap H [] := by rw [hH]; exact hS
  rw [← hH]
  refine lv_iload_n hx hb d_Q_isDigit_0 rfl (lv_at hl 0 rfl) ?_
  refine lv_bipush (v := 48) hx hb d_Q_isDigit_1 (by decide) ?_
  refine lv_icmp_lt hx hb d_Q_isDigit_3 (tgt := 16) rfl (fun g1 => ?_) (fun g1 => ?_)
  · have g1 := g1
    refine lv_iconst (v := 0) hx hb d_Q_isDigit_16 (by decide) ?_
    exact rfZ hx hb hr (bI_nar false) hlk hS () (by simp [isDg, bI, *]) hP hD (Nat.le_of_ble_eq_true rfl) (Nat.le_of_ble_eq_true rfl) d_Q_isDigit_17
  · have g1 := g1
    refine lv_iload_n hx hb d_Q_isDigit_6 rfl (lv_at hl 0 rfl) ?_
    refine lv_bipush (v := 57) hx hb d_Q_isDigit_7 (by decide) ?_
    refine lv_icmp_gt hx hb d_Q_isDigit_9 (tgt := 16) rfl (fun g2 => ?_) (fun g2 => ?_)
    · have g2 := g2
      refine lv_iconst (v := 0) hx hb d_Q_isDigit_16 (by decide) ?_
      exact rfZ hx hb hr (bI_nar false) hlk hS () (by simp [isDg, bI, *]) hP hD (Nat.le_of_ble_eq_true rfl) (Nat.le_of_ble_eq_true rfl) d_Q_isDigit_17
    · have g2 := g2
      refine lv_iconst (v := 1) hx hb d_Q_isDigit_12 (by decide) ?_
      refine lv_goto hx hb d_Q_isDigit_13 (tgt := 17) rfl ?_
      exact rfZ hx hb hr (bI_nar true) hlk hS () (by simp [isDg, bI, *]) hP hD (Nat.le_of_ble_eq_true rfl) (Nat.le_of_ble_eq_true rfl) d_Q_isDigit_17
theorem d_Q_isOfName_0 : decode prog_6_method_21_code 0 = .ok (.iload_n 0, 1) := by decide +kernel
theorem d_Q_isOfName_1 : decode prog_6_method_21_code 1 = .ok (.bipush 97, 2) := by decide +kernel
theorem d_Q_isOfName_3 : decode prog_6_method_21_code 3 = .ok (.if_icmp .lt 9, 3) := by decide +kernel
theorem d_Q_isOfName_12 : decode prog_6_method_21_code 12 = .ok (.iload_n 0, 1) := by decide +kernel
theorem d_Q_isOfName_13 : decode prog_6_method_21_code 13 = .ok (.bipush 65, 2) := by decide +kernel
theorem d_Q_isOfName_15 : decode prog_6_method_21_code 15 = .ok (.if_icmp .lt 9, 3) := by decide +kernel
theorem d_Q_isOfName_24 : decode prog_6_method_21_code 24 = .ok (.iload_n 0, 1) := by decide +kernel
theorem d_Q_isOfName_25 : decode prog_6_method_21_code 25 = .ok (.bipush 48, 2) := by decide +kernel
theorem d_Q_isOfName_27 : decode prog_6_method_21_code 27 = .ok (.if_icmp .lt 9, 3) := by decide +kernel
theorem d_Q_isOfName_36 : decode prog_6_method_21_code 36 = .ok (.iload_n 0, 1) := by decide +kernel
theorem d_Q_isOfName_37 : decode prog_6_method_21_code 37 = .ok (.bipush 95, 2) := by decide +kernel
theorem d_Q_isOfName_39 : decode prog_6_method_21_code 39 = .ok (.if_icmp .ne 7, 3) := by decide +kernel
theorem d_Q_isOfName_46 : decode prog_6_method_21_code 46 = .ok (.iconst 0, 1) := by decide +kernel
theorem d_Q_isOfName_47 : decode prog_6_method_21_code 47 = .ok (.ireturn, 1) := by decide +kernel
theorem d_Q_isOfName_42 : decode prog_6_method_21_code 42 = .ok (.iconst 1, 1) := by decide +kernel
theorem d_Q_isOfName_43 : decode prog_6_method_21_code 43 = .ok (.goto 4, 3) := by decide +kernel
theorem d_Q_isOfName_30 : decode prog_6_method_21_code 30 = .ok (.iload_n 0, 1) := by decide +kernel
theorem d_Q_isOfName_31 : decode prog_6_method_21_code 31 = .ok (.bipush 57, 2) := by decide +kernel
theorem d_Q_isOfName_33 : decode prog_6_method_21_code 33 = .ok (.if_icmp .le 9, 3) := by decide +kernel
theorem d_Q_isOfName_18 : decode prog_6_method_21_code 18 = .ok (.iload_n 0, 1) := by decide +kernel
theorem d_Q_isOfName_19 : decode prog_6_method_21_code 19 = .ok (.bipush 90, 2) := by decide +kernel
theorem d_Q_isOfName_21 : decode prog_6_method_21_code 21 = .ok (.if_icmp .le 21, 3) := by decide +kernel
theorem d_Q_isOfName_6 : decode prog_6_method_21_code 6 = .ok (.iload_n 0, 1) := by decide +kernel
theorem d_Q_isOfName_7 : decode prog_6_method_21_code 7 = .ok (.bipush 122, 2) := by decide +kernel
theorem d_Q_isOfName_9 : decode prog_6_method_21_code 9 = .ok (.if_icmp .le 33, 3) := by decide +kernel
set_option maxHeartbeats 4000000 in
set_option maxRecDepth 100000 in
theorem v_QisOfName (l : Launch) (D : va_G) (dA : Nat → ClassId) (sz : Nat) (z : Int32) : Met l ⟨"SeriesVault$Question", "isOfName", "(I)Z"⟩ [Cond.code ⟨"SeriesVault$Question", "isOfName", "(I)Z"⟩ prog_6_method_21_code 1 (some FieldType.boolean)] { frames := 1, cells := 0, slots := 0, locals := 0 } (pC D dA [.int z] ([]) sz) (va_Qi (fun (r9 : Int32) (u9 : Unit) => r9 = bI (isNm z)) (fun (u9 : Unit) t9 => bW D (va_A ([]) sz) ([]) t9) (va_A ([]) sz)) 0 0 (va_A ([]) sz) := by
  refine mkC (y := ⟨"SeriesVault$Question", "isOfName", "(I)Z"⟩) (cc := prog_6_method_21_code) (maxL := 1) (av := [.int z]) (ws := []) (sz := sz) (Qc := fun A => va_Qi (fun (r9 : Int32) (u9 : Unit) => r9 = bI (isNm z)) (fun (u9 : Unit) t9 => bW D A ([]) t9) A) (by decide) (Nat.le_of_ble_eq_true rfl) ?_
  intro A p e s m below meth c ls hsz hB
  obtain ⟨hx, hb, hr, hml, hown, hin, hlk, hE, hK, hP, hD, hS, hA, hN, hl⟩ := hB
  have hown : s.vm.findClass "SeriesVault$Question" = some m.cls := hown
  have hl : lv_has ls 1 [(0, .int z)] := hl
  obtain ⟨H, hH⟩ : ∃ z, z = s.heap := ⟨_, rfl⟩
  have hP : va_P D vwCl ([]) H := by rw [hH]; exact hP
  have hS : va_S A s.heap H [] := by rw [hH]; exact hS
  rw [← hH]
  refine lv_iload_n hx hb d_Q_isOfName_0 rfl (lv_at hl 0 rfl) ?_
  refine lv_bipush (v := 97) hx hb d_Q_isOfName_1 (by decide) ?_
  refine lv_icmp_lt hx hb d_Q_isOfName_3 (tgt := 12) rfl (fun g1 => ?_) (fun g1 => ?_)
  · have g1 := g1
    refine lv_iload_n hx hb d_Q_isOfName_12 rfl (lv_at hl 0 rfl) ?_
    refine lv_bipush (v := 65) hx hb d_Q_isOfName_13 (by decide) ?_
    refine lv_icmp_lt hx hb d_Q_isOfName_15 (tgt := 24) rfl (fun g2 => ?_) (fun g2 => ?_)
    · have g2 := g2
      refine lv_iload_n hx hb d_Q_isOfName_24 rfl (lv_at hl 0 rfl) ?_
      refine lv_bipush (v := 48) hx hb d_Q_isOfName_25 (by decide) ?_
      refine lv_icmp_lt hx hb d_Q_isOfName_27 (tgt := 36) rfl (fun g3 => ?_) (fun g3 => ?_)
      · have g3 := g3
        refine lv_iload_n hx hb d_Q_isOfName_36 rfl (lv_at hl 0 rfl) ?_
        refine lv_bipush (v := 95) hx hb d_Q_isOfName_37 (by decide) ?_
        refine lv_icmp_ne hx hb d_Q_isOfName_39 (tgt := 46) rfl (fun g4 => ?_) (fun g4 => ?_)
        · have g4 := g4
          refine lv_iconst (v := 0) hx hb d_Q_isOfName_46 (by decide) ?_
          exact rfZ hx hb hr (bI_nar false) hlk hS () (by simp [isNm, isLt, isDg, bI, *]) hP hD (Nat.le_of_ble_eq_true rfl) (Nat.le_of_ble_eq_true rfl) d_Q_isOfName_47
        · have g4 := g4
          refine lv_iconst (v := 1) hx hb d_Q_isOfName_42 (by decide) ?_
          refine lv_goto hx hb d_Q_isOfName_43 (tgt := 47) rfl ?_
          exact rfZ hx hb hr (bI_nar true) hlk hS () (by simp [isNm, isLt, isDg, bI, *]) hP hD (Nat.le_of_ble_eq_true rfl) (Nat.le_of_ble_eq_true rfl) d_Q_isOfName_47
      · have g3 := g3
        refine lv_iload_n hx hb d_Q_isOfName_30 rfl (lv_at hl 0 rfl) ?_
        refine lv_bipush (v := 57) hx hb d_Q_isOfName_31 (by decide) ?_
        refine lv_icmp_le hx hb d_Q_isOfName_33 (tgt := 42) rfl (fun g5 => ?_) (fun g5 => ?_)
        · have g5 := g5
          refine lv_iconst (v := 1) hx hb d_Q_isOfName_42 (by decide) ?_
          refine lv_goto hx hb d_Q_isOfName_43 (tgt := 47) rfl ?_
          exact rfZ hx hb hr (bI_nar true) hlk hS () (by simp [isNm, isLt, isDg, bI, *]) hP hD (Nat.le_of_ble_eq_true rfl) (Nat.le_of_ble_eq_true rfl) d_Q_isOfName_47
        · have g5 := g5
          refine lv_iload_n hx hb d_Q_isOfName_36 rfl (lv_at hl 0 rfl) ?_
          refine lv_bipush (v := 95) hx hb d_Q_isOfName_37 (by decide) ?_
          refine lv_icmp_ne hx hb d_Q_isOfName_39 (tgt := 46) rfl (fun g6 => ?_) (fun g6 => ?_)
          · have g6 := g6
            refine lv_iconst (v := 0) hx hb d_Q_isOfName_46 (by decide) ?_
            exact rfZ hx hb hr (bI_nar false) hlk hS () (by simp [isNm, isLt, isDg, bI, *]) hP hD (Nat.le_of_ble_eq_true rfl) (Nat.le_of_ble_eq_true rfl) d_Q_isOfName_47
          · have g6 := g6
            refine lv_iconst (v := 1) hx hb d_Q_isOfName_42 (by decide) ?_
            refine lv_goto hx hb d_Q_isOfName_43 (tgt := 47) rfl ?_
            exact rfZ hx hb hr (bI_nar true) hlk hS () (by simp [isNm, isLt, isDg, bI, *]) hP hD (Nat.le_of_ble_eq_true rfl) (Nat.le_of_ble_eq_true rfl) d_Q_isOfName_47
    · have g2 := g2
      refine lv_iload_n hx hb d_Q_isOfName_18 rfl (lv_at hl 0 rfl) ?_
      refine lv_bipush (v := 90) hx hb d_Q_isOfName_19 (by decide) ?_
      refine lv_icmp_le hx hb d_Q_isOfName_21 (tgt := 42) rfl (fun g7 => ?_) (fun g7 => ?_)
      · have g7 := g7
        refine lv_iconst (v := 1) hx hb d_Q_isOfName_42 (by decide) ?_
        refine lv_goto hx hb d_Q_isOfName_43 (tgt := 47) rfl ?_
        exact rfZ hx hb hr (bI_nar true) hlk hS () (by simp [isNm, isLt, isDg, bI, *]) hP hD (Nat.le_of_ble_eq_true rfl) (Nat.le_of_ble_eq_true rfl) d_Q_isOfName_47
      · have g7 := g7
        refine lv_iload_n hx hb d_Q_isOfName_24 rfl (lv_at hl 0 rfl) ?_
        refine lv_bipush (v := 48) hx hb d_Q_isOfName_25 (by decide) ?_
        refine lv_icmp_lt hx hb d_Q_isOfName_27 (tgt := 36) rfl (fun g8 => ?_) (fun g8 => ?_)
        · have g8 := g8
          refine lv_iload_n hx hb d_Q_isOfName_36 rfl (lv_at hl 0 rfl) ?_
          refine lv_bipush (v := 95) hx hb d_Q_isOfName_37 (by decide) ?_
          refine lv_icmp_ne hx hb d_Q_isOfName_39 (tgt := 46) rfl (fun g9 => ?_) (fun g9 => ?_)
          · have g9 := g9
            refine lv_iconst (v := 0) hx hb d_Q_isOfName_46 (by decide) ?_
            exact rfZ hx hb hr (bI_nar false) hlk hS () (by simp [isNm, isLt, isDg, bI, *]) hP hD (Nat.le_of_ble_eq_true rfl) (Nat.le_of_ble_eq_true rfl) d_Q_isOfName_47
          · have g9 := g9
            refine lv_iconst (v := 1) hx hb d_Q_isOfName_42 (by decide) ?_
            refine lv_goto hx hb d_Q_isOfName_43 (tgt := 47) rfl ?_
            exact rfZ hx hb hr (bI_nar true) hlk hS () (by simp [isNm, isLt, isDg, bI, *]) hP hD (Nat.le_of_ble_eq_true rfl) (Nat.le_of_ble_eq_true rfl) d_Q_isOfName_47
        · have g8 := g8
          refine lv_iload_n hx hb d_Q_isOfName_30 rfl (lv_at hl 0 rfl) ?_
          refine lv_bipush (v := 57) hx hb d_Q_isOfName_31 (by decide) ?_
          refine lv_icmp_le hx hb d_Q_isOfName_33 (tgt := 42) rfl (fun g10 => ?_) (fun g10 => ?_)
          · have g10 := g10
            refine lv_iconst (v := 1) hx hb d_Q_isOfName_42 (by decide) ?_
            refine lv_goto hx hb d_Q_isOfName_43 (tgt := 47) rfl ?_
            exact rfZ hx hb hr (bI_nar true) hlk hS () (by simp [isNm, isLt, isDg, bI, *]) hP hD (Nat.le_of_ble_eq_true rfl) (Nat.le_of_ble_eq_true rfl) d_Q_isOfName_47
          · have g10 := g10
            refine lv_iload_n hx hb d_Q_isOfName_36 rfl (lv_at hl 0 rfl) ?_
            refine lv_bipush (v := 95) hx hb d_Q_isOfName_37 (by decide) ?_
            refine lv_icmp_ne hx hb d_Q_isOfName_39 (tgt := 46) rfl (fun g11 => ?_) (fun g11 => ?_)
            · have g11 := g11
              refine lv_iconst (v := 0) hx hb d_Q_isOfName_46 (by decide) ?_
              exact rfZ hx hb hr (bI_nar false) hlk hS () (by simp [isNm, isLt, isDg, bI, *]) hP hD (Nat.le_of_ble_eq_true rfl) (Nat.le_of_ble_eq_true rfl) d_Q_isOfName_47
            · have g11 := g11
              refine lv_iconst (v := 1) hx hb d_Q_isOfName_42 (by decide) ?_
              refine lv_goto hx hb d_Q_isOfName_43 (tgt := 47) rfl ?_
              exact rfZ hx hb hr (bI_nar true) hlk hS () (by simp [isNm, isLt, isDg, bI, *]) hP hD (Nat.le_of_ble_eq_true rfl) (Nat.le_of_ble_eq_true rfl) d_Q_isOfName_47
  · have g1 := g1
    refine lv_iload_n hx hb d_Q_isOfName_6 rfl (lv_at hl 0 rfl) ?_
    refine lv_bipush (v := 122) hx hb d_Q_isOfName_7 (by decide) ?_
    refine lv_icmp_le hx hb d_Q_isOfName_9 (tgt := 42) rfl (fun g12 => ?_) (fun g12 => ?_)
    · have g12 := g12
      refine lv_iconst (v := 1) hx hb d_Q_isOfName_42 (by decide) ?_
      refine lv_goto hx hb d_Q_isOfName_43 (tgt := 47) rfl ?_
      exact rfZ hx hb hr (bI_nar true) hlk hS () (by simp [isNm, isLt, isDg, bI, *]) hP hD (Nat.le_of_ble_eq_true rfl) (Nat.le_of_ble_eq_true rfl) d_Q_isOfName_47
    · have g12 := g12
      refine lv_iload_n hx hb d_Q_isOfName_12 rfl (lv_at hl 0 rfl) ?_
      refine lv_bipush (v := 65) hx hb d_Q_isOfName_13 (by decide) ?_
      refine lv_icmp_lt hx hb d_Q_isOfName_15 (tgt := 24) rfl (fun g13 => ?_) (fun g13 => ?_)
      · have g13 := g13
        refine lv_iload_n hx hb d_Q_isOfName_24 rfl (lv_at hl 0 rfl) ?_
        refine lv_bipush (v := 48) hx hb d_Q_isOfName_25 (by decide) ?_
        refine lv_icmp_lt hx hb d_Q_isOfName_27 (tgt := 36) rfl (fun g14 => ?_) (fun g14 => ?_)
        · have g14 := g14
          refine lv_iload_n hx hb d_Q_isOfName_36 rfl (lv_at hl 0 rfl) ?_
          refine lv_bipush (v := 95) hx hb d_Q_isOfName_37 (by decide) ?_
          refine lv_icmp_ne hx hb d_Q_isOfName_39 (tgt := 46) rfl (fun g15 => ?_) (fun g15 => ?_)
          · have g15 := g15
            refine lv_iconst (v := 0) hx hb d_Q_isOfName_46 (by decide) ?_
            exact rfZ hx hb hr (bI_nar false) hlk hS () (by simp [isNm, isLt, isDg, bI, *]) hP hD (Nat.le_of_ble_eq_true rfl) (Nat.le_of_ble_eq_true rfl) d_Q_isOfName_47
          · have g15 := g15
            refine lv_iconst (v := 1) hx hb d_Q_isOfName_42 (by decide) ?_
            refine lv_goto hx hb d_Q_isOfName_43 (tgt := 47) rfl ?_
            exact rfZ hx hb hr (bI_nar true) hlk hS () (by simp [isNm, isLt, isDg, bI, *]) hP hD (Nat.le_of_ble_eq_true rfl) (Nat.le_of_ble_eq_true rfl) d_Q_isOfName_47
        · have g14 := g14
          refine lv_iload_n hx hb d_Q_isOfName_30 rfl (lv_at hl 0 rfl) ?_
          refine lv_bipush (v := 57) hx hb d_Q_isOfName_31 (by decide) ?_
          refine lv_icmp_le hx hb d_Q_isOfName_33 (tgt := 42) rfl (fun g16 => ?_) (fun g16 => ?_)
          · have g16 := g16
            refine lv_iconst (v := 1) hx hb d_Q_isOfName_42 (by decide) ?_
            refine lv_goto hx hb d_Q_isOfName_43 (tgt := 47) rfl ?_
            exact rfZ hx hb hr (bI_nar true) hlk hS () (by simp [isNm, isLt, isDg, bI, *]) hP hD (Nat.le_of_ble_eq_true rfl) (Nat.le_of_ble_eq_true rfl) d_Q_isOfName_47
          · have g16 := g16
            refine lv_iload_n hx hb d_Q_isOfName_36 rfl (lv_at hl 0 rfl) ?_
            refine lv_bipush (v := 95) hx hb d_Q_isOfName_37 (by decide) ?_
            refine lv_icmp_ne hx hb d_Q_isOfName_39 (tgt := 46) rfl (fun g17 => ?_) (fun g17 => ?_)
            · have g17 := g17
              refine lv_iconst (v := 0) hx hb d_Q_isOfName_46 (by decide) ?_
              exact rfZ hx hb hr (bI_nar false) hlk hS () (by simp [isNm, isLt, isDg, bI, *]) hP hD (Nat.le_of_ble_eq_true rfl) (Nat.le_of_ble_eq_true rfl) d_Q_isOfName_47
            · have g17 := g17
              refine lv_iconst (v := 1) hx hb d_Q_isOfName_42 (by decide) ?_
              refine lv_goto hx hb d_Q_isOfName_43 (tgt := 47) rfl ?_
              exact rfZ hx hb hr (bI_nar true) hlk hS () (by simp [isNm, isLt, isDg, bI, *]) hP hD (Nat.le_of_ble_eq_true rfl) (Nat.le_of_ble_eq_true rfl) d_Q_isOfName_47
      · have g13 := g13
        refine lv_iload_n hx hb d_Q_isOfName_18 rfl (lv_at hl 0 rfl) ?_
        refine lv_bipush (v := 90) hx hb d_Q_isOfName_19 (by decide) ?_
        refine lv_icmp_le hx hb d_Q_isOfName_21 (tgt := 42) rfl (fun g18 => ?_) (fun g18 => ?_)
        · have g18 := g18
          refine lv_iconst (v := 1) hx hb d_Q_isOfName_42 (by decide) ?_
          refine lv_goto hx hb d_Q_isOfName_43 (tgt := 47) rfl ?_
          exact rfZ hx hb hr (bI_nar true) hlk hS () (by simp [isNm, isLt, isDg, bI, *]) hP hD (Nat.le_of_ble_eq_true rfl) (Nat.le_of_ble_eq_true rfl) d_Q_isOfName_47
        · have g18 := g18
          refine lv_iload_n hx hb d_Q_isOfName_24 rfl (lv_at hl 0 rfl) ?_
          refine lv_bipush (v := 48) hx hb d_Q_isOfName_25 (by decide) ?_
          refine lv_icmp_lt hx hb d_Q_isOfName_27 (tgt := 36) rfl (fun g19 => ?_) (fun g19 => ?_)
          · have g19 := g19
            refine lv_iload_n hx hb d_Q_isOfName_36 rfl (lv_at hl 0 rfl) ?_
            refine lv_bipush (v := 95) hx hb d_Q_isOfName_37 (by decide) ?_
            refine lv_icmp_ne hx hb d_Q_isOfName_39 (tgt := 46) rfl (fun g20 => ?_) (fun g20 => ?_)
            · have g20 := g20
              refine lv_iconst (v := 0) hx hb d_Q_isOfName_46 (by decide) ?_
              exact rfZ hx hb hr (bI_nar false) hlk hS () (by simp [isNm, isLt, isDg, bI, *]) hP hD (Nat.le_of_ble_eq_true rfl) (Nat.le_of_ble_eq_true rfl) d_Q_isOfName_47
            · have g20 := g20
              refine lv_iconst (v := 1) hx hb d_Q_isOfName_42 (by decide) ?_
              refine lv_goto hx hb d_Q_isOfName_43 (tgt := 47) rfl ?_
              exact rfZ hx hb hr (bI_nar true) hlk hS () (by simp [isNm, isLt, isDg, bI, *]) hP hD (Nat.le_of_ble_eq_true rfl) (Nat.le_of_ble_eq_true rfl) d_Q_isOfName_47
          · have g19 := g19
            refine lv_iload_n hx hb d_Q_isOfName_30 rfl (lv_at hl 0 rfl) ?_
            refine lv_bipush (v := 57) hx hb d_Q_isOfName_31 (by decide) ?_
            refine lv_icmp_le hx hb d_Q_isOfName_33 (tgt := 42) rfl (fun g21 => ?_) (fun g21 => ?_)
            · have g21 := g21
              refine lv_iconst (v := 1) hx hb d_Q_isOfName_42 (by decide) ?_
              refine lv_goto hx hb d_Q_isOfName_43 (tgt := 47) rfl ?_
              exact rfZ hx hb hr (bI_nar true) hlk hS () (by simp [isNm, isLt, isDg, bI, *]) hP hD (Nat.le_of_ble_eq_true rfl) (Nat.le_of_ble_eq_true rfl) d_Q_isOfName_47
            · have g21 := g21
              refine lv_iload_n hx hb d_Q_isOfName_36 rfl (lv_at hl 0 rfl) ?_
              refine lv_bipush (v := 95) hx hb d_Q_isOfName_37 (by decide) ?_
              refine lv_icmp_ne hx hb d_Q_isOfName_39 (tgt := 46) rfl (fun g22 => ?_) (fun g22 => ?_)
              · have g22 := g22
                refine lv_iconst (v := 0) hx hb d_Q_isOfName_46 (by decide) ?_
                exact rfZ hx hb hr (bI_nar false) hlk hS () (by simp [isNm, isLt, isDg, bI, *]) hP hD (Nat.le_of_ble_eq_true rfl) (Nat.le_of_ble_eq_true rfl) d_Q_isOfName_47
              · have g22 := g22
                refine lv_iconst (v := 1) hx hb d_Q_isOfName_42 (by decide) ?_
                refine lv_goto hx hb d_Q_isOfName_43 (tgt := 47) rfl ?_
                exact rfZ hx hb hr (bI_nar true) hlk hS () (by simp [isNm, isLt, isDg, bI, *]) hP hD (Nat.le_of_ble_eq_true rfl) (Nat.le_of_ble_eq_true rfl) d_Q_isOfName_47
theorem d_Q_isOfTerm_0 : decode prog_6_method_6_code 0 = .ok (.iload_n 0, 1) := by decide +kernel
theorem d_Q_isOfTerm_1 : decode prog_6_method_6_code 1 = .ok (.bipush 42, 2) := by decide +kernel
theorem d_Q_isOfTerm_3 : decode prog_6_method_6_code 3 = .ok (.if_icmp .eq 15, 3) := by decide +kernel
theorem d_Q_isOfTerm_18 : decode prog_6_method_6_code 18 = .ok (.iconst 1, 1) := by decide +kernel
theorem d_Q_isOfTerm_19 : decode prog_6_method_6_code 19 = .ok (.goto 4, 3) := by decide +kernel
theorem d_Q_isOfTerm_23 : decode prog_6_method_6_code 23 = .ok (.ireturn, 1) := by decide +kernel
theorem d_Q_isOfTerm_6 : decode prog_6_method_6_code 6 = .ok (.iload_n 0, 1) := by decide +kernel
theorem d_Q_isOfTerm_7 : decode prog_6_method_6_code 7 = .ok (.bipush 47, 2) := by decide +kernel
theorem d_Q_isOfTerm_9 : decode prog_6_method_6_code 9 = .ok (.if_icmp .eq 9, 3) := by decide +kernel
theorem d_Q_isOfTerm_12 : decode prog_6_method_6_code 12 = .ok (.iload_n 0, 1) := by decide +kernel
theorem d_Q_isOfTerm_13 : decode prog_6_method_6_code 13 = .ok (.bipush 37, 2) := by decide +kernel
theorem d_Q_isOfTerm_15 : decode prog_6_method_6_code 15 = .ok (.if_icmp .ne 7, 3) := by decide +kernel
theorem d_Q_isOfTerm_22 : decode prog_6_method_6_code 22 = .ok (.iconst 0, 1) := by decide +kernel
set_option maxHeartbeats 4000000 in
set_option maxRecDepth 100000 in
theorem v_QisOfTerm (l : Launch) (D : va_G) (dA : Nat → ClassId) (sz : Nat) (z : Int32) : Met l ⟨"SeriesVault$Question", "isOfTerm", "(I)Z"⟩ [Cond.code ⟨"SeriesVault$Question", "isOfTerm", "(I)Z"⟩ prog_6_method_6_code 1 (some FieldType.boolean)] { frames := 1, cells := 0, slots := 0, locals := 0 } (pC D dA [.int z] ([]) sz) (va_Qi (fun (r9 : Int32) (u9 : Unit) => r9 = bI (decide (z = 42) || (decide (z = 47) || decide (z = 37)))) (fun (u9 : Unit) t9 => bW D (va_A ([]) sz) ([]) t9) (va_A ([]) sz)) 0 0 (va_A ([]) sz) := by
  refine mkC (y := ⟨"SeriesVault$Question", "isOfTerm", "(I)Z"⟩) (cc := prog_6_method_6_code) (maxL := 1) (av := [.int z]) (ws := []) (sz := sz) (Qc := fun A => va_Qi (fun (r9 : Int32) (u9 : Unit) => r9 = bI (decide (z = 42) || (decide (z = 47) || decide (z = 37)))) (fun (u9 : Unit) t9 => bW D A ([]) t9) A) (by decide) (Nat.le_of_ble_eq_true rfl) ?_
  intro A p e s m below meth c ls hsz hB
  obtain ⟨hx, hb, hr, hml, hown, hin, hlk, hE, hK, hP, hD, hS, hA, hN, hl⟩ := hB
  have hown : s.vm.findClass "SeriesVault$Question" = some m.cls := hown
  have hl : lv_has ls 1 [(0, .int z)] := hl
  obtain ⟨H, hH⟩ : ∃ z, z = s.heap := ⟨_, rfl⟩
  have hP : va_P D vwCl ([]) H := by rw [hH]; exact hP
  have hS : va_S A s.heap H [] := by rw [hH]; exact hS
  rw [← hH]
  refine lv_iload_n hx hb d_Q_isOfTerm_0 rfl (lv_at hl 0 rfl) ?_
  refine lv_bipush (v := 42) hx hb d_Q_isOfTerm_1 (by decide) ?_
  refine lv_icmp_eq hx hb d_Q_isOfTerm_3 (tgt := 18) rfl (fun g1 => ?_) (fun g1 => ?_)
  · have g1 := g1
    refine lv_iconst (v := 1) hx hb d_Q_isOfTerm_18 (by decide) ?_
    refine lv_goto hx hb d_Q_isOfTerm_19 (tgt := 23) rfl ?_
    exact rfZ hx hb hr (bI_nar true) hlk hS () (by simp [bI, *]) hP hD (Nat.le_of_ble_eq_true rfl) (Nat.le_of_ble_eq_true rfl) d_Q_isOfTerm_23
  · have g1 := g1
    refine lv_iload_n hx hb d_Q_isOfTerm_6 rfl (lv_at hl 0 rfl) ?_
    refine lv_bipush (v := 47) hx hb d_Q_isOfTerm_7 (by decide) ?_
    refine lv_icmp_eq hx hb d_Q_isOfTerm_9 (tgt := 18) rfl (fun g2 => ?_) (fun g2 => ?_)
    · have g2 := g2
      refine lv_iconst (v := 1) hx hb d_Q_isOfTerm_18 (by decide) ?_
      refine lv_goto hx hb d_Q_isOfTerm_19 (tgt := 23) rfl ?_
      exact rfZ hx hb hr (bI_nar true) hlk hS () (by simp [bI, *]) hP hD (Nat.le_of_ble_eq_true rfl) (Nat.le_of_ble_eq_true rfl) d_Q_isOfTerm_23
    · have g2 := g2
      refine lv_iload_n hx hb d_Q_isOfTerm_12 rfl (lv_at hl 0 rfl) ?_
      refine lv_bipush (v := 37) hx hb d_Q_isOfTerm_13 (by decide) ?_
      refine lv_icmp_ne hx hb d_Q_isOfTerm_15 (tgt := 22) rfl (fun g3 => ?_) (fun g3 => ?_)
      · have g3 := g3
        refine lv_iconst (v := 0) hx hb d_Q_isOfTerm_22 (by decide) ?_
        exact rfZ hx hb hr (bI_nar false) hlk hS () (by simp [bI, *]) hP hD (Nat.le_of_ble_eq_true rfl) (Nat.le_of_ble_eq_true rfl) d_Q_isOfTerm_23
      · have g3 := g3
        refine lv_iconst (v := 1) hx hb d_Q_isOfTerm_18 (by decide) ?_
        refine lv_goto hx hb d_Q_isOfTerm_19 (tgt := 23) rfl ?_
        exact rfZ hx hb hr (bI_nar true) hlk hS () (by simp [bI, *]) hP hD (Nat.le_of_ble_eq_true rfl) (Nat.le_of_ble_eq_true rfl) d_Q_isOfTerm_23
theorem d_Q_isOfMatch_0 : decode prog_6_method_14_code 0 = .ok (.iload_n 0, 1) := by decide +kernel
theorem d_Q_isOfMatch_1 : decode prog_6_method_14_code 1 = .ok (.bipush 61, 2) := by decide +kernel
theorem d_Q_isOfMatch_3 : decode prog_6_method_14_code 3 = .ok (.if_icmp .eq 24, 3) := by decide +kernel
theorem d_Q_isOfMatch_27 : decode prog_6_method_14_code 27 = .ok (.iconst 1, 1) := by decide +kernel
theorem d_Q_isOfMatch_28 : decode prog_6_method_14_code 28 = .ok (.goto 4, 3) := by decide +kernel
theorem d_Q_isOfMatch_32 : decode prog_6_method_14_code 32 = .ok (.ireturn, 1) := by decide +kernel
theorem d_Q_isOfMatch_6 : decode prog_6_method_14_code 6 = .ok (.iload_n 0, 1) := by decide +kernel
theorem d_Q_isOfMatch_7 : decode prog_6_method_14_code 7 = .ok (.sipush 260, 3) := by decide +kernel
theorem d_Q_isOfMatch_10 : decode prog_6_method_14_code 10 = .ok (.if_icmp .eq 17, 3) := by decide +kernel
theorem d_Q_isOfMatch_13 : decode prog_6_method_14_code 13 = .ok (.iload_n 0, 1) := by decide +kernel
theorem d_Q_isOfMatch_14 : decode prog_6_method_14_code 14 = .ok (.sipush 261, 3) := by decide +kernel
theorem d_Q_isOfMatch_17 : decode prog_6_method_14_code 17 = .ok (.if_icmp .eq 10, 3) := by decide +kernel
theorem d_Q_isOfMatch_20 : decode prog_6_method_14_code 20 = .ok (.iload_n 0, 1) := by decide +kernel
theorem d_Q_isOfMatch_21 : decode prog_6_method_14_code 21 = .ok (.sipush 262, 3) := by decide +kernel
theorem d_Q_isOfMatch_24 : decode prog_6_method_14_code 24 = .ok (.if_icmp .ne 7, 3) := by decide +kernel
theorem d_Q_isOfMatch_31 : decode prog_6_method_14_code 31 = .ok (.iconst 0, 1) := by decide +kernel
set_option maxHeartbeats 4000000 in
set_option maxRecDepth 100000 in
theorem v_QisOfMatch (l : Launch) (D : va_G) (dA : Nat → ClassId) (sz : Nat) (z : Int32) : Met l ⟨"SeriesVault$Question", "isOfMatch", "(I)Z"⟩ [Cond.code ⟨"SeriesVault$Question", "isOfMatch", "(I)Z"⟩ prog_6_method_14_code 1 (some FieldType.boolean)] { frames := 1, cells := 0, slots := 0, locals := 0 } (pC D dA [.int z] ([]) sz) (va_Qi (fun (r9 : Int32) (u9 : Unit) => r9 = bI (decide (z = 61) || (decide (z = 260) || (decide (z = 261) || decide (z = 262))))) (fun (u9 : Unit) t9 => bW D (va_A ([]) sz) ([]) t9) (va_A ([]) sz)) 0 0 (va_A ([]) sz) := by
  refine mkC (y := ⟨"SeriesVault$Question", "isOfMatch", "(I)Z"⟩) (cc := prog_6_method_14_code) (maxL := 1) (av := [.int z]) (ws := []) (sz := sz) (Qc := fun A => va_Qi (fun (r9 : Int32) (u9 : Unit) => r9 = bI (decide (z = 61) || (decide (z = 260) || (decide (z = 261) || decide (z = 262))))) (fun (u9 : Unit) t9 => bW D A ([]) t9) A) (by decide) (Nat.le_of_ble_eq_true rfl) ?_
  intro A p e s m below meth c ls hsz hB
  obtain ⟨hx, hb, hr, hml, hown, hin, hlk, hE, hK, hP, hD, hS, hA, hN, hl⟩ := hB
  have hown : s.vm.findClass "SeriesVault$Question" = some m.cls := hown
  have hl : lv_has ls 1 [(0, .int z)] := hl
  obtain ⟨H, hH⟩ : ∃ z, z = s.heap := ⟨_, rfl⟩
  have hP : va_P D vwCl ([]) H := by rw [hH]; exact hP
  have hS : va_S A s.heap H [] := by rw [hH]; exact hS
  rw [← hH]
  refine lv_iload_n hx hb d_Q_isOfMatch_0 rfl (lv_at hl 0 rfl) ?_
  refine lv_bipush (v := 61) hx hb d_Q_isOfMatch_1 (by decide) ?_
  refine lv_icmp_eq hx hb d_Q_isOfMatch_3 (tgt := 27) rfl (fun g1 => ?_) (fun g1 => ?_)
  · have g1 := g1
    refine lv_iconst (v := 1) hx hb d_Q_isOfMatch_27 (by decide) ?_
    refine lv_goto hx hb d_Q_isOfMatch_28 (tgt := 32) rfl ?_
    exact rfZ hx hb hr (bI_nar true) hlk hS () (by simp [bI, *]) hP hD (Nat.le_of_ble_eq_true rfl) (Nat.le_of_ble_eq_true rfl) d_Q_isOfMatch_32
  · have g1 := g1
    refine lv_iload_n hx hb d_Q_isOfMatch_6 rfl (lv_at hl 0 rfl) ?_
    refine lv_sipush (v := 260) hx hb d_Q_isOfMatch_7 (by decide) ?_
    refine lv_icmp_eq hx hb d_Q_isOfMatch_10 (tgt := 27) rfl (fun g2 => ?_) (fun g2 => ?_)
    · have g2 := g2
      refine lv_iconst (v := 1) hx hb d_Q_isOfMatch_27 (by decide) ?_
      refine lv_goto hx hb d_Q_isOfMatch_28 (tgt := 32) rfl ?_
      exact rfZ hx hb hr (bI_nar true) hlk hS () (by simp [bI, *]) hP hD (Nat.le_of_ble_eq_true rfl) (Nat.le_of_ble_eq_true rfl) d_Q_isOfMatch_32
    · have g2 := g2
      refine lv_iload_n hx hb d_Q_isOfMatch_13 rfl (lv_at hl 0 rfl) ?_
      refine lv_sipush (v := 261) hx hb d_Q_isOfMatch_14 (by decide) ?_
      refine lv_icmp_eq hx hb d_Q_isOfMatch_17 (tgt := 27) rfl (fun g3 => ?_) (fun g3 => ?_)
      · have g3 := g3
        refine lv_iconst (v := 1) hx hb d_Q_isOfMatch_27 (by decide) ?_
        refine lv_goto hx hb d_Q_isOfMatch_28 (tgt := 32) rfl ?_
        exact rfZ hx hb hr (bI_nar true) hlk hS () (by simp [bI, *]) hP hD (Nat.le_of_ble_eq_true rfl) (Nat.le_of_ble_eq_true rfl) d_Q_isOfMatch_32
      · have g3 := g3
        refine lv_iload_n hx hb d_Q_isOfMatch_20 rfl (lv_at hl 0 rfl) ?_
        refine lv_sipush (v := 262) hx hb d_Q_isOfMatch_21 (by decide) ?_
        refine lv_icmp_ne hx hb d_Q_isOfMatch_24 (tgt := 31) rfl (fun g4 => ?_) (fun g4 => ?_)
        · have g4 := g4
          refine lv_iconst (v := 0) hx hb d_Q_isOfMatch_31 (by decide) ?_
          exact rfZ hx hb hr (bI_nar false) hlk hS () (by simp [bI, *]) hP hD (Nat.le_of_ble_eq_true rfl) (Nat.le_of_ble_eq_true rfl) d_Q_isOfMatch_32
        · have g4 := g4
          refine lv_iconst (v := 1) hx hb d_Q_isOfMatch_27 (by decide) ?_
          refine lv_goto hx hb d_Q_isOfMatch_28 (tgt := 32) rfl ?_
          exact rfZ hx hb hr (bI_nar true) hlk hS () (by simp [bI, *]) hP hD (Nat.le_of_ble_eq_true rfl) (Nat.le_of_ble_eq_true rfl) d_Q_isOfMatch_32
theorem d_Q_nextIs_0 : decode prog_6_method_18_code 0 = .ok (.aload_n 0, 1) := by decide +kernel
theorem d_Q_nextIs_1 : decode prog_6_method_18_code 1 = .ok (.getfield 32, 3) := by decide +kernel
theorem d_Q_nextIs_4 : decode prog_6_method_18_code 4 = .ok (.aload_n 0, 1) := by decide +kernel
theorem d_Q_nextIs_5 : decode prog_6_method_18_code 5 = .ok (.getfield 22, 3) := by decide +kernel
theorem d_Q_nextIs_8 : decode prog_6_method_18_code 8 = .ok (.if_icmp .ge 20, 3) := by decide +kernel
theorem d_Q_nextIs_28 : decode prog_6_method_18_code 28 = .ok (.iconst 0, 1) := by decide +kernel
theorem d_Q_nextIs_29 : decode prog_6_method_18_code 29 = .ok (.ireturn, 1) := by decide +kernel
theorem d_Q_nextIs_11 : decode prog_6_method_18_code 11 = .ok (.aload_n 0, 1) := by decide +kernel
theorem d_Q_nextIs_12 : decode prog_6_method_18_code 12 = .ok (.getfield 9, 3) := by decide +kernel
theorem d_Q_nextIs_15 : decode prog_6_method_18_code 15 = .ok (.aload_n 0, 1) := by decide +kernel
theorem d_Q_nextIs_16 : decode prog_6_method_18_code 16 = .ok (.getfield 32, 3) := by decide +kernel
theorem d_Q_nextIs_19 : decode prog_6_method_18_code 19 = .ok (.baload, 1) := by decide +kernel
theorem d_Q_nextIs_20 : decode prog_6_method_18_code 20 = .ok (.iload_n 1, 1) := by decide +kernel
theorem d_Q_nextIs_21 : decode prog_6_method_18_code 21 = .ok (.if_icmp .ne 7, 3) := by decide +kernel
theorem d_Q_nextIs_24 : decode prog_6_method_18_code 24 = .ok (.iconst 1, 1) := by decide +kernel
theorem d_Q_nextIs_25 : decode prog_6_method_18_code 25 = .ok (.goto 4, 3) := by decide +kernel
set_option maxHeartbeats 4000000 in
set_option maxRecDepth 100000 in
theorem v_QnextIs (l : Launch) (D : va_G) (dA : Nat → ClassId) (sz : Nat) (h : Nat) (ad : Nat → Nat) (x : VS) (z : Int32) (hq : x.qtp = x.tpA) (h2 : x.qlen ≤ x.tpN) (h3 : x.tpN ≤ 131072) (hz : ¬ z = 0) (h1 : x.qen ≤ 131072) : Met l ⟨"SeriesVault$Question", "nextIs", "(I)Z"⟩ [Cond.code ⟨"SeriesVault$Question", "nextIs", "(I)Z"⟩ prog_6_method_18_code 2 (some FieldType.boolean)] { frames := 1, cells := 0, slots := 0, locals := 0 } (pC D dA [.ref (ad 22), .int z] (VW dA h ad x) sz) (va_Qi (fun (r9 : Int32) (u9 : Unit) => r9 = bI (decide (atV x.tape x.qlen x.qen = z))) (fun (u9 : Unit) t9 => bW D (va_A (VW dA h ad x) sz) (VW dA h ad x) t9) (va_A (VW dA h ad x) sz)) 0 0 (va_A (VW dA h ad x) sz) := by
  refine mkC (y := ⟨"SeriesVault$Question", "nextIs", "(I)Z"⟩) (cc := prog_6_method_18_code) (maxL := 2) (av := [.ref (ad 22), .int z]) (ws := VW dA h ad x) (sz := sz) (Qc := fun A => va_Qi (fun (r9 : Int32) (u9 : Unit) => r9 = bI (decide (atV x.tape x.qlen x.qen = z))) (fun (u9 : Unit) t9 => bW D A (VW dA h ad x) t9) A) (by decide) (Nat.le_of_ble_eq_true rfl) ?_
  intro A p e s m below meth c ls hsz hB
  obtain ⟨hx, hb, hr, hml, hown, hin, hlk, hE, hK, hP, hD, hS, hA, hN, hl⟩ := hB
  have hown : s.vm.findClass "SeriesVault$Question" = some m.cls := hown
  have hl : lv_has ls 2 [(0, .ref (ad 22)), (1, .int z)] := hl
  obtain ⟨H, hH⟩ : ∃ z, z = s.heap := ⟨_, rfl⟩
  have hP : va_P D vwCl (VW dA h ad x) H := by rw [hH]; exact hP
  have hS : va_S A s.heap H [] := by rw [hH]; exact hS
  rw [← hH]
  refine lv_aload_n hx hb d_Q_nextIs_0 rfl (lv_at hl 0 rfl) ?_
  refine gF (v := .int (nI x.qen)) hx hb hown hE hK hP 36 rfl rfl layQ 4 (by decide) w660 rfl d_Q_nextIs_1 ?_
  refine lv_aload_n hx hb d_Q_nextIs_4 rfl (lv_at hl 0 rfl) ?_
  refine gF (v := .int (nI x.qlen)) hx hb hown hE hK hP 36 rfl rfl layQ 1 (by decide) w661 rfl d_Q_nextIs_5 ?_
  refine lv_icmp_ge hx hb d_Q_nextIs_8 (tgt := 28) rfl (fun g1 => ?_) (fun g1 => ?_)
  · have g1 := (nI_leI (a := x.qlen) (b := x.qen) (by omega) (by omega)).mp g1
    refine lv_iconst (v := 0) hx hb d_Q_nextIs_28 (by decide) ?_
    exact rfZ hx hb hr (bI_nar false) hlk hS () (by rw [atV_f g1, decide_eq_false (fun z9 => hz z9.symm)]; rfl) hP hD (Nat.le_of_ble_eq_true rfl) (Nat.le_of_ble_eq_true rfl) d_Q_nextIs_29
  · have g1 := mt (nI_leI (a := x.qlen) (b := x.qen) (by omega) (by omega)).mpr g1
    refine lv_aload_n hx hb d_Q_nextIs_11 rfl (lv_at hl 0 rfl) ?_
    refine gF (v := .ref x.qtp) hx hb hown hE hK hP 36 rfl rfl layQ 0 (by decide) w677 rfl d_Q_nextIs_12 ?_
    rw [hq]
    refine lv_aload_n hx hb d_Q_nextIs_15 rfl (lv_at hl 0 rfl) ?_
    refine gF (v := .int (nI x.qen)) hx hb hown hE hK hP 36 rfl rfl layQ 4 (by decide) w660 rfl d_Q_nextIs_16 ?_
    refine nbld (f := x.tape) (n := x.tpN) hx hb hK hP (1) 0 rfl rfl (x.qen) (by omega) (by omega) d_Q_nextIs_19 ?_
    refine lv_iload_n hx hb d_Q_nextIs_20 rfl (lv_at hl 1 rfl) ?_
    refine lv_icmp_ne hx hb d_Q_nextIs_21 (tgt := 28) rfl (fun g2 => ?_) (fun g2 => ?_)
    · have g2 := g2
      refine lv_iconst (v := 0) hx hb d_Q_nextIs_28 (by decide) ?_
      exact rfZ hx hb hr (bI_nar false) hlk hS () (by rw [atV_t (by omega), decide_eq_false g2]; rfl) hP hD (Nat.le_of_ble_eq_true rfl) (Nat.le_of_ble_eq_true rfl) d_Q_nextIs_29
    · have g2 := g2
      refine lv_iconst (v := 1) hx hb d_Q_nextIs_24 (by decide) ?_
      refine lv_goto hx hb d_Q_nextIs_25 (tgt := 29) rfl ?_
      exact rfZ hx hb hr (bI_nar true) hlk hS () (by rw [atV_t (by omega), decide_eq_true g2]; rfl) hP hD (Nat.le_of_ble_eq_true rfl) (Nat.le_of_ble_eq_true rfl) d_Q_nextIs_29
theorem d_Q_longer_0 : decode prog_6_method_19_code 0 = .ok (.aload_n 0, 1) := by decide +kernel
theorem d_Q_longer_1 : decode prog_6_method_19_code 1 = .ok (.dup, 1) := by decide +kernel
theorem d_Q_longer_2 : decode prog_6_method_19_code 2 = .ok (.getfield 32, 3) := by decide +kernel
theorem d_Q_longer_5 : decode prog_6_method_19_code 5 = .ok (.iconst 1, 1) := by decide +kernel
theorem d_Q_longer_6 : decode prog_6_method_19_code 6 = .ok (.iadd, 1) := by decide +kernel
theorem d_Q_longer_7 : decode prog_6_method_19_code 7 = .ok (.putfield 32, 3) := by decide +kernel
theorem d_Q_longer_10 : decode prog_6_method_19_code 10 = .ok (.iload_n 1, 1) := by decide +kernel
theorem d_Q_longer_11 : decode prog_6_method_19_code 11 = .ok (.ireturn, 1) := by decide +kernel
set_option maxHeartbeats 4000000 in
set_option maxRecDepth 100000 in
theorem v_Qlonger (l : Launch) (D : va_G) (dA : Nat → ClassId) (sz : Nat) (h : Nat) (ad : Nat → Nat) (x : VS) (z : Int32) (h1 : x.qen ≤ 131072) : Met l ⟨"SeriesVault$Question", "longer", "(I)I"⟩ [Cond.code ⟨"SeriesVault$Question", "longer", "(I)I"⟩ prog_6_method_19_code 2 (some FieldType.int)] { frames := 1, cells := 0, slots := 0, locals := 0 } (pC D dA [.ref (ad 22), .int z] (VW dA h ad x) sz) (va_Qi (fun (r9 : Int32) (u9 : Unit) => r9 = z) (fun (u9 : Unit) t9 => bW D (va_A (VW dA h ad x) sz) (VW dA h ad (VS.s_qen x (x.qen + 1))) t9) (va_A (VW dA h ad x) sz)) 0 0 (va_A (VW dA h ad x) sz) := by
  refine mkC (y := ⟨"SeriesVault$Question", "longer", "(I)I"⟩) (cc := prog_6_method_19_code) (maxL := 2) (av := [.ref (ad 22), .int z]) (ws := VW dA h ad x) (sz := sz) (Qc := fun A => va_Qi (fun (r9 : Int32) (u9 : Unit) => r9 = z) (fun (u9 : Unit) t9 => bW D A (VW dA h ad (VS.s_qen x (x.qen + 1))) t9) A) (by decide) (Nat.le_of_ble_eq_true rfl) ?_
  intro A p e s m below meth c ls hsz hB
  obtain ⟨hx, hb, hr, hml, hown, hin, hlk, hE, hK, hP, hD, hS, hA, hN, hl⟩ := hB
  have hown : s.vm.findClass "SeriesVault$Question" = some m.cls := hown
  have hl : lv_has ls 2 [(0, .ref (ad 22)), (1, .int z)] := hl
  obtain ⟨H, hH⟩ : ∃ z, z = s.heap := ⟨_, rfl⟩
  have hP : va_P D vwCl (VW dA h ad x) H := by rw [hH]; exact hP
  have hS : va_S A s.heap H [] := by rw [hH]; exact hS
  rw [← hH]
  refine lv_aload_n hx hb d_Q_longer_0 rfl (lv_at hl 0 rfl) ?_
  refine lv_dup hx hb d_Q_longer_1 rfl ?_
  refine gF (v := .int (nI x.qen)) hx hb hown hE hK hP 36 rfl rfl layQ 4 (by decide) w660 rfl d_Q_longer_2 ?_
  refine lv_iconst (v := 1) hx hb d_Q_longer_5 (by decide) ?_
  refine lv_iadd hx hb d_Q_longer_6 (tpi (y := nI (x.qen + 1)) (nI_add (x.qen) (1)) ?_)
  refine pF (v := .int (nI (x.qen + 1))) hx hb hown hE hK hP hD hS 36 rfl rfl layQ tyQ tokQ nmQ 4 (by decide) w660 rfl rfl rfl (Nat.le_of_ble_eq_true rfl) d_Q_longer_7 (fun H locs hP hD hS => ?_)
  have hP : va_P D vwCl (VW dA h ad (VS.s_qen x (x.qen + 1))) H := hP
  have hD : va_D A (VW dA h ad (VS.s_qen x (x.qen + 1))) := hD
  refine lv_iload_n hx hb d_Q_longer_10 rfl (lv_at hl 1 rfl) ?_
  exact rfI hx hb hr hlk hS () rfl hP hD (Nat.le_of_ble_eq_true rfl) (Nat.le_of_ble_eq_true rfl) d_Q_longer_11
def VS.rfq (x : VS) (k : Int32) (q : Nat) : VS := if x.qcode = 0 then VS.s_qpl (VS.s_qcode x k) (nI q) else x
set_option maxHeartbeats 4000000 in
set_option maxRecDepth 100000 in
theorem v_Qrefuse (l : Launch) (D : va_G) (dA : Nat → ClassId) (sz : Nat) (h : Nat) (ad : Nat → Nat) (x : VS) (z : Int32) (q : Nat) : Met l ⟨"SeriesVault$Question", "refuse", "(II)Z"⟩ [Cond.code ⟨"SeriesVault$Question", "refuse", "(II)Z"⟩ prog_6_method_3_code 3 (some FieldType.boolean)] { frames := 1, cells := 0, slots := 0, locals := 0 } (pC D dA [.ref (ad 22), .int z, .int (nI q)] (VW dA h ad x) sz) (va_Qi (fun (r9 : Int32) (u9 : VS) => r9 = 0 ∧ u9 = x.rfq z q) (fun (u9 : VS) t9 => bW D (va_A (VW dA h ad x) sz) (VW dA h ad u9) t9) (va_A (VW dA h ad x) sz)) 0 0 (va_A (VW dA h ad x) sz) := by
  refine mkC (y := ⟨"SeriesVault$Question", "refuse", "(II)Z"⟩) (cc := prog_6_method_3_code) (maxL := 3) (av := [.ref (ad 22), .int z, .int (nI q)]) (ws := VW dA h ad x) (sz := sz) (Qc := fun A => va_Qi (fun (r9 : Int32) (u9 : VS) => r9 = 0 ∧ u9 = x.rfq z q) (fun (u9 : VS) t9 => bW D A (VW dA h ad u9) t9) A) (by decide) (Nat.le_of_ble_eq_true rfl) ?_
  intro A p e s m below meth c ls hsz hB
  obtain ⟨hx, hb, hr, hml, hown, hin, hlk, hE, hK, hP, hD, hS, hA, hN, hl⟩ := hB
  have hown : s.vm.findClass "SeriesVault$Question" = some m.cls := hown
  have hl : lv_has ls 3 [(0, .ref (ad 22)), (1, .int z), (2, .int (nI q))] := hl
  obtain ⟨H, hH⟩ : ∃ z, z = s.heap := ⟨_, rfl⟩
  have hP : va_P D vwCl (VW dA h ad x) H := by rw [hH]; exact hP
  have hS : va_S A s.heap H [] := by rw [hH]; exact hS
  rw [← hH]
  refine lv_aload_n hx hb d_Q_refuse_0 rfl (lv_at hl 0 rfl) ?_
  refine gF (v := .int x.qcode) hx hb hown hE hK hP 36 rfl rfl layQ 6 (by decide) w658 rfl d_Q_refuse_1 ?_
  refine lv_if_ne hx hb d_Q_refuse_4 (tgt := 17) rfl (fun g1 => ?_) (fun g1 => ?_)
  · have g1 := g1
    refine lv_iconst (v := 0) hx hb d_Q_refuse_17 (by decide) ?_
    exact rfZ hx hb hr (bI_nar false) hlk hS x ⟨rfl, (if_neg g1).symm⟩ hP hD (Nat.le_of_ble_eq_true rfl) (Nat.le_of_ble_eq_true rfl) d_Q_refuse_18
  · have g1 := g1
    refine lv_aload_n hx hb d_Q_refuse_7 rfl (lv_at hl 0 rfl) ?_
    refine lv_iload_n hx hb d_Q_refuse_8 rfl (lv_at hl 1 rfl) ?_
    refine pF (v := .int z) hx hb hown hE hK hP hD hS 36 rfl rfl layQ tyQ tokQ nmQ 6 (by decide) w658 rfl rfl rfl (Nat.le_of_ble_eq_true rfl) d_Q_refuse_9 (fun H locs hP hD hS => ?_)
    have hP : va_P D vwCl (VW dA h ad (VS.s_qcode x z)) H := hP
    have hD : va_D A (VW dA h ad (VS.s_qcode x z)) := hD
    refine lv_aload_n hx hb d_Q_refuse_12 rfl (lv_at hl 0 rfl) ?_
    refine lv_iload_n hx hb d_Q_refuse_13 rfl (lv_at hl 2 rfl) ?_
    refine pF (v := .int (nI q)) hx hb hown hE hK hP hD hS 36 rfl rfl layQ tyQ tokQ nmQ 7 (by decide) w659 rfl rfl rfl (Nat.le_of_ble_eq_true rfl) d_Q_refuse_14 (fun H locs hP hD hS => ?_)
    have hP : va_P D vwCl (VW dA h ad (VS.s_qpl (VS.s_qcode x z) (nI q))) H := hP
    have hD : va_D A (VW dA h ad (VS.s_qpl (VS.s_qcode x z) (nI q))) := hD
    refine lv_iconst (v := 0) hx hb d_Q_refuse_17 (by decide) ?_
    exact rfZ hx hb hr (bI_nar false) hlk hS (VS.s_qpl (VS.s_qcode x z) (nI q)) ⟨rfl, (if_pos g1).symm⟩ hP hD (Nat.le_of_ble_eq_true rfl) (Nat.le_of_ble_eq_true rfl) d_Q_refuse_18
theorem d_Q_readName_0 : decode prog_6_method_23_code 0 = .ok (.aload_n 0, 1) := by decide +kernel
theorem d_Q_readName_1 : decode prog_6_method_23_code 1 = .ok (.getfield 32, 3) := by decide +kernel
theorem d_Q_readName_4 : decode prog_6_method_23_code 4 = .ok (.aload_n 0, 1) := by decide +kernel
theorem d_Q_readName_5 : decode prog_6_method_23_code 5 = .ok (.getfield 22, 3) := by decide +kernel
theorem d_Q_readName_8 : decode prog_6_method_23_code 8 = .ok (.if_icmp .ge 31, 3) := by decide +kernel
theorem d_Q_readName_39 : decode prog_6_method_23_code 39 = .ok (.sipush 258, 3) := by decide +kernel
theorem d_Q_readName_42 : decode prog_6_method_23_code 42 = .ok (.ireturn, 1) := by decide +kernel
theorem d_Q_readName_11 : decode prog_6_method_23_code 11 = .ok (.aload_n 0, 1) := by decide +kernel
theorem d_Q_readName_12 : decode prog_6_method_23_code 12 = .ok (.getfield 9, 3) := by decide +kernel
theorem d_Q_readName_15 : decode prog_6_method_23_code 15 = .ok (.aload_n 0, 1) := by decide +kernel
theorem d_Q_readName_16 : decode prog_6_method_23_code 16 = .ok (.getfield 32, 3) := by decide +kernel
theorem d_Q_readName_19 : decode prog_6_method_23_code 19 = .ok (.baload, 1) := by decide +kernel
theorem d_Q_readName_20 : decode prog_6_method_23_code 20 = .ok (.invokestatic 149, 3) := by decide +kernel
theorem d_Q_readName_23 : decode prog_6_method_23_code 23 = .ok (.ifCond .eq 16, 3) := by decide +kernel
theorem d_Q_readName_26 : decode prog_6_method_23_code 26 = .ok (.aload_n 0, 1) := by decide +kernel
theorem d_Q_readName_27 : decode prog_6_method_23_code 27 = .ok (.dup, 1) := by decide +kernel
theorem d_Q_readName_28 : decode prog_6_method_23_code 28 = .ok (.getfield 32, 3) := by decide +kernel
theorem d_Q_readName_31 : decode prog_6_method_23_code 31 = .ok (.iconst 1, 1) := by decide +kernel
theorem d_Q_readName_32 : decode prog_6_method_23_code 32 = .ok (.iadd, 1) := by decide +kernel
theorem d_Q_readName_33 : decode prog_6_method_23_code 33 = .ok (.putfield 32, 3) := by decide +kernel
theorem d_Q_readName_36 : decode prog_6_method_23_code 36 = .ok (.goto (-36), 3) := by decide +kernel
theorem w1557 : Cond.methodLink "SeriesVault$Question" 149 ⟨"SeriesVault$Question", "isOfName", "(I)Z"⟩ ∈ aW := aw_of (tb_6 (List.mem_of_getElem? (i := 202) rfl)) rfl
theorem w1558 : Cond.code ⟨"SeriesVault$Question", "isOfName", "(I)Z"⟩ prog_6_method_21_code 1 (some FieldType.boolean) ∈ aW := aw_of (tb_6 (List.mem_of_getElem? (i := 204) rfl)) rfl
theorem w1559 : Cond.static ⟨"SeriesVault$Question", "isOfName", "(I)Z"⟩ ∈ aW := aw_of (tb_6 (List.mem_of_getElem? (i := 203) rfl)) rfl
set_option maxHeartbeats 4000000 in
set_option maxRecDepth 100000 in
theorem v_QreadName (l : Launch) (D : va_G) (dA : Nat → ClassId) (sz : Nat) (h : Nat) (ad : Nat → Nat) (x : VS) (hq : x.qtp = x.tpA) (h2 : x.qlen ≤ x.tpN) (h3 : x.tpN ≤ 131072) (h1 : x.qen ≤ x.qlen) : Met l ⟨"SeriesVault$Question", "readName", "()I"⟩ [Cond.code ⟨"SeriesVault$Question", "readName", "()I"⟩ prog_6_method_23_code 1 (some FieldType.int)] { frames := 2, cells := 0, slots := 0, locals := 20 } (pC D dA [.ref (ad 22)] (VW dA h ad x) sz) (va_Qi (fun (r9 : Int32) (u9 : Unit) => r9 = 258) (fun (u9 : Unit) t9 => bW D (va_A (VW dA h ad x) sz) (VW dA h ad (VS.s_qen x (whE isNm x.tape x.qlen x.qen))) t9) (va_A (VW dA h ad x) sz)) 0 0 (va_A (VW dA h ad x) sz) := by
  refine mkC (y := ⟨"SeriesVault$Question", "readName", "()I"⟩) (cc := prog_6_method_23_code) (maxL := 1) (av := [.ref (ad 22)]) (ws := VW dA h ad x) (sz := sz) (Qc := fun A => va_Qi (fun (r9 : Int32) (u9 : Unit) => r9 = 258) (fun (u9 : Unit) t9 => bW D A (VW dA h ad (VS.s_qen x (whE isNm x.tape x.qlen x.qen))) t9) A) (by decide) (Nat.le_of_ble_eq_true rfl) ?_
  intro A p e s m below meth c ls hsz hB
  obtain ⟨hx, hb, hr, hml, hown, hin, hlk, hE, hK, hP, hD, hS, hA, hN, hl⟩ := hB
  have hown : s.vm.findClass "SeriesVault$Question" = some m.cls := hown
  have hl : lv_has ls 1 [(0, .ref (ad 22))] := hl
  obtain ⟨H, hH⟩ : ∃ z, z = s.heap := ⟨_, rfl⟩
  have hP : va_P D vwCl (VW dA h ad x) H := by rw [hH]; exact hP
  have hS : va_S A s.heap H [] := by rw [hH]; exact hS
  rw [← hH]
  have L0 : ∀ (k9 : Nat) (q : Nat) (i1 : q ≤ x.qlen) (i2 : whE isNm x.tape x.qlen q = whE isNm x.tape x.qlen x.qen) (hk9 : x.qlen - q = k9), ∀ (H : Heap) (locs : List Loc) (ls : Array Slot) (hP : va_P D vwCl (VW dA h ad (VS.s_qen x q)) H) (hD : va_D A (VW dA h ad (VS.s_qen x q))) (hS : va_S A s.heap H locs) (hl : lv_has ls 1 [(0, .ref (ad 22))]), W p l e ({ frames := 2, cells := 0, slots := 0, locals := 20 } : Room) s m ([.ref (ad 22)] : List Value).toArray below meth c H locs 0 0 (MQ below (va_Qi (fun (r9 : Int32) (u9 : Unit) => r9 = 258) (fun (u9 : Unit) t9 => bW D A (VW dA h ad (VS.s_qen x (whE isNm x.tape x.qlen x.qen))) t9) A) ([.ref (ad 22)] : List Value).toArray s 0 0 A) (F0 m 0 ls []) := by
    intro k9
    induction k9 using Nat.strongRecOn with
    | ind k9 ih0 =>
      intro q i1 i2 hk9 H locs ls hP hD hS hl
      refine lv_aload_n hx hb d_Q_readName_0 rfl (lv_at hl 0 rfl) ?_
      refine gF (v := .int (nI q)) hx hb hown hE hK hP 36 rfl rfl layQ 4 (by decide) w660 rfl d_Q_readName_1 ?_
      refine lv_aload_n hx hb d_Q_readName_4 rfl (lv_at hl 0 rfl) ?_
      refine gF (v := .int (nI x.qlen)) hx hb hown hE hK hP 36 rfl rfl layQ 1 (by decide) w661 rfl d_Q_readName_5 ?_
      refine lv_icmp_ge hx hb d_Q_readName_8 (tgt := 39) rfl (fun g1 => ?_) (fun g1 => ?_)
      · have g1 := (nI_leI (a := x.qlen) (b := q) (by omega) (by omega)).mp g1
        refine lv_sipush (v := 258) hx hb d_Q_readName_39 (by decide) ?_
        have e9 : (VS.s_qen x q : VS) = VS.s_qen x (whE isNm x.tape x.qlen x.qen) := by rw [show (whE isNm x.tape x.qlen x.qen) = q from by exact i2.symm.trans (whE_n (by omega))] <;> rfl
        rw [e9] at hP hD
        exact rfI hx hb hr hlk hS () rfl hP hD (Nat.le_of_ble_eq_true rfl) (Nat.le_of_ble_eq_true rfl) d_Q_readName_42
      · have g1 := mt (nI_leI (a := x.qlen) (b := q) (by omega) (by omega)).mpr g1
        refine lv_aload_n hx hb d_Q_readName_11 rfl (lv_at hl 0 rfl) ?_
        refine gF (v := .ref x.qtp) hx hb hown hE hK hP 36 rfl rfl layQ 0 (by decide) w677 rfl d_Q_readName_12 ?_
        rw [hq]
        refine lv_aload_n hx hb d_Q_readName_15 rfl (lv_at hl 0 rfl) ?_
        refine gF (v := .int (nI q)) hx hb hown hE hK hP 36 rfl rfl layQ 4 (by decide) w660 rfl d_Q_readName_16 ?_
        refine nbld (f := x.tape) (n := x.tpN) hx hb hK hP (1) 0 rfl rfl (q) (by omega) (by omega) d_Q_readName_19 ?_
        have hPc := hP.sub (ws' := []) [] rfl
        have hDc := hD.sub (ws' := []) [] (by decide) rfl
        refine jpI (rnS (As := [.int (x.tape q)]) (rest := []) hx hb hml hown hE hK (hN _ _ hS) hPc hDc (v_QisOfName l D dA H.size (x.tape q)) w1558 w1557 w1559 w665 rfl rfl ⟨⟨by decide, by decide⟩, rfl⟩ ⟨(Nat.le_of_ble_eq_true rfl), (Nat.le_of_ble_eq_true rfl)⟩ rfl hl.1 rfl (Nat.le_of_ble_eq_true rfl) d_Q_readName_20 ⟨(Nat.le_of_ble_eq_true rfl), (Nat.le_of_ble_eq_true rfl)⟩) hP hD hS hA (fun r2 u9 H locs hp9 hP hD hS => ?_)
        have hP : va_P D vwCl (VW dA h ad (VS.s_qen x q)) H := hP
        have hD : va_D A (VW dA h ad (VS.s_qen x q)) := hD
        replace hp9 : bI (isNm (x.tape q)) = r2 := Eq.symm hp9
        subst hp9
        refine lv_if_eq hx hb d_Q_readName_23 (tgt := 39) rfl (fun g4 => ?_) (fun g4 => ?_)
        · have g4 := bI_0 g4
          refine lv_sipush (v := 258) hx hb d_Q_readName_39 (by decide) ?_
          have e9 : (VS.s_qen x q : VS) = VS.s_qen x (whE isNm x.tape x.qlen x.qen) := by rw [show (whE isNm x.tape x.qlen x.qen) = q from by exact i2.symm.trans (whE_f g4)] <;> rfl
          rw [e9] at hP hD
          exact rfI hx hb hr hlk hS () rfl hP hD (Nat.le_of_ble_eq_true rfl) (Nat.le_of_ble_eq_true rfl) d_Q_readName_42
        · have g4 := bI_n0 g4
          refine lv_aload_n hx hb d_Q_readName_26 rfl (lv_at hl 0 rfl) ?_
          refine lv_dup hx hb d_Q_readName_27 rfl ?_
          refine gF (v := .int (nI q)) hx hb hown hE hK hP 36 rfl rfl layQ 4 (by decide) w660 rfl d_Q_readName_28 ?_
          refine lv_iconst (v := 1) hx hb d_Q_readName_31 (by decide) ?_
          refine lv_iadd hx hb d_Q_readName_32 (tpi (y := nI (q + 1)) (nI_add (q) (1)) ?_)
          refine pF (v := .int (nI (q + 1))) hx hb hown hE hK hP hD hS 36 rfl rfl layQ tyQ tokQ nmQ 4 (by decide) w660 rfl rfl rfl (Nat.le_of_ble_eq_true rfl) d_Q_readName_33 (fun H locs hP hD hS => ?_)
          have hP : va_P D vwCl (VW dA h ad (VS.s_qen x (q + 1))) H := hP
          have hD : va_D A (VW dA h ad (VS.s_qen x (q + 1))) := hD
          refine lv_goto hx hb d_Q_readName_36 (tgt := 0) rfl ?_
          exact ih0 _ (by omega) (q + 1) (by omega) ((whE_t (by omega) g4).symm.trans i2) rfl H _ ls hP hD hS (lv_sub hl [0] rfl)
  exact L0 _ x.qen h1 rfl rfl H _ ls hP hD hS (lv_sub hl [0] rfl)
theorem d_Q_readText_0 : decode prog_6_method_24_code 0 = .ok (.aload_n 0, 1) := by decide +kernel
theorem d_Q_readText_1 : decode prog_6_method_24_code 1 = .ok (.getfield 48, 3) := by decide +kernel
theorem d_Q_readText_4 : decode prog_6_method_24_code 4 = .ok (.iconst 1, 1) := by decide +kernel
theorem d_Q_readText_5 : decode prog_6_method_24_code 5 = .ok (.iadd, 1) := by decide +kernel
theorem d_Q_readText_6 : decode prog_6_method_24_code 6 = .ok (.istore_n 1, 1) := by decide +kernel
theorem d_Q_readText_7 : decode prog_6_method_24_code 7 = .ok (.iload_n 1, 1) := by decide +kernel
theorem d_Q_readText_8 : decode prog_6_method_24_code 8 = .ok (.aload_n 0, 1) := by decide +kernel
theorem d_Q_readText_9 : decode prog_6_method_24_code 9 = .ok (.getfield 22, 3) := by decide +kernel
theorem d_Q_readText_12 : decode prog_6_method_24_code 12 = .ok (.if_icmp .ge 42, 3) := by decide +kernel
theorem d_Q_readText_54 : decode prog_6_method_24_code 54 = .ok (.iload_n 1, 1) := by decide +kernel
theorem d_Q_readText_55 : decode prog_6_method_24_code 55 = .ok (.aload_n 0, 1) := by decide +kernel
theorem d_Q_readText_56 : decode prog_6_method_24_code 56 = .ok (.getfield 22, 3) := by decide +kernel
theorem d_Q_readText_59 : decode prog_6_method_24_code 59 = .ok (.if_icmp .eq 14, 3) := by decide +kernel
theorem d_Q_readText_73 : decode prog_6_method_24_code 73 = .ok (.sipush 263, 3) := by decide +kernel
theorem d_Q_readText_76 : decode prog_6_method_24_code 76 = .ok (.ireturn, 1) := by decide +kernel
theorem d_Q_readText_62 : decode prog_6_method_24_code 62 = .ok (.aload_n 0, 1) := by decide +kernel
theorem d_Q_readText_63 : decode prog_6_method_24_code 63 = .ok (.getfield 9, 3) := by decide +kernel
theorem d_Q_readText_66 : decode prog_6_method_24_code 66 = .ok (.iload_n 1, 1) := by decide +kernel
theorem d_Q_readText_67 : decode prog_6_method_24_code 67 = .ok (.baload, 1) := by decide +kernel
theorem d_Q_readText_68 : decode prog_6_method_24_code 68 = .ok (.bipush 34, 2) := by decide +kernel
theorem d_Q_readText_70 : decode prog_6_method_24_code 70 = .ok (.if_icmp .eq 7, 3) := by decide +kernel
theorem d_Q_readText_77 : decode prog_6_method_24_code 77 = .ok (.aload_n 0, 1) := by decide +kernel
theorem d_Q_readText_78 : decode prog_6_method_24_code 78 = .ok (.iload_n 1, 1) := by decide +kernel
theorem d_Q_readText_79 : decode prog_6_method_24_code 79 = .ok (.iconst 1, 1) := by decide +kernel
theorem d_Q_readText_80 : decode prog_6_method_24_code 80 = .ok (.iadd, 1) := by decide +kernel
theorem d_Q_readText_81 : decode prog_6_method_24_code 81 = .ok (.putfield 32, 3) := by decide +kernel
theorem d_Q_readText_84 : decode prog_6_method_24_code 84 = .ok (.sipush 259, 3) := by decide +kernel
theorem d_Q_readText_87 : decode prog_6_method_24_code 87 = .ok (.ireturn, 1) := by decide +kernel
theorem d_Q_readText_15 : decode prog_6_method_24_code 15 = .ok (.aload_n 0, 1) := by decide +kernel
theorem d_Q_readText_16 : decode prog_6_method_24_code 16 = .ok (.getfield 9, 3) := by decide +kernel
theorem d_Q_readText_19 : decode prog_6_method_24_code 19 = .ok (.iload_n 1, 1) := by decide +kernel
theorem d_Q_readText_20 : decode prog_6_method_24_code 20 = .ok (.baload, 1) := by decide +kernel
theorem d_Q_readText_21 : decode prog_6_method_24_code 21 = .ok (.bipush 34, 2) := by decide +kernel
theorem d_Q_readText_23 : decode prog_6_method_24_code 23 = .ok (.if_icmp .eq 31, 3) := by decide +kernel
theorem d_Q_readText_26 : decode prog_6_method_24_code 26 = .ok (.aload_n 0, 1) := by decide +kernel
theorem d_Q_readText_27 : decode prog_6_method_24_code 27 = .ok (.getfield 9, 3) := by decide +kernel
theorem d_Q_readText_30 : decode prog_6_method_24_code 30 = .ok (.iload_n 1, 1) := by decide +kernel
theorem d_Q_readText_31 : decode prog_6_method_24_code 31 = .ok (.baload, 1) := by decide +kernel
theorem d_Q_readText_32 : decode prog_6_method_24_code 32 = .ok (.bipush 32, 2) := by decide +kernel
theorem d_Q_readText_34 : decode prog_6_method_24_code 34 = .ok (.if_icmp .lt 20, 3) := by decide +kernel
theorem d_Q_readText_37 : decode prog_6_method_24_code 37 = .ok (.aload_n 0, 1) := by decide +kernel
theorem d_Q_readText_38 : decode prog_6_method_24_code 38 = .ok (.getfield 9, 3) := by decide +kernel
theorem d_Q_readText_41 : decode prog_6_method_24_code 41 = .ok (.iload_n 1, 1) := by decide +kernel
theorem d_Q_readText_42 : decode prog_6_method_24_code 42 = .ok (.baload, 1) := by decide +kernel
theorem d_Q_readText_43 : decode prog_6_method_24_code 43 = .ok (.bipush 126, 2) := by decide +kernel
theorem d_Q_readText_45 : decode prog_6_method_24_code 45 = .ok (.if_icmp .gt 9, 3) := by decide +kernel
theorem d_Q_readText_48 : decode prog_6_method_24_code 48 = .ok (.iinc 1 1, 3) := by decide +kernel
theorem d_Q_readText_51 : decode prog_6_method_24_code 51 = .ok (.goto (-44), 3) := by decide +kernel
set_option maxHeartbeats 4000000 in
set_option maxRecDepth 100000 in
theorem v_QreadText (l : Launch) (D : va_G) (dA : Nat → ClassId) (sz : Nat) (h : Nat) (ad : Nat → Nat) (x : VS) (hq : x.qtp = x.tpA) (h2 : x.qlen ≤ x.tpN) (h3 : x.tpN ≤ 131072) (h1 : x.qst < x.qlen) : Met l ⟨"SeriesVault$Question", "readText", "()I"⟩ [Cond.code ⟨"SeriesVault$Question", "readText", "()I"⟩ prog_6_method_24_code 2 (some FieldType.int)] { frames := 1, cells := 0, slots := 0, locals := 0 } (pC D dA [.ref (ad 22)] (VW dA h ad x) sz) (va_Qi (fun (r9 : Int32) (u9 : Unit) => r9 = tvK x.tape x.qlen x.qst) (fun (u9 : Unit) t9 => bW D (va_A (VW dA h ad x) sz) (VW dA h ad (VS.s_qen x (tvN x.tape x.qlen x.qst x.qen))) t9) (va_A (VW dA h ad x) sz)) 0 0 (va_A (VW dA h ad x) sz) := by
  refine mkC (y := ⟨"SeriesVault$Question", "readText", "()I"⟩) (cc := prog_6_method_24_code) (maxL := 2) (av := [.ref (ad 22)]) (ws := VW dA h ad x) (sz := sz) (Qc := fun A => va_Qi (fun (r9 : Int32) (u9 : Unit) => r9 = tvK x.tape x.qlen x.qst) (fun (u9 : Unit) t9 => bW D A (VW dA h ad (VS.s_qen x (tvN x.tape x.qlen x.qst x.qen))) t9) A) (by decide) (Nat.le_of_ble_eq_true rfl) ?_
  intro A p e s m below meth c ls hsz hB
  obtain ⟨hx, hb, hr, hml, hown, hin, hlk, hE, hK, hP, hD, hS, hA, hN, hl⟩ := hB
  have hown : s.vm.findClass "SeriesVault$Question" = some m.cls := hown
  have hl : lv_has ls 2 [(0, .ref (ad 22))] := hl
  obtain ⟨H, hH⟩ : ∃ z, z = s.heap := ⟨_, rfl⟩
  have hP : va_P D vwCl (VW dA h ad x) H := by rw [hH]; exact hP
  have hS : va_S A s.heap H [] := by rw [hH]; exact hS
  rw [← hH]
  refine lv_aload_n hx hb d_Q_readText_0 rfl (lv_at hl 0 rfl) ?_
  refine gF (v := .int (nI x.qst)) hx hb hown hE hK hP 36 rfl rfl layQ 3 (by decide) w662 rfl d_Q_readText_1 ?_
  refine lv_iconst (v := 1) hx hb d_Q_readText_4 (by decide) ?_
  refine lv_iadd hx hb d_Q_readText_5 (tpi (y := nI (x.qst + 1)) (nI_add (x.qst) (1)) ?_)
  refine lv_istore_n hx hb d_Q_readText_6 rfl hl (by decide) rfl (fun ls hl => ?_)
  have hl : lv_has ls 2 [(1, .int (nI (x.qst + 1))), (0, .ref (ad 22))] := hl
  have L7 : ∀ (k9 : Nat) (q : Nat) (i1 : q ≤ x.qlen) (i2 : whE isTv x.tape x.qlen q = whE isTv x.tape x.qlen (x.qst + 1)) (hk9 : x.qlen - q = k9), ∀ (H : Heap) (locs : List Loc) (ls : Array Slot) (hP : va_P D vwCl (VW dA h ad x) H) (hD : va_D A (VW dA h ad x)) (hS : va_S A s.heap H locs) (hl : lv_has ls 2 [(1, .int (nI q)), (0, .ref (ad 22))]), W p l e ({ frames := 1, cells := 0, slots := 0, locals := 0 } : Room) s m ([.ref (ad 22)] : List Value).toArray below meth c H locs 0 0 (MQ below (va_Qi (fun (r9 : Int32) (u9 : Unit) => r9 = tvK x.tape x.qlen x.qst) (fun (u9 : Unit) t9 => bW D A (VW dA h ad (VS.s_qen x (tvN x.tape x.qlen x.qst x.qen))) t9) A) ([.ref (ad 22)] : List Value).toArray s 0 0 A) (F0 m 7 ls []) := by
    intro k9
    induction k9 using Nat.strongRecOn with
    | ind k9 ih7 =>
      intro q i1 i2 hk9 H locs ls hP hD hS hl
      refine lv_iload_n hx hb d_Q_readText_7 rfl (lv_at hl 0 rfl) ?_
      refine lv_aload_n hx hb d_Q_readText_8 rfl (lv_at hl 1 rfl) ?_
      refine gF (v := .int (nI x.qlen)) hx hb hown hE hK hP 36 rfl rfl layQ 1 (by decide) w661 rfl d_Q_readText_9 ?_
      refine lv_icmp_ge hx hb d_Q_readText_12 (tgt := 54) rfl (fun g1 => ?_) (fun g1 => ?_)
      · have g1 := (nI_leI (a := x.qlen) (b := q) (by omega) (by omega)).mp g1
        refine lv_iload_n hx hb d_Q_readText_54 rfl (lv_at hl 0 rfl) ?_
        refine lv_aload_n hx hb d_Q_readText_55 rfl (lv_at hl 1 rfl) ?_
        refine gF (v := .int (nI x.qlen)) hx hb hown hE hK hP 36 rfl rfl layQ 1 (by decide) w661 rfl d_Q_readText_56 ?_
        refine lv_icmp_eq hx hb d_Q_readText_59 (tgt := 73) rfl (fun g2 => ?_) (fun g2 => ?_)
        · have g2 := (nI_eq (a := q) (b := x.qlen) (by omega) (by omega)).mp g2
          refine lv_sipush (v := 263) hx hb d_Q_readText_73 (by decide) ?_
          have e9 : (x : VS) = VS.s_qen x (tvN x.tape x.qlen x.qst x.qen) := by rw [show (tvN x.tape x.qlen x.qst x.qen) = x.qen from by exact tvN_n (by rw [(i2.symm.trans (whE_n (by omega))), atV_f (by omega)]; decide)] <;> rfl
          rw [e9] at hP hD
          exact rfI hx hb hr hlk hS () (tvK_n (by rw [(i2.symm.trans (whE_n (by omega))), atV_f (by omega)]; decide)).symm hP hD (Nat.le_of_ble_eq_true rfl) (Nat.le_of_ble_eq_true rfl) d_Q_readText_76
        · have g2 := mt (nI_eq (a := q) (b := x.qlen) (by omega) (by omega)).mpr g2
          refine lv_aload_n hx hb d_Q_readText_62 rfl (lv_at hl 1 rfl) ?_
          refine gF (v := .ref x.qtp) hx hb hown hE hK hP 36 rfl rfl layQ 0 (by decide) w677 rfl d_Q_readText_63 ?_
          rw [hq]
          refine lv_iload_n hx hb d_Q_readText_66 rfl (lv_at hl 0 rfl) ?_
          refine nbld (f := x.tape) (n := x.tpN) hx hb hK hP (1) 0 rfl rfl (q) (by omega) (by omega) d_Q_readText_67 ?_
          refine lv_bipush (v := 34) hx hb d_Q_readText_68 (by decide) ?_
          refine lv_icmp_eq hx hb d_Q_readText_70 (tgt := 77) rfl (fun g3 => ?_) (fun g3 => ?_)
          · have g3 := g3
            refine lv_aload_n hx hb d_Q_readText_77 rfl (lv_at hl 1 rfl) ?_
            refine lv_iload_n hx hb d_Q_readText_78 rfl (lv_at hl 0 rfl) ?_
            refine lv_iconst (v := 1) hx hb d_Q_readText_79 (by decide) ?_
            refine lv_iadd hx hb d_Q_readText_80 (tpi (y := nI (q + 1)) (nI_add (q) (1)) ?_)
            refine pF (v := .int (nI (q + 1))) hx hb hown hE hK hP hD hS 36 rfl rfl layQ tyQ tokQ nmQ 4 (by decide) w660 rfl rfl rfl (Nat.le_of_ble_eq_true rfl) d_Q_readText_81 (fun H locs hP hD hS => ?_)
            have hP : va_P D vwCl (VW dA h ad (VS.s_qen x (q + 1))) H := hP
            have hD : va_D A (VW dA h ad (VS.s_qen x (q + 1))) := hD
            refine lv_sipush (v := 259) hx hb d_Q_readText_84 (by decide) ?_
            have e9 : (VS.s_qen x (q + 1) : VS) = VS.s_qen x (tvN x.tape x.qlen x.qst x.qen) := by rw [show (tvN x.tape x.qlen x.qst x.qen) = (q + 1) from by rw [tvN_y (by rw [(i2.symm.trans (whE_n (by omega))), atV_t (by omega)]; exact g3), (i2.symm.trans (whE_n (by omega)))]] <;> rfl
            rw [e9] at hP hD
            exact rfI hx hb hr hlk hS () (tvK_y (by rw [(i2.symm.trans (whE_n (by omega))), atV_t (by omega)]; exact g3)).symm hP hD (Nat.le_of_ble_eq_true rfl) (Nat.le_of_ble_eq_true rfl) d_Q_readText_87
          · have g3 := g3
            refine lv_sipush (v := 263) hx hb d_Q_readText_73 (by decide) ?_
            have e9 : (x : VS) = VS.s_qen x (tvN x.tape x.qlen x.qst x.qen) := by rw [show (tvN x.tape x.qlen x.qst x.qen) = x.qen from by exact tvN_n (by rw [(i2.symm.trans (whE_n (by omega))), atV_t (by omega)]; exact g3)] <;> rfl
            rw [e9] at hP hD
            exact rfI hx hb hr hlk hS () (tvK_n (by rw [(i2.symm.trans (whE_n (by omega))), atV_t (by omega)]; exact g3)).symm hP hD (Nat.le_of_ble_eq_true rfl) (Nat.le_of_ble_eq_true rfl) d_Q_readText_76
      · have g1 := mt (nI_leI (a := x.qlen) (b := q) (by omega) (by omega)).mpr g1
        refine lv_aload_n hx hb d_Q_readText_15 rfl (lv_at hl 1 rfl) ?_
        refine gF (v := .ref x.qtp) hx hb hown hE hK hP 36 rfl rfl layQ 0 (by decide) w677 rfl d_Q_readText_16 ?_
        rw [hq]
        refine lv_iload_n hx hb d_Q_readText_19 rfl (lv_at hl 0 rfl) ?_
        refine nbld (f := x.tape) (n := x.tpN) hx hb hK hP (1) 0 rfl rfl (q) (by omega) (by omega) d_Q_readText_20 ?_
        refine lv_bipush (v := 34) hx hb d_Q_readText_21 (by decide) ?_
        refine lv_icmp_eq hx hb d_Q_readText_23 (tgt := 54) rfl (fun g4 => ?_) (fun g4 => ?_)
        · have g4 := g4
          refine lv_iload_n hx hb d_Q_readText_54 rfl (lv_at hl 0 rfl) ?_
          refine lv_aload_n hx hb d_Q_readText_55 rfl (lv_at hl 1 rfl) ?_
          refine gF (v := .int (nI x.qlen)) hx hb hown hE hK hP 36 rfl rfl layQ 1 (by decide) w661 rfl d_Q_readText_56 ?_
          refine lv_icmp_eq hx hb d_Q_readText_59 (tgt := 73) rfl (fun g5 => ?_) (fun g5 => ?_)
          · have g5 := (nI_eq (a := q) (b := x.qlen) (by omega) (by omega)).mp g5
            refine lv_sipush (v := 263) hx hb d_Q_readText_73 (by decide) ?_
            have e9 : (x : VS) = VS.s_qen x (tvN x.tape x.qlen x.qst x.qen) := by rw [show (tvN x.tape x.qlen x.qst x.qen) = x.qen from by exact tvN_n (by rw [(i2.symm.trans (whE_f (by show (!decide _ && (!decide _ && !decide _)) = false; rw [decide_eq_true (p := x.tape q = 34) g4]; simp))), atV_f (by omega)]; decide)] <;> rfl
            rw [e9] at hP hD
            exact rfI hx hb hr hlk hS () (tvK_n (by rw [(i2.symm.trans (whE_f (by show (!decide _ && (!decide _ && !decide _)) = false; rw [decide_eq_true (p := x.tape q = 34) g4]; simp))), atV_f (by omega)]; decide)).symm hP hD (Nat.le_of_ble_eq_true rfl) (Nat.le_of_ble_eq_true rfl) d_Q_readText_76
          · have g5 := mt (nI_eq (a := q) (b := x.qlen) (by omega) (by omega)).mpr g5
            refine lv_aload_n hx hb d_Q_readText_62 rfl (lv_at hl 1 rfl) ?_
            refine gF (v := .ref x.qtp) hx hb hown hE hK hP 36 rfl rfl layQ 0 (by decide) w677 rfl d_Q_readText_63 ?_
            rw [hq]
            refine lv_iload_n hx hb d_Q_readText_66 rfl (lv_at hl 0 rfl) ?_
            refine nbld (f := x.tape) (n := x.tpN) hx hb hK hP (1) 0 rfl rfl (q) (by omega) (by omega) d_Q_readText_67 ?_
            refine lv_bipush (v := 34) hx hb d_Q_readText_68 (by decide) ?_
            refine lv_icmp_eq hx hb d_Q_readText_70 (tgt := 77) rfl (fun _ => ?_) (fun h9 => absurd g4 h9)
            refine lv_aload_n hx hb d_Q_readText_77 rfl (lv_at hl 1 rfl) ?_
            refine lv_iload_n hx hb d_Q_readText_78 rfl (lv_at hl 0 rfl) ?_
            refine lv_iconst (v := 1) hx hb d_Q_readText_79 (by decide) ?_
            refine lv_iadd hx hb d_Q_readText_80 (tpi (y := nI (q + 1)) (nI_add (q) (1)) ?_)
            refine pF (v := .int (nI (q + 1))) hx hb hown hE hK hP hD hS 36 rfl rfl layQ tyQ tokQ nmQ 4 (by decide) w660 rfl rfl rfl (Nat.le_of_ble_eq_true rfl) d_Q_readText_81 (fun H locs hP hD hS => ?_)
            have hP : va_P D vwCl (VW dA h ad (VS.s_qen x (q + 1))) H := hP
            have hD : va_D A (VW dA h ad (VS.s_qen x (q + 1))) := hD
            refine lv_sipush (v := 259) hx hb d_Q_readText_84 (by decide) ?_
            have e9 : (VS.s_qen x (q + 1) : VS) = VS.s_qen x (tvN x.tape x.qlen x.qst x.qen) := by rw [show (tvN x.tape x.qlen x.qst x.qen) = (q + 1) from by rw [tvN_y (by rw [(i2.symm.trans (whE_f (by show (!decide _ && (!decide _ && !decide _)) = false; rw [decide_eq_true (p := x.tape q = 34) g4]; simp))), atV_t (by omega)]; exact g4), (i2.symm.trans (whE_f (by show (!decide _ && (!decide _ && !decide _)) = false; rw [decide_eq_true (p := x.tape q = 34) g4]; simp)))]] <;> rfl
            rw [e9] at hP hD
            exact rfI hx hb hr hlk hS () (tvK_y (by rw [(i2.symm.trans (whE_f (by show (!decide _ && (!decide _ && !decide _)) = false; rw [decide_eq_true (p := x.tape q = 34) g4]; simp))), atV_t (by omega)]; exact g4)).symm hP hD (Nat.le_of_ble_eq_true rfl) (Nat.le_of_ble_eq_true rfl) d_Q_readText_87
        · have g4 := g4
          refine lv_aload_n hx hb d_Q_readText_26 rfl (lv_at hl 1 rfl) ?_
          refine gF (v := .ref x.qtp) hx hb hown hE hK hP 36 rfl rfl layQ 0 (by decide) w677 rfl d_Q_readText_27 ?_
          rw [hq]
          refine lv_iload_n hx hb d_Q_readText_30 rfl (lv_at hl 0 rfl) ?_
          refine nbld (f := x.tape) (n := x.tpN) hx hb hK hP (1) 0 rfl rfl (q) (by omega) (by omega) d_Q_readText_31 ?_
          refine lv_bipush (v := 32) hx hb d_Q_readText_32 (by decide) ?_
          refine lv_icmp_lt hx hb d_Q_readText_34 (tgt := 54) rfl (fun g6 => ?_) (fun g6 => ?_)
          · have g6 := g6
            refine lv_iload_n hx hb d_Q_readText_54 rfl (lv_at hl 0 rfl) ?_
            refine lv_aload_n hx hb d_Q_readText_55 rfl (lv_at hl 1 rfl) ?_
            refine gF (v := .int (nI x.qlen)) hx hb hown hE hK hP 36 rfl rfl layQ 1 (by decide) w661 rfl d_Q_readText_56 ?_
            refine lv_icmp_eq hx hb d_Q_readText_59 (tgt := 73) rfl (fun g7 => ?_) (fun g7 => ?_)
            · have g7 := (nI_eq (a := q) (b := x.qlen) (by omega) (by omega)).mp g7
              refine lv_sipush (v := 263) hx hb d_Q_readText_73 (by decide) ?_
              have e9 : (x : VS) = VS.s_qen x (tvN x.tape x.qlen x.qst x.qen) := by rw [show (tvN x.tape x.qlen x.qst x.qen) = x.qen from by exact tvN_n (by rw [(i2.symm.trans (whE_f (by show (!decide _ && (!decide _ && !decide _)) = false; rw [decide_eq_true (p := x.tape q < 32) g6]; simp))), atV_f (by omega)]; decide)] <;> rfl
              rw [e9] at hP hD
              exact rfI hx hb hr hlk hS () (tvK_n (by rw [(i2.symm.trans (whE_f (by show (!decide _ && (!decide _ && !decide _)) = false; rw [decide_eq_true (p := x.tape q < 32) g6]; simp))), atV_f (by omega)]; decide)).symm hP hD (Nat.le_of_ble_eq_true rfl) (Nat.le_of_ble_eq_true rfl) d_Q_readText_76
            · have g7 := mt (nI_eq (a := q) (b := x.qlen) (by omega) (by omega)).mpr g7
              refine lv_aload_n hx hb d_Q_readText_62 rfl (lv_at hl 1 rfl) ?_
              refine gF (v := .ref x.qtp) hx hb hown hE hK hP 36 rfl rfl layQ 0 (by decide) w677 rfl d_Q_readText_63 ?_
              rw [hq]
              refine lv_iload_n hx hb d_Q_readText_66 rfl (lv_at hl 0 rfl) ?_
              refine nbld (f := x.tape) (n := x.tpN) hx hb hK hP (1) 0 rfl rfl (q) (by omega) (by omega) d_Q_readText_67 ?_
              refine lv_bipush (v := 34) hx hb d_Q_readText_68 (by decide) ?_
              refine lv_icmp_eq hx hb d_Q_readText_70 (tgt := 77) rfl (fun h9 => absurd h9 g4) (fun _ => ?_)
              refine lv_sipush (v := 263) hx hb d_Q_readText_73 (by decide) ?_
              have e9 : (x : VS) = VS.s_qen x (tvN x.tape x.qlen x.qst x.qen) := by rw [show (tvN x.tape x.qlen x.qst x.qen) = x.qen from by exact tvN_n (by rw [(i2.symm.trans (whE_f (by show (!decide _ && (!decide _ && !decide _)) = false; rw [decide_eq_true (p := x.tape q < 32) g6]; simp))), atV_t (by omega)]; exact g4)] <;> rfl
              rw [e9] at hP hD
              exact rfI hx hb hr hlk hS () (tvK_n (by rw [(i2.symm.trans (whE_f (by show (!decide _ && (!decide _ && !decide _)) = false; rw [decide_eq_true (p := x.tape q < 32) g6]; simp))), atV_t (by omega)]; exact g4)).symm hP hD (Nat.le_of_ble_eq_true rfl) (Nat.le_of_ble_eq_true rfl) d_Q_readText_76
          · have g6 := g6
            refine lv_aload_n hx hb d_Q_readText_37 rfl (lv_at hl 1 rfl) ?_
            refine gF (v := .ref x.qtp) hx hb hown hE hK hP 36 rfl rfl layQ 0 (by decide) w677 rfl d_Q_readText_38 ?_
            rw [hq]
            refine lv_iload_n hx hb d_Q_readText_41 rfl (lv_at hl 0 rfl) ?_
            refine nbld (f := x.tape) (n := x.tpN) hx hb hK hP (1) 0 rfl rfl (q) (by omega) (by omega) d_Q_readText_42 ?_
            refine lv_bipush (v := 126) hx hb d_Q_readText_43 (by decide) ?_
            refine lv_icmp_gt hx hb d_Q_readText_45 (tgt := 54) rfl (fun g8 => ?_) (fun g8 => ?_)
            · have g8 := g8
              refine lv_iload_n hx hb d_Q_readText_54 rfl (lv_at hl 0 rfl) ?_
              refine lv_aload_n hx hb d_Q_readText_55 rfl (lv_at hl 1 rfl) ?_
              refine gF (v := .int (nI x.qlen)) hx hb hown hE hK hP 36 rfl rfl layQ 1 (by decide) w661 rfl d_Q_readText_56 ?_
              refine lv_icmp_eq hx hb d_Q_readText_59 (tgt := 73) rfl (fun g9 => ?_) (fun g9 => ?_)
              · have g9 := (nI_eq (a := q) (b := x.qlen) (by omega) (by omega)).mp g9
                refine lv_sipush (v := 263) hx hb d_Q_readText_73 (by decide) ?_
                have e9 : (x : VS) = VS.s_qen x (tvN x.tape x.qlen x.qst x.qen) := by rw [show (tvN x.tape x.qlen x.qst x.qen) = x.qen from by exact tvN_n (by rw [(i2.symm.trans (whE_f (by show (!decide _ && (!decide _ && !decide _)) = false; rw [decide_eq_true (p := 126 < x.tape q) g8]; simp))), atV_f (by omega)]; decide)] <;> rfl
                rw [e9] at hP hD
                exact rfI hx hb hr hlk hS () (tvK_n (by rw [(i2.symm.trans (whE_f (by show (!decide _ && (!decide _ && !decide _)) = false; rw [decide_eq_true (p := 126 < x.tape q) g8]; simp))), atV_f (by omega)]; decide)).symm hP hD (Nat.le_of_ble_eq_true rfl) (Nat.le_of_ble_eq_true rfl) d_Q_readText_76
              · have g9 := mt (nI_eq (a := q) (b := x.qlen) (by omega) (by omega)).mpr g9
                refine lv_aload_n hx hb d_Q_readText_62 rfl (lv_at hl 1 rfl) ?_
                refine gF (v := .ref x.qtp) hx hb hown hE hK hP 36 rfl rfl layQ 0 (by decide) w677 rfl d_Q_readText_63 ?_
                rw [hq]
                refine lv_iload_n hx hb d_Q_readText_66 rfl (lv_at hl 0 rfl) ?_
                refine nbld (f := x.tape) (n := x.tpN) hx hb hK hP (1) 0 rfl rfl (q) (by omega) (by omega) d_Q_readText_67 ?_
                refine lv_bipush (v := 34) hx hb d_Q_readText_68 (by decide) ?_
                refine lv_icmp_eq hx hb d_Q_readText_70 (tgt := 77) rfl (fun h9 => absurd h9 g4) (fun _ => ?_)
                refine lv_sipush (v := 263) hx hb d_Q_readText_73 (by decide) ?_
                have e9 : (x : VS) = VS.s_qen x (tvN x.tape x.qlen x.qst x.qen) := by rw [show (tvN x.tape x.qlen x.qst x.qen) = x.qen from by exact tvN_n (by rw [(i2.symm.trans (whE_f (by show (!decide _ && (!decide _ && !decide _)) = false; rw [decide_eq_true (p := 126 < x.tape q) g8]; simp))), atV_t (by omega)]; exact g4)] <;> rfl
                rw [e9] at hP hD
                exact rfI hx hb hr hlk hS () (tvK_n (by rw [(i2.symm.trans (whE_f (by show (!decide _ && (!decide _ && !decide _)) = false; rw [decide_eq_true (p := 126 < x.tape q) g8]; simp))), atV_t (by omega)]; exact g4)).symm hP hD (Nat.le_of_ble_eq_true rfl) (Nat.le_of_ble_eq_true rfl) d_Q_readText_76
            · have g8 := g8
              refine lv_iinc (k := 0) (v := nI (q + 1)) hx hb d_Q_readText_48 hl rfl (iincN (q) 1 1 (by decide)) (by decide) rfl (fun ls hl => ?_)
              have hl : lv_has ls 2 [(1, .int (nI (q + 1))), (0, .ref (ad 22))] := hl
              refine lv_goto hx hb d_Q_readText_51 (tgt := 7) rfl ?_
              exact ih7 _ (by omega) (q + 1) (by omega) ((whE_t (by omega) (by show (!decide _ && (!decide _ && !decide _)) = true; rw [decide_eq_false g4, decide_eq_false g6, decide_eq_false g8]; rfl)).symm.trans i2) rfl H _ ls hP hD hS (lv_sub hl [0, 1] rfl)
  exact L7 _ (x.qst + 1) (by omega) rfl rfl H _ ls hP hD hS (lv_sub hl [0, 1] rfl)
theorem d_Q_readNumber_0 : decode prog_6_method_22_code 0 = .ok (.aload_n 0, 1) := by decide +kernel
theorem d_Q_readNumber_1 : decode prog_6_method_22_code 1 = .ok (.lconst 0, 1) := by decide +kernel
theorem d_Q_readNumber_2 : decode prog_6_method_22_code 2 = .ok (.putfield 73, 3) := by decide +kernel
theorem d_Q_readNumber_5 : decode prog_6_method_22_code 5 = .ok (.aload_n 0, 1) := by decide +kernel
theorem d_Q_readNumber_6 : decode prog_6_method_22_code 6 = .ok (.getfield 48, 3) := by decide +kernel
theorem d_Q_readNumber_9 : decode prog_6_method_22_code 9 = .ok (.istore_n 1, 1) := by decide +kernel
theorem d_Q_readNumber_10 : decode prog_6_method_22_code 10 = .ok (.iconst 0, 1) := by decide +kernel
theorem d_Q_readNumber_11 : decode prog_6_method_22_code 11 = .ok (.istore_n 2, 1) := by decide +kernel
theorem d_Q_readNumber_12 : decode prog_6_method_22_code 12 = .ok (.iload_n 1, 1) := by decide +kernel
theorem d_Q_readNumber_13 : decode prog_6_method_22_code 13 = .ok (.aload_n 0, 1) := by decide +kernel
theorem d_Q_readNumber_14 : decode prog_6_method_22_code 14 = .ok (.getfield 22, 3) := by decide +kernel
theorem d_Q_readNumber_17 : decode prog_6_method_22_code 17 = .ok (.if_icmp .ge 74, 3) := by decide +kernel
theorem d_Q_readNumber_91 : decode prog_6_method_22_code 91 = .ok (.aload_n 0, 1) := by decide +kernel
theorem d_Q_readNumber_92 : decode prog_6_method_22_code 92 = .ok (.iload_n 1, 1) := by decide +kernel
theorem d_Q_readNumber_93 : decode prog_6_method_22_code 93 = .ok (.putfield 32, 3) := by decide +kernel
theorem d_Q_readNumber_96 : decode prog_6_method_22_code 96 = .ok (.iload_n 2, 1) := by decide +kernel
theorem d_Q_readNumber_97 : decode prog_6_method_22_code 97 = .ok (.ifCond .eq 9, 3) := by decide +kernel
theorem d_Q_readNumber_106 : decode prog_6_method_22_code 106 = .ok (.sipush 257, 3) := by decide +kernel
theorem d_Q_readNumber_109 : decode prog_6_method_22_code 109 = .ok (.ireturn, 1) := by decide +kernel
theorem d_Q_readNumber_100 : decode prog_6_method_22_code 100 = .ok (.sipush 263, 3) := by decide +kernel
theorem d_Q_readNumber_103 : decode prog_6_method_22_code 103 = .ok (.goto 6, 3) := by decide +kernel
theorem d_Q_readNumber_20 : decode prog_6_method_22_code 20 = .ok (.aload_n 0, 1) := by decide +kernel
theorem d_Q_readNumber_21 : decode prog_6_method_22_code 21 = .ok (.getfield 9, 3) := by decide +kernel
theorem d_Q_readNumber_24 : decode prog_6_method_22_code 24 = .ok (.iload_n 1, 1) := by decide +kernel
theorem d_Q_readNumber_25 : decode prog_6_method_22_code 25 = .ok (.baload, 1) := by decide +kernel
theorem d_Q_readNumber_26 : decode prog_6_method_22_code 26 = .ok (.invokestatic 142, 3) := by decide +kernel
theorem d_Q_readNumber_29 : decode prog_6_method_22_code 29 = .ok (.ifCond .eq 62, 3) := by decide +kernel
theorem d_Q_readNumber_32 : decode prog_6_method_22_code 32 = .ok (.aload_n 0, 1) := by decide +kernel
theorem d_Q_readNumber_33 : decode prog_6_method_22_code 33 = .ok (.getfield 9, 3) := by decide +kernel
theorem d_Q_readNumber_36 : decode prog_6_method_22_code 36 = .ok (.iload_n 1, 1) := by decide +kernel
theorem d_Q_readNumber_37 : decode prog_6_method_22_code 37 = .ok (.baload, 1) := by decide +kernel
theorem d_Q_readNumber_38 : decode prog_6_method_22_code 38 = .ok (.bipush 48, 2) := by decide +kernel
theorem d_Q_readNumber_40 : decode prog_6_method_22_code 40 = .ok (.isub, 1) := by decide +kernel
theorem d_Q_readNumber_41 : decode prog_6_method_22_code 41 = .ok (.istore_n 3, 1) := by decide +kernel
theorem d_Q_readNumber_42 : decode prog_6_method_22_code 42 = .ok (.iload_n 2, 1) := by decide +kernel
theorem d_Q_readNumber_43 : decode prog_6_method_22_code 43 = .ok (.ifCond .ne 21, 3) := by decide +kernel
theorem d_Q_readNumber_64 : decode prog_6_method_22_code 64 = .ok (.iconst 1, 1) := by decide +kernel
theorem d_Q_readNumber_65 : decode prog_6_method_22_code 65 = .ok (.goto 4, 3) := by decide +kernel
theorem d_Q_readNumber_69 : decode prog_6_method_22_code 69 = .ok (.istore_n 2, 1) := by decide +kernel
theorem d_Q_readNumber_70 : decode prog_6_method_22_code 70 = .ok (.aload_n 0, 1) := by decide +kernel
theorem d_Q_readNumber_71 : decode prog_6_method_22_code 71 = .ok (.ldc2_w 172, 3) := by decide +kernel
theorem d_Q_readNumber_74 : decode prog_6_method_22_code 74 = .ok (.aload_n 0, 1) := by decide +kernel
theorem d_Q_readNumber_75 : decode prog_6_method_22_code 75 = .ok (.getfield 73, 3) := by decide +kernel
theorem d_Q_readNumber_78 : decode prog_6_method_22_code 78 = .ok (.lmul, 1) := by decide +kernel
theorem d_Q_readNumber_79 : decode prog_6_method_22_code 79 = .ok (.iload_n 3, 1) := by decide +kernel
theorem d_Q_readNumber_80 : decode prog_6_method_22_code 80 = .ok (.i2l, 1) := by decide +kernel
theorem d_Q_readNumber_81 : decode prog_6_method_22_code 81 = .ok (.ladd, 1) := by decide +kernel
theorem d_Q_readNumber_82 : decode prog_6_method_22_code 82 = .ok (.putfield 73, 3) := by decide +kernel
theorem d_Q_readNumber_85 : decode prog_6_method_22_code 85 = .ok (.iinc 1 1, 3) := by decide +kernel
theorem d_Q_readNumber_88 : decode prog_6_method_22_code 88 = .ok (.goto (-76), 3) := by decide +kernel
theorem d_Q_readNumber_46 : decode prog_6_method_22_code 46 = .ok (.aload_n 0, 1) := by decide +kernel
theorem d_Q_readNumber_47 : decode prog_6_method_22_code 47 = .ok (.getfield 73, 3) := by decide +kernel
theorem d_Q_readNumber_50 : decode prog_6_method_22_code 50 = .ok (.ldc2_w 170, 3) := by decide +kernel
theorem d_Q_readNumber_53 : decode prog_6_method_22_code 53 = .ok (.iload_n 3, 1) := by decide +kernel
theorem d_Q_readNumber_54 : decode prog_6_method_22_code 54 = .ok (.i2l, 1) := by decide +kernel
theorem d_Q_readNumber_55 : decode prog_6_method_22_code 55 = .ok (.lsub, 1) := by decide +kernel
theorem d_Q_readNumber_56 : decode prog_6_method_22_code 56 = .ok (.ldc2_w 172, 3) := by decide +kernel
theorem d_Q_readNumber_59 : decode prog_6_method_22_code 59 = .ok (.ldiv, 1) := by decide +kernel
theorem d_Q_readNumber_60 : decode prog_6_method_22_code 60 = .ok (.lcmp, 1) := by decide +kernel
theorem d_Q_readNumber_61 : decode prog_6_method_22_code 61 = .ok (.ifCond .le 7, 3) := by decide +kernel
theorem d_Q_readNumber_68 : decode prog_6_method_22_code 68 = .ok (.iconst 0, 1) := by decide +kernel
theorem w1560 : Cond.fieldLink "SeriesVault$Question" 73 "SeriesVault$Question" "tokenNumber" "J" ∈ aW := aw_of (tb_2 (List.mem_of_getElem? (i := 10) rfl)) rfl
theorem w1561 : Cond.methodLink "SeriesVault$Question" 142 ⟨"SeriesVault$Question", "isDigit", "(I)Z"⟩ ∈ aW := aw_of (tb_6 (List.mem_of_getElem? (i := 193) rfl)) rfl
theorem w1562 : Cond.code ⟨"SeriesVault$Question", "isDigit", "(I)Z"⟩ prog_6_method_20_code 1 (some FieldType.boolean) ∈ aW := aw_of (tb_6 (List.mem_of_getElem? (i := 195) rfl)) rfl
theorem w1563 : Cond.static ⟨"SeriesVault$Question", "isDigit", "(I)Z"⟩ ∈ aW := aw_of (tb_6 (List.mem_of_getElem? (i := 194) rfl)) rfl
theorem w1564 : Cond.constantLong "SeriesVault$Question" 172 10 ∈ aW := aw_of (tb_6 (List.mem_of_getElem? (i := 201) rfl)) rfl
theorem w1565 : Cond.constantLong "SeriesVault$Question" 170 9223372036854775807 ∈ aW := aw_of (tb_6 (List.mem_of_getElem? (i := 200) rfl)) rfl
set_option maxHeartbeats 4000000 in
set_option maxRecDepth 100000 in
theorem v_QreadNumber (l : Launch) (D : va_G) (dA : Nat → ClassId) (sz : Nat) (h : Nat) (ad : Nat → Nat) (x : VS) (hq : x.qtp = x.tpA) (h2 : x.qlen ≤ x.tpN) (h3 : x.tpN ≤ 131072) (h1 : x.qst ≤ x.qlen) : Met l ⟨"SeriesVault$Question", "readNumber", "()I"⟩ [Cond.code ⟨"SeriesVault$Question", "readNumber", "()I"⟩ prog_6_method_22_code 4 (some FieldType.int)] { frames := 2, cells := 0, slots := 0, locals := 20 } (pC D dA [.ref (ad 22)] (VW dA h ad x) sz) (va_Qi (fun (r9 : Int32) (u9 : Nat) => r9 = nuK x.tape x.qst u9 ∧ whE isDg x.tape x.qlen x.qst = x.qst + u9) (fun (u9 : Nat) t9 => bW D (va_A (VW dA h ad x) sz) (VW dA h ad (VS.s_qnum (VS.s_qen x (x.qst + u9)) (nuV x.tape x.qst u9))) t9) (va_A (VW dA h ad x) sz)) 0 0 (va_A (VW dA h ad x) sz) := by
  refine mkC (y := ⟨"SeriesVault$Question", "readNumber", "()I"⟩) (cc := prog_6_method_22_code) (maxL := 4) (av := [.ref (ad 22)]) (ws := VW dA h ad x) (sz := sz) (Qc := fun A => va_Qi (fun (r9 : Int32) (u9 : Nat) => r9 = nuK x.tape x.qst u9 ∧ whE isDg x.tape x.qlen x.qst = x.qst + u9) (fun (u9 : Nat) t9 => bW D A (VW dA h ad (VS.s_qnum (VS.s_qen x (x.qst + u9)) (nuV x.tape x.qst u9))) t9) A) (by decide) (Nat.le_of_ble_eq_true rfl) ?_
  intro A p e s m below meth c ls hsz hB
  obtain ⟨hx, hb, hr, hml, hown, hin, hlk, hE, hK, hP, hD, hS, hA, hN, hl⟩ := hB
  have hown : s.vm.findClass "SeriesVault$Question" = some m.cls := hown
  have hl : lv_has ls 4 [(0, .ref (ad 22))] := hl
  obtain ⟨H, hH⟩ : ∃ z, z = s.heap := ⟨_, rfl⟩
  have hP : va_P D vwCl (VW dA h ad x) H := by rw [hH]; exact hP
  have hS : va_S A s.heap H [] := by rw [hH]; exact hS
  rw [← hH]
  refine lv_aload_n hx hb d_Q_readNumber_0 rfl (lv_at hl 0 rfl) ?_
  refine lv_lconst (v := 0) hx hb d_Q_readNumber_1 (by decide) ?_
  refine pF (v := .long 0) hx hb hown hE hK hP hD hS 36 rfl rfl layQ tyQ tokQ nmQ 5 (by decide) w1560 rfl rfl rfl (Nat.le_of_ble_eq_true rfl) d_Q_readNumber_2 (fun H locs hP hD hS => ?_)
  have hP : va_P D vwCl (VW dA h ad (VS.s_qnum x 0)) H := hP
  have hD : va_D A (VW dA h ad (VS.s_qnum x 0)) := hD
  refine lv_aload_n hx hb d_Q_readNumber_5 rfl (lv_at hl 0 rfl) ?_
  refine gF (v := .int (nI x.qst)) hx hb hown hE hK hP 36 rfl rfl layQ 3 (by decide) w662 rfl d_Q_readNumber_6 ?_
  refine lv_istore_n hx hb d_Q_readNumber_9 rfl hl (by decide) rfl (fun ls hl => ?_)
  have hl : lv_has ls 4 [(1, .int (nI x.qst)), (0, .ref (ad 22))] := hl
  refine lv_iconst (v := 0) hx hb d_Q_readNumber_10 (by decide) ?_
  refine lv_istore_n hx hb d_Q_readNumber_11 rfl hl (by decide) rfl (fun ls hl => ?_)
  have hl : lv_has ls 4 [(2, .int 0), (1, .int (nI x.qst)), (0, .ref (ad 22))] := hl
  have L12 : ∀ (k9 : Nat) (k : Nat) (g : Bool) (i1 : x.qst + k ≤ x.qlen) (i2 : whE isDg x.tape x.qlen (x.qst + k) = whE isDg x.tape x.qlen x.qst) (i3 : g = nuO x.tape x.qst k) (hk9 : x.qlen - (x.qst + k) = k9), ∀ (H : Heap) (locs : List Loc) (ls : Array Slot) (hP : va_P D vwCl (VW dA h ad (VS.s_qnum x (nuV x.tape x.qst k))) H) (hD : va_D A (VW dA h ad (VS.s_qnum x (nuV x.tape x.qst k)))) (hS : va_S A s.heap H locs) (hl : lv_has ls 4 [(1, .int (nI (x.qst + k))), (2, .int (bI g)), (0, .ref (ad 22))]), W p l e ({ frames := 2, cells := 0, slots := 0, locals := 20 } : Room) s m ([.ref (ad 22)] : List Value).toArray below meth c H locs 0 0 (MQ below (va_Qi (fun (r9 : Int32) (u9 : Nat) => r9 = nuK x.tape x.qst u9 ∧ whE isDg x.tape x.qlen x.qst = x.qst + u9) (fun (u9 : Nat) t9 => bW D A (VW dA h ad (VS.s_qnum (VS.s_qen x (x.qst + u9)) (nuV x.tape x.qst u9))) t9) A) ([.ref (ad 22)] : List Value).toArray s 0 0 A) (F0 m 12 ls []) := by
    intro k9
    induction k9 using Nat.strongRecOn with
    | ind k9 ih12 =>
      intro k g i1 i2 i3 hk9 H locs ls hP hD hS hl
      refine lv_iload_n hx hb d_Q_readNumber_12 rfl (lv_at hl 0 rfl) ?_
      refine lv_aload_n hx hb d_Q_readNumber_13 rfl (lv_at hl 2 rfl) ?_
      refine gF (v := .int (nI x.qlen)) hx hb hown hE hK hP 36 rfl rfl layQ 1 (by decide) w661 rfl d_Q_readNumber_14 ?_
      refine lv_icmp_ge hx hb d_Q_readNumber_17 (tgt := 91) rfl (fun g1 => ?_) (fun g1 => ?_)
      · have g1 := (nI_leI (a := x.qlen) (b := x.qst + k) (by omega) (by omega)).mp g1
        refine lv_aload_n hx hb d_Q_readNumber_91 rfl (lv_at hl 2 rfl) ?_
        refine lv_iload_n hx hb d_Q_readNumber_92 rfl (lv_at hl 0 rfl) ?_
        refine pF (v := .int (nI (x.qst + k))) hx hb hown hE hK hP hD hS 36 rfl rfl layQ tyQ tokQ nmQ 4 (by decide) w660 rfl rfl rfl (Nat.le_of_ble_eq_true rfl) d_Q_readNumber_93 (fun H locs hP hD hS => ?_)
        have hP : va_P D vwCl (VW dA h ad (VS.s_qnum (VS.s_qen x (x.qst + k)) (nuV x.tape x.qst k))) H := hP
        have hD : va_D A (VW dA h ad (VS.s_qnum (VS.s_qen x (x.qst + k)) (nuV x.tape x.qst k))) := hD
        refine lv_iload_n hx hb d_Q_readNumber_96 rfl (lv_at hl 1 rfl) ?_
        refine lv_if_eq hx hb d_Q_readNumber_97 (tgt := 106) rfl (fun g2 => ?_) (fun g2 => ?_)
        · have g2 := bI_0 g2
          refine lv_sipush (v := 257) hx hb d_Q_readNumber_106 (by decide) ?_
          exact rfI hx hb hr hlk hS k ⟨by unfold nuK; rw [← i3, g2]; rfl, i2.symm.trans (whE_n (by omega))⟩ hP hD (Nat.le_of_ble_eq_true rfl) (Nat.le_of_ble_eq_true rfl) d_Q_readNumber_109
        · have g2 := bI_n0 g2
          refine lv_sipush (v := 263) hx hb d_Q_readNumber_100 (by decide) ?_
          refine lv_goto hx hb d_Q_readNumber_103 (tgt := 109) rfl ?_
          exact rfI hx hb hr hlk hS k ⟨by unfold nuK; rw [← i3, g2]; rfl, i2.symm.trans (whE_n (by omega))⟩ hP hD (Nat.le_of_ble_eq_true rfl) (Nat.le_of_ble_eq_true rfl) d_Q_readNumber_109
      · have g1 := mt (nI_leI (a := x.qlen) (b := x.qst + k) (by omega) (by omega)).mpr g1
        refine lv_aload_n hx hb d_Q_readNumber_20 rfl (lv_at hl 2 rfl) ?_
        refine gF (v := .ref x.qtp) hx hb hown hE hK hP 36 rfl rfl layQ 0 (by decide) w677 rfl d_Q_readNumber_21 ?_
        rw [hq]
        refine lv_iload_n hx hb d_Q_readNumber_24 rfl (lv_at hl 0 rfl) ?_
        refine nbld (f := x.tape) (n := x.tpN) hx hb hK hP (1) 0 rfl rfl (x.qst + k) (by omega) (by omega) d_Q_readNumber_25 ?_
        have hPc := hP.sub (ws' := []) [] rfl
        have hDc := hD.sub (ws' := []) [] (by decide) rfl
        refine jpI (rnS (As := [.int (x.tape (x.qst + k))]) (rest := []) hx hb hml hown hE hK (hN _ _ hS) hPc hDc (v_QisDigit l D dA H.size (x.tape (x.qst + k))) w1562 w1561 w1563 w665 rfl rfl ⟨⟨by decide, by decide⟩, rfl⟩ ⟨(Nat.le_of_ble_eq_true rfl), (Nat.le_of_ble_eq_true rfl)⟩ rfl hl.1 rfl (Nat.le_of_ble_eq_true rfl) d_Q_readNumber_26 ⟨(Nat.le_of_ble_eq_true rfl), (Nat.le_of_ble_eq_true rfl)⟩) hP hD hS hA (fun r3 u9 H locs hp9 hP hD hS => ?_)
        have hP : va_P D vwCl (VW dA h ad (VS.s_qnum x (nuV x.tape x.qst k))) H := hP
        have hD : va_D A (VW dA h ad (VS.s_qnum x (nuV x.tape x.qst k))) := hD
        replace hp9 : bI (isDg (x.tape (x.qst + k))) = r3 := Eq.symm hp9
        subst hp9
        refine lv_if_eq hx hb d_Q_readNumber_29 (tgt := 91) rfl (fun g5 => ?_) (fun g5 => ?_)
        · have g5 := bI_0 g5
          refine lv_aload_n hx hb d_Q_readNumber_91 rfl (lv_at hl 2 rfl) ?_
          refine lv_iload_n hx hb d_Q_readNumber_92 rfl (lv_at hl 0 rfl) ?_
          refine pF (v := .int (nI (x.qst + k))) hx hb hown hE hK hP hD hS 36 rfl rfl layQ tyQ tokQ nmQ 4 (by decide) w660 rfl rfl rfl (Nat.le_of_ble_eq_true rfl) d_Q_readNumber_93 (fun H locs hP hD hS => ?_)
          have hP : va_P D vwCl (VW dA h ad (VS.s_qnum (VS.s_qen x (x.qst + k)) (nuV x.tape x.qst k))) H := hP
          have hD : va_D A (VW dA h ad (VS.s_qnum (VS.s_qen x (x.qst + k)) (nuV x.tape x.qst k))) := hD
          refine lv_iload_n hx hb d_Q_readNumber_96 rfl (lv_at hl 1 rfl) ?_
          refine lv_if_eq hx hb d_Q_readNumber_97 (tgt := 106) rfl (fun g6 => ?_) (fun g6 => ?_)
          · have g6 := bI_0 g6
            refine lv_sipush (v := 257) hx hb d_Q_readNumber_106 (by decide) ?_
            exact rfI hx hb hr hlk hS k ⟨by unfold nuK; rw [← i3, g6]; rfl, i2.symm.trans (whE_f g5)⟩ hP hD (Nat.le_of_ble_eq_true rfl) (Nat.le_of_ble_eq_true rfl) d_Q_readNumber_109
          · have g6 := bI_n0 g6
            refine lv_sipush (v := 263) hx hb d_Q_readNumber_100 (by decide) ?_
            refine lv_goto hx hb d_Q_readNumber_103 (tgt := 109) rfl ?_
            exact rfI hx hb hr hlk hS k ⟨by unfold nuK; rw [← i3, g6]; rfl, i2.symm.trans (whE_f g5)⟩ hP hD (Nat.le_of_ble_eq_true rfl) (Nat.le_of_ble_eq_true rfl) d_Q_readNumber_109
        · have g5 := bI_n0 g5
          refine lv_aload_n hx hb d_Q_readNumber_32 rfl (lv_at hl 2 rfl) ?_
          refine gF (v := .ref x.qtp) hx hb hown hE hK hP 36 rfl rfl layQ 0 (by decide) w677 rfl d_Q_readNumber_33 ?_
          rw [hq]
          refine lv_iload_n hx hb d_Q_readNumber_36 rfl (lv_at hl 0 rfl) ?_
          refine nbld (f := x.tape) (n := x.tpN) hx hb hK hP (1) 0 rfl rfl (x.qst + k) (by omega) (by omega) d_Q_readNumber_37 ?_
          refine lv_bipush (v := 48) hx hb d_Q_readNumber_38 (by decide) ?_
          refine lv_isub hx hb d_Q_readNumber_40 ?_
          refine lv_istore_n hx hb d_Q_readNumber_41 rfl hl (by decide) rfl (fun ls hl => ?_)
          have hl : lv_has ls 4 [(3, .int ((x.tape (x.qst + k)) - 48)), (1, .int (nI (x.qst + k))), (2, .int (bI g)), (0, .ref (ad 22))] := hl
          refine lv_iload_n hx hb d_Q_readNumber_42 rfl (lv_at hl 2 rfl) ?_
          refine lv_if_ne hx hb d_Q_readNumber_43 (tgt := 64) rfl (fun g7 => ?_) (fun g7 => ?_)
          · have g7 := bI_n0 g7
            refine lv_iconst (v := 1) hx hb d_Q_readNumber_64 (by decide) ?_
            refine lv_goto hx hb d_Q_readNumber_65 (tgt := 69) rfl ?_
            refine lv_istore_n hx hb d_Q_readNumber_69 rfl hl (by decide) rfl (fun ls hl => ?_)
            have hl : lv_has ls 4 [(2, .int 1), (3, .int ((x.tape (x.qst + k)) - 48)), (1, .int (nI (x.qst + k))), (0, .ref (ad 22))] := hl
            refine lv_aload_n hx hb d_Q_readNumber_70 rfl (lv_at hl 3 rfl) ?_
            refine lv_ldc2 (v := 10) hx hb hown (hE.t w1564 rfl) d_Q_readNumber_71 ?_
            refine lv_aload_n hx hb d_Q_readNumber_74 rfl (lv_at hl 3 rfl) ?_
            refine gF (v := .long (nuV x.tape x.qst k)) hx hb hown hE hK hP 36 rfl rfl layQ 5 (by decide) w1560 rfl d_Q_readNumber_75 ?_
            refine lv_lmul hx hb d_Q_readNumber_78 ?_
            refine lv_iload_n hx hb d_Q_readNumber_79 rfl (lv_at hl 1 rfl) ?_
            refine lv_i2l hx hb d_Q_readNumber_80 rfl ?_
            refine lv_ladd hx hb d_Q_readNumber_81 ?_
            refine pF (v := .long ((10 * (nuV x.tape x.qst k)) + (((x.tape (x.qst + k)) - 48).toInt64))) hx hb hown hE hK hP hD hS 36 rfl rfl layQ tyQ tokQ nmQ 5 (by decide) w1560 rfl rfl rfl (Nat.le_of_ble_eq_true rfl) d_Q_readNumber_82 (fun H locs hP hD hS => ?_)
            have hP : va_P D vwCl (VW dA h ad (VS.s_qnum x ((10 * (nuV x.tape x.qst k)) + (((x.tape (x.qst + k)) - 48).toInt64)))) H := hP
            have hD : va_D A (VW dA h ad (VS.s_qnum x ((10 * (nuV x.tape x.qst k)) + (((x.tape (x.qst + k)) - 48).toInt64)))) := hD
            refine lv_iinc (k := 2) (v := nI (x.qst + k + 1)) hx hb d_Q_readNumber_85 hl rfl (iincN (x.qst + k) 1 1 (by decide)) (by decide) rfl (fun ls hl => ?_)
            have hl : lv_has ls 4 [(1, .int (nI (x.qst + k + 1))), (2, .int 1), (3, .int ((x.tape (x.qst + k)) - 48)), (0, .ref (ad 22))] := hl
            refine lv_goto hx hb d_Q_readNumber_88 (tgt := 12) rfl ?_
            exact ih12 _ (by omega) (k + 1) true (by omega) ((whE_t (by omega) g5).symm.trans i2) (by show true = (nuO x.tape x.qst k || decide ((9223372036854775807 - (x.tape (x.qst + k) - 48).toInt64) / 10 < nuV x.tape x.qst k)); rw [← i3, g7]; rfl) rfl H _ ls hP hD hS (lv_sub hl [0, 1, 3] rfl)
          · have g7 := bI_0 g7
            refine lv_aload_n hx hb d_Q_readNumber_46 rfl (lv_at hl 3 rfl) ?_
            refine gF (v := .long (nuV x.tape x.qst k)) hx hb hown hE hK hP 36 rfl rfl layQ 5 (by decide) w1560 rfl d_Q_readNumber_47 ?_
            refine lv_ldc2 (v := 9223372036854775807) hx hb hown (hE.t w1565 rfl) d_Q_readNumber_50 ?_
            refine lv_iload_n hx hb d_Q_readNumber_53 rfl (lv_at hl 0 rfl) ?_
            refine lv_i2l hx hb d_Q_readNumber_54 rfl ?_
            refine lv_lsub hx hb d_Q_readNumber_55 ?_
            refine lv_ldc2 (v := 10) hx hb hown (hE.t w1564 rfl) d_Q_readNumber_56 ?_
            refine lv_ldiv hx hb d_Q_readNumber_59 (by decide) ?_
            refine W.lcmp hx hb d_Q_readNumber_60 ?_
            refine lv_if_le hx hb d_Q_readNumber_61 (tgt := 68) rfl (fun g8 => ?_) (fun g8 => ?_)
            · have g8 := (lg_cmp_le _ _).mp g8
              refine lv_iconst (v := 0) hx hb d_Q_readNumber_68 (by decide) ?_
              refine lv_istore_n hx hb d_Q_readNumber_69 rfl hl (by decide) rfl (fun ls hl => ?_)
              have hl : lv_has ls 4 [(2, .int 0), (3, .int ((x.tape (x.qst + k)) - 48)), (1, .int (nI (x.qst + k))), (0, .ref (ad 22))] := hl
              refine lv_aload_n hx hb d_Q_readNumber_70 rfl (lv_at hl 3 rfl) ?_
              refine lv_ldc2 (v := 10) hx hb hown (hE.t w1564 rfl) d_Q_readNumber_71 ?_
              refine lv_aload_n hx hb d_Q_readNumber_74 rfl (lv_at hl 3 rfl) ?_
              refine gF (v := .long (nuV x.tape x.qst k)) hx hb hown hE hK hP 36 rfl rfl layQ 5 (by decide) w1560 rfl d_Q_readNumber_75 ?_
              refine lv_lmul hx hb d_Q_readNumber_78 ?_
              refine lv_iload_n hx hb d_Q_readNumber_79 rfl (lv_at hl 1 rfl) ?_
              refine lv_i2l hx hb d_Q_readNumber_80 rfl ?_
              refine lv_ladd hx hb d_Q_readNumber_81 ?_
              refine pF (v := .long ((10 * (nuV x.tape x.qst k)) + (((x.tape (x.qst + k)) - 48).toInt64))) hx hb hown hE hK hP hD hS 36 rfl rfl layQ tyQ tokQ nmQ 5 (by decide) w1560 rfl rfl rfl (Nat.le_of_ble_eq_true rfl) d_Q_readNumber_82 (fun H locs hP hD hS => ?_)
              have hP : va_P D vwCl (VW dA h ad (VS.s_qnum x ((10 * (nuV x.tape x.qst k)) + (((x.tape (x.qst + k)) - 48).toInt64)))) H := hP
              have hD : va_D A (VW dA h ad (VS.s_qnum x ((10 * (nuV x.tape x.qst k)) + (((x.tape (x.qst + k)) - 48).toInt64)))) := hD
              refine lv_iinc (k := 2) (v := nI (x.qst + k + 1)) hx hb d_Q_readNumber_85 hl rfl (iincN (x.qst + k) 1 1 (by decide)) (by decide) rfl (fun ls hl => ?_)
              have hl : lv_has ls 4 [(1, .int (nI (x.qst + k + 1))), (2, .int 0), (3, .int ((x.tape (x.qst + k)) - 48)), (0, .ref (ad 22))] := hl
              refine lv_goto hx hb d_Q_readNumber_88 (tgt := 12) rfl ?_
              exact ih12 _ (by omega) (k + 1) false (by omega) ((whE_t (by omega) g5).symm.trans i2) (by show _ = (nuO x.tape x.qst k || decide ((9223372036854775807 - (x.tape (x.qst + k) - 48).toInt64) / 10 < nuV x.tape x.qst k)); rw [← i3, g7]; exact (decide_eq_false (Int64.not_lt.mpr g8)).symm) rfl H _ ls hP hD hS (lv_sub hl [0, 1, 3] rfl)
            · have g8 := mt (lg_cmp_le _ _).mpr g8
              refine lv_iconst (v := 1) hx hb d_Q_readNumber_64 (by decide) ?_
              refine lv_goto hx hb d_Q_readNumber_65 (tgt := 69) rfl ?_
              refine lv_istore_n hx hb d_Q_readNumber_69 rfl hl (by decide) rfl (fun ls hl => ?_)
              have hl : lv_has ls 4 [(2, .int 1), (3, .int ((x.tape (x.qst + k)) - 48)), (1, .int (nI (x.qst + k))), (0, .ref (ad 22))] := hl
              refine lv_aload_n hx hb d_Q_readNumber_70 rfl (lv_at hl 3 rfl) ?_
              refine lv_ldc2 (v := 10) hx hb hown (hE.t w1564 rfl) d_Q_readNumber_71 ?_
              refine lv_aload_n hx hb d_Q_readNumber_74 rfl (lv_at hl 3 rfl) ?_
              refine gF (v := .long (nuV x.tape x.qst k)) hx hb hown hE hK hP 36 rfl rfl layQ 5 (by decide) w1560 rfl d_Q_readNumber_75 ?_
              refine lv_lmul hx hb d_Q_readNumber_78 ?_
              refine lv_iload_n hx hb d_Q_readNumber_79 rfl (lv_at hl 1 rfl) ?_
              refine lv_i2l hx hb d_Q_readNumber_80 rfl ?_
              refine lv_ladd hx hb d_Q_readNumber_81 ?_
              refine pF (v := .long ((10 * (nuV x.tape x.qst k)) + (((x.tape (x.qst + k)) - 48).toInt64))) hx hb hown hE hK hP hD hS 36 rfl rfl layQ tyQ tokQ nmQ 5 (by decide) w1560 rfl rfl rfl (Nat.le_of_ble_eq_true rfl) d_Q_readNumber_82 (fun H locs hP hD hS => ?_)
              have hP : va_P D vwCl (VW dA h ad (VS.s_qnum x ((10 * (nuV x.tape x.qst k)) + (((x.tape (x.qst + k)) - 48).toInt64)))) H := hP
              have hD : va_D A (VW dA h ad (VS.s_qnum x ((10 * (nuV x.tape x.qst k)) + (((x.tape (x.qst + k)) - 48).toInt64)))) := hD
              refine lv_iinc (k := 2) (v := nI (x.qst + k + 1)) hx hb d_Q_readNumber_85 hl rfl (iincN (x.qst + k) 1 1 (by decide)) (by decide) rfl (fun ls hl => ?_)
              have hl : lv_has ls 4 [(1, .int (nI (x.qst + k + 1))), (2, .int 1), (3, .int ((x.tape (x.qst + k)) - 48)), (0, .ref (ad 22))] := hl
              refine lv_goto hx hb d_Q_readNumber_88 (tgt := 12) rfl ?_
              exact ih12 _ (by omega) (k + 1) true (by omega) ((whE_t (by omega) g5).symm.trans i2) (by show _ = (nuO x.tape x.qst k || decide ((9223372036854775807 - (x.tape (x.qst + k) - 48).toInt64) / 10 < nuV x.tape x.qst k)); rw [← i3, g7]; exact (decide_eq_true (Int64.not_le.mp g8)).symm) rfl H _ ls hP hD hS (lv_sub hl [0, 1, 3] rfl)
  exact L12 _ 0 false (by omega) rfl rfl rfl H _ ls hP hD hS (lv_sub hl [1, 0, 2] rfl)
