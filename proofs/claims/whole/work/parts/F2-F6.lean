section
/-! The class's tokens: the tape f, its length n. -/
def whG (P : Int32 → Bool) (f : Nat → Int32) (n : Nat) : Nat → Nat → Nat
  | 0, q => q
  | w + 1, q => if q < n ∧ P (f q) = true then whG P f n w (q + 1) else q
/-- the first place from q on whose byte is none of P's, or the end -/
def whE (P : Int32 → Bool) (f : Nat → Int32) (n q : Nat) : Nat := whG P f n (n - q) q
theorem whE_t {P : Int32 → Bool} {f : Nat → Int32} {n q : Nat} (h : q < n) (h2 : P (f q) = true) : whE P f n q = whE P f n (q + 1) := by
  unfold whE
  obtain ⟨d, e⟩ : ∃ d, n - q = d + 1 := ⟨n - q - 1, by omega⟩
  rw [e, show n - (q + 1) = d by omega]
  exact if_pos ⟨h, h2⟩
theorem whE_n {P : Int32 → Bool} {f : Nat → Int32} {n q : Nat} (h : n ≤ q) : whE P f n q = q := by
  unfold whE
  rw [show n - q = 0 by omega]
  rfl
theorem whE_f {P : Int32 → Bool} {f : Nat → Int32} {n q : Nat} (h2 : P (f q) = false) : whE P f n q = q := by
  unfold whE
  cases e : n - q with
  | zero => rfl
  | succ d => exact if_neg (fun z => by rw [h2] at z; exact absurd z.2 (by decide))
theorem whG_in {P : Int32 → Bool} {f : Nat → Int32} {n : Nat} : ∀ {w q : Nat}, q ≤ n → q ≤ whG P f n w q ∧ whG P f n w q ≤ n
  | 0, q, h => ⟨Nat.le_refl q, h⟩
  | w + 1, q, h => by
    show q ≤ (if q < n ∧ P (f q) = true then whG P f n w (q + 1) else q) ∧ (if q < n ∧ P (f q) = true then whG P f n w (q + 1) else q) ≤ n
    split
    · rename_i g
      have := whG_in (P := P) (f := f) (n := n) (w := w) (q := q + 1) (by omega)
      omega
    · exact ⟨Nat.le_refl q, h⟩
theorem whE_in {P : Int32 → Bool} {f : Nat → Int32} {n q : Nat} (h : q ≤ n) : q ≤ whE P f n q ∧ whE P f n q ≤ n := whG_in h
def isSp (z : Int32) : Bool := decide (z = 32)
def isTv (z : Int32) : Bool := !decide (z = 34) && (!decide (z < 32) && !decide (126 < z))
/-- k digits from q on as a number, and whether it grew too large -/
def nuV (f : Nat → Int32) (q : Nat) : Nat → Int64
  | 0 => 0
  | k + 1 => 10 * nuV f q k + (f (q + k) - 48).toInt64
def nuO (f : Nat → Int32) (q : Nat) : Nat → Bool
  | 0 => false
  | k + 1 => nuO f q k || decide ((9223372036854775807 - (f (q + k) - 48).toInt64) / 10 < nuV f q k)
/-- a sign: its kind, its length -/
def sgV (z y : Int32) : Int32 × Nat :=
  if z = 33 then (if y = 61 then (260, 2) else if y = 94 then (262, 2) else (263, 1)) else
  if z = 94 then (if y = 61 then (261, 2) else (263, 1)) else
  if z = 37 ∨ z = 40 ∨ z = 41 ∨ z = 42 ∨ z = 43 ∨ z = 44 ∨ z = 45 ∨ z = 47 ∨ z = 61 ∨ z = 123 ∨ z = 125 then (z, 1) else (263, 1)
/-- the byte at q, 0 behind the end -/
def atV (f : Nat → Int32) (n q : Nat) : Int32 := if q < n then f q else 0
theorem atV_t {f : Nat → Int32} {n q : Nat} (h : q < n) : atV f n q = f q := if_pos h
theorem atV_f {f : Nat → Int32} {n q : Nat} (h : n ≤ q) : atV f n q = 0 := if_neg (by omega)
def nuK (f : Nat → Int32) (q k : Nat) : Int32 := if nuO f q k = true then 263 else 257
/-- a text read: its kind, its end -/
def tvK (f : Nat → Int32) (n q : Nat) : Int32 := if atV f n (whE isTv f n (q + 1)) = 34 then 259 else 263
def tvN (f : Nat → Int32) (n q e : Nat) : Nat := if atV f n (whE isTv f n (q + 1)) = 34 then whE isTv f n (q + 1) + 1 else e
theorem tvK_y {f : Nat → Int32} {n q : Nat} (h : atV f n (whE isTv f n (q + 1)) = 34) : tvK f n q = 259 := if_pos h
theorem tvK_n {f : Nat → Int32} {n q : Nat} (h : ¬ atV f n (whE isTv f n (q + 1)) = 34) : tvK f n q = 263 := if_neg h
theorem tvN_y {f : Nat → Int32} {n q e : Nat} (h : atV f n (whE isTv f n (q + 1)) = 34) : tvN f n q e = whE isTv f n (q + 1) + 1 := if_pos h
theorem tvN_n {f : Nat → Int32} {n q e : Nat} (h : ¬ atV f n (whE isTv f n (q + 1)) = 34) : tvN f n q e = e := if_neg h
theorem d_Q_isDigit_0 : decode prog_6_method_20_code 0 = .ok (.iload_n 0, 1) := by decide +kernel
theorem d_Q_isDigit_1 : decode prog_6_method_20_code 1 = .ok (.bipush 48, 2) := by decide +kernel
theorem d_Q_isDigit_3 : decode prog_6_method_20_code 3 = .ok (.if_icmp .lt 13, 3) := by decide +kernel
theorem d_Q_isDigit_16 : decode prog_6_method_20_code 16 = .ok (.iconst 0, 1) := by decide +kernel
theorem d_Q_isDigit_17 : decode prog_6_method_20_code 17 = .ok (.ireturn, 1) := by decide +kernel
theorem d_Q_isDigit_6 : decode prog_6_method_20_code 6 = .ok (.iload_n 0, 1) := by decide +kernel
theorem d_Q_isDigit_7 : decode prog_6_method_20_code 7 = .ok (.bipush 57, 2) := by decide +kernel
theorem d_Q_isDigit_9 : decode prog_6_method_20_code 9 = .ok (.if_icmp .gt 7, 3) := by decide +kernel
theorem d_Q_isDigit_12 : decode prog_6_method_20_code 12 = .ok (.iconst 1, 1) := by decide +kernel
theorem d_Q_isDigit_13 : decode prog_6_method_20_code 13 = .ok (.goto 4, 3) := by decide +kernel
set_option maxHeartbeats 4000000 in
set_option maxRecDepth 100000 in
theorem v_QisDigit (l : Launch) (D : va_G) (dA : Nat → ClassId) (sz : Nat) (z : Int32) : Met l ⟨"SeriesVault$Question", "isDigit", "(I)Z"⟩ [Cond.code ⟨"SeriesVault$Question", "isDigit", "(I)Z"⟩ prog_6_method_20_code 1 (some FieldType.boolean)] { frames := 1, cells := 0, slots := 0, locals := 0 } (pC D dA [.int z] ([]) sz) (va_Qi (fun (r9 : Int32) (u9 : Unit) => r9 = bI (isDg z)) (fun (u9 : Unit) t9 => bW D (va_A ([]) sz) ([]) t9) (va_A ([]) sz)) 0 0 (va_A ([]) sz) := by
  refine mkC (y := ⟨"SeriesVault$Question", "isDigit", "(I)Z"⟩) (cc := prog_6_method_20_code) (maxL := 1) (av := [.int z]) (ws := []) (sz := sz) (Qc := fun A => va_Qi (fun (r9 : Int32) (u9 : Unit) => r9 = bI (isDg z)) (fun (u9 : Unit) t9 => bW D A ([]) t9) A) (by decide) (Nat.le_of_ble_eq_true rfl) ?_
  intro A p e s m below meth c ls hsz hB
  obtain ⟨hx, hb, hr, hml, hown, hin, hlk, hE, hK, hP, hD, hS, hA, hN, hl⟩ := hB
  have hown : s.vm.findClass "SeriesVault$Question" = some m.cls := hown
  have hl : lv_has ls 1 [(0, .int z)] := hl
  obtain ⟨H, hH⟩ : ∃ z, z = s.heap := ⟨_, rfl⟩
  have hP : va_P D vwCl ([]) H := by rw [hH]; exact hP
  have hS : va_S A s.heap H [] := by rw [hH]; exact hS
  rw [← hH]
  refine lv_iload_n hx hb d_Q_isDigit_0 rfl (lv_at hl 0 rfl) ?_
  refine lv_bipush (v := 48) hx hb d_Q_isDigit_1 (by decide) ?_
  refine lv_icmp_lt hx hb d_Q_isDigit_3 (tgt := 16) rfl (fun g1 => ?_) (fun g1 => ?_)
  · have g1 := g1
    refine lv_iconst (v := 0) hx hb d_Q_isDigit_16 (by decide) ?_
    exact rfZ hx hb hr (bI_nar false) hlk hS () (by simp [isDg, bI, *]) hP hD (Nat.le_of_ble_eq_true rfl) (Nat.le_of_ble_eq_true rfl) d_Q_isDigit_17
  · have g1 := g1
    refine lv_iload_n hx hb d_Q_isDigit_6 rfl (lv_at hl 0 rfl) ?_
    refine lv_bipush (v := 57) hx hb d_Q_isDigit_7 (by decide) ?_
    refine lv_icmp_gt hx hb d_Q_isDigit_9 (tgt := 16) rfl (fun g2 => ?_) (fun g2 => ?_)
    · have g2 := g2
      refine lv_iconst (v := 0) hx hb d_Q_isDigit_16 (by decide) ?_
      exact rfZ hx hb hr (bI_nar false) hlk hS () (by simp [isDg, bI, *]) hP hD (Nat.le_of_ble_eq_true rfl) (Nat.le_of_ble_eq_true rfl) d_Q_isDigit_17
    · have g2 := g2
      refine lv_iconst (v := 1) hx hb d_Q_isDigit_12 (by decide) ?_
      refine lv_goto hx hb d_Q_isDigit_13 (tgt := 17) rfl ?_
      exact rfZ hx hb hr (bI_nar true) hlk hS () (by simp [isDg, bI, *]) hP hD (Nat.le_of_ble_eq_true rfl) (Nat.le_of_ble_eq_true rfl) d_Q_isDigit_17
theorem d_Q_isOfName_0 : decode prog_6_method_21_code 0 = .ok (.iload_n 0, 1) := by decide +kernel
theorem d_Q_isOfName_1 : decode prog_6_method_21_code 1 = .ok (.bipush 97, 2) := by decide +kernel
theorem d_Q_isOfName_3 : decode prog_6_method_21_code 3 = .ok (.if_icmp .lt 9, 3) := by decide +kernel
theorem d_Q_isOfName_12 : decode prog_6_method_21_code 12 = .ok (.iload_n 0, 1) := by decide +kernel
theorem d_Q_isOfName_13 : decode prog_6_method_21_code 13 = .ok (.bipush 65, 2) := by decide +kernel
theorem d_Q_isOfName_15 : decode prog_6_method_21_code 15 = .ok (.if_icmp .lt 9, 3) := by decide +kernel
theorem d_Q_isOfName_24 : decode prog_6_method_21_code 24 = .ok (.iload_n 0, 1) := by decide +kernel
theorem d_Q_isOfName_25 : decode prog_6_method_21_code 25 = .ok (.bipush 48, 2) := by decide +kernel
theorem d_Q_isOfName_27 : decode prog_6_method_21_code 27 = .ok (.if_icmp .lt 9, 3) := by decide +kernel
theorem d_Q_isOfName_36 : decode prog_6_method_21_code 36 = .ok (.iload_n 0, 1) := by decide +kernel
theorem d_Q_isOfName_37 : decode prog_6_method_21_code 37 = .ok (.bipush 95, 2) := by decide +kernel
theorem d_Q_isOfName_39 : decode prog_6_method_21_code 39 = .ok (.if_icmp .ne 7, 3) := by decide +kernel
theorem d_Q_isOfName_46 : decode prog_6_method_21_code 46 = .ok (.iconst 0, 1) := by decide +kernel
theorem d_Q_isOfName_47 : decode prog_6_method_21_code 47 = .ok (.ireturn, 1) := by decide +kernel
theorem d_Q_isOfName_42 : decode prog_6_method_21_code 42 = .ok (.iconst 1, 1) := by decide +kernel
theorem d_Q_isOfName_43 : decode prog_6_method_21_code 43 = .ok (.goto 4, 3) := by decide +kernel
theorem d_Q_isOfName_30 : decode prog_6_method_21_code 30 = .ok (.iload_n 0, 1) := by decide +kernel
theorem d_Q_isOfName_31 : decode prog_6_method_21_code 31 = .ok (.bipush 57, 2) := by decide +kernel
theorem d_Q_isOfName_33 : decode prog_6_method_21_code 33 = .ok (.if_icmp .le 9, 3) := by decide +kernel
theorem d_Q_isOfName_18 : decode prog_6_method_21_code 18 = .ok (.iload_n 0, 1) := by decide +kernel
theorem d_Q_isOfName_19 : decode prog_6_method_21_code 19 = .ok (.bipush 90, 2) := by decide +kernel
theorem d_Q_isOfName_21 : decode prog_6_method_21_code 21 = .ok (.if_icmp .le 21, 3) := by decide +kernel
theorem d_Q_isOfName_6 : decode prog_6_method_21_code 6 = .ok (.iload_n 0, 1) := by decide +kernel
theorem d_Q_isOfName_7 : decode prog_6_method_21_code 7 = .ok (.bipush 122, 2) := by decide +kernel
theorem d_Q_isOfName_9 : decode prog_6_method_21_code 9 = .ok (.if_icmp .le 33, 3) := by decide +kernel
set_option maxHeartbeats 4000000 in
set_option maxRecDepth 100000 in
theorem v_QisOfName (l : Launch) (D : va_G) (dA : Nat → ClassId) (sz : Nat) (z : Int32) : Met l ⟨"SeriesVault$Question", "isOfName", "(I)Z"⟩ [Cond.code ⟨"SeriesVault$Question", "isOfName", "(I)Z"⟩ prog_6_method_21_code 1 (some FieldType.boolean)] { frames := 1, cells := 0, slots := 0, locals := 0 } (pC D dA [.int z] ([]) sz) (va_Qi (fun (r9 : Int32) (u9 : Unit) => r9 = bI (isNm z)) (fun (u9 : Unit) t9 => bW D (va_A ([]) sz) ([]) t9) (va_A ([]) sz)) 0 0 (va_A ([]) sz) := by
  refine mkC (y := ⟨"SeriesVault$Question", "isOfName", "(I)Z"⟩) (cc := prog_6_method_21_code) (maxL := 1) (av := [.int z]) (ws := []) (sz := sz) (Qc := fun A => va_Qi (fun (r9 : Int32) (u9 : Unit) => r9 = bI (isNm z)) (fun (u9 : Unit) t9 => bW D A ([]) t9) A) (by decide) (Nat.le_of_ble_eq_true rfl) ?_
  intro A p e s m below meth c ls hsz hB
  obtain ⟨hx, hb, hr, hml, hown, hin, hlk, hE, hK, hP, hD, hS, hA, hN, hl⟩ := hB
  have hown : s.vm.findClass "SeriesVault$Question" = some m.cls := hown
  have hl : lv_has ls 1 [(0, .int z)] := hl
  obtain ⟨H, hH⟩ : ∃ z, z = s.heap := ⟨_, rfl⟩
  have hP : va_P D vwCl ([]) H := by rw [hH]; exact hP
  have hS : va_S A s.heap H [] := by rw [hH]; exact hS
  rw [← hH]
  refine lv_iload_n hx hb d_Q_isOfName_0 rfl (lv_at hl 0 rfl) ?_
  refine lv_bipush (v := 97) hx hb d_Q_isOfName_1 (by decide) ?_
  refine lv_icmp_lt hx hb d_Q_isOfName_3 (tgt := 12) rfl (fun g1 => ?_) (fun g1 => ?_)
  · have g1 := g1
    refine lv_iload_n hx hb d_Q_isOfName_12 rfl (lv_at hl 0 rfl) ?_
    refine lv_bipush (v := 65) hx hb d_Q_isOfName_13 (by decide) ?_
    refine lv_icmp_lt hx hb d_Q_isOfName_15 (tgt := 24) rfl (fun g2 => ?_) (fun g2 => ?_)
    · have g2 := g2
      refine lv_iload_n hx hb d_Q_isOfName_24 rfl (lv_at hl 0 rfl) ?_
      refine lv_bipush (v := 48) hx hb d_Q_isOfName_25 (by decide) ?_
      refine lv_icmp_lt hx hb d_Q_isOfName_27 (tgt := 36) rfl (fun g3 => ?_) (fun g3 => ?_)
      · have g3 := g3
        refine lv_iload_n hx hb d_Q_isOfName_36 rfl (lv_at hl 0 rfl) ?_
        refine lv_bipush (v := 95) hx hb d_Q_isOfName_37 (by decide) ?_
        refine lv_icmp_ne hx hb d_Q_isOfName_39 (tgt := 46) rfl (fun g4 => ?_) (fun g4 => ?_)
        · have g4 := g4
          refine lv_iconst (v := 0) hx hb d_Q_isOfName_46 (by decide) ?_
          exact rfZ hx hb hr (bI_nar false) hlk hS () (by simp [isNm, isLt, isDg, bI, *]) hP hD (Nat.le_of_ble_eq_true rfl) (Nat.le_of_ble_eq_true rfl) d_Q_isOfName_47
        · have g4 := g4
          refine lv_iconst (v := 1) hx hb d_Q_isOfName_42 (by decide) ?_
          refine lv_goto hx hb d_Q_isOfName_43 (tgt := 47) rfl ?_
          exact rfZ hx hb hr (bI_nar true) hlk hS () (by simp [isNm, isLt, isDg, bI, *]) hP hD (Nat.le_of_ble_eq_true rfl) (Nat.le_of_ble_eq_true rfl) d_Q_isOfName_47
      · have g3 := g3
        refine lv_iload_n hx hb d_Q_isOfName_30 rfl (lv_at hl 0 rfl) ?_
        refine lv_bipush (v := 57) hx hb d_Q_isOfName_31 (by decide) ?_
        refine lv_icmp_le hx hb d_Q_isOfName_33 (tgt := 42) rfl (fun g5 => ?_) (fun g5 => ?_)
        · have g5 := g5
          refine lv_iconst (v := 1) hx hb d_Q_isOfName_42 (by decide) ?_
          refine lv_goto hx hb d_Q_isOfName_43 (tgt := 47) rfl ?_
          exact rfZ hx hb hr (bI_nar true) hlk hS () (by simp [isNm, isLt, isDg, bI, *]) hP hD (Nat.le_of_ble_eq_true rfl) (Nat.le_of_ble_eq_true rfl) d_Q_isOfName_47
        · have g5 := g5
          refine lv_iload_n hx hb d_Q_isOfName_36 rfl (lv_at hl 0 rfl) ?_
          refine lv_bipush (v := 95) hx hb d_Q_isOfName_37 (by decide) ?_
          refine lv_icmp_ne hx hb d_Q_isOfName_39 (tgt := 46) rfl (fun g6 => ?_) (fun g6 => ?_)
          · have g6 := g6
            refine lv_iconst (v := 0) hx hb d_Q_isOfName_46 (by decide) ?_
            exact rfZ hx hb hr (bI_nar false) hlk hS () (by simp [isNm, isLt, isDg, bI, *]) hP hD (Nat.le_of_ble_eq_true rfl) (Nat.le_of_ble_eq_true rfl) d_Q_isOfName_47
          · have g6 := g6
            refine lv_iconst (v := 1) hx hb d_Q_isOfName_42 (by decide) ?_
            refine lv_goto hx hb d_Q_isOfName_43 (tgt := 47) rfl ?_
            exact rfZ hx hb hr (bI_nar true) hlk hS () (by simp [isNm, isLt, isDg, bI, *]) hP hD (Nat.le_of_ble_eq_true rfl) (Nat.le_of_ble_eq_true rfl) d_Q_isOfName_47
    · have g2 := g2
      refine lv_iload_n hx hb d_Q_isOfName_18 rfl (lv_at hl 0 rfl) ?_
      refine lv_bipush (v := 90) hx hb d_Q_isOfName_19 (by decide) ?_
      refine lv_icmp_le hx hb d_Q_isOfName_21 (tgt := 42) rfl (fun g7 => ?_) (fun g7 => ?_)
      · have g7 := g7
        refine lv_iconst (v := 1) hx hb d_Q_isOfName_42 (by decide) ?_
        refine lv_goto hx hb d_Q_isOfName_43 (tgt := 47) rfl ?_
        exact rfZ hx hb hr (bI_nar true) hlk hS () (by simp [isNm, isLt, isDg, bI, *]) hP hD (Nat.le_of_ble_eq_true rfl) (Nat.le_of_ble_eq_true rfl) d_Q_isOfName_47
      · have g7 := g7
        refine lv_iload_n hx hb d_Q_isOfName_24 rfl (lv_at hl 0 rfl) ?_
        refine lv_bipush (v := 48) hx hb d_Q_isOfName_25 (by decide) ?_
        refine lv_icmp_lt hx hb d_Q_isOfName_27 (tgt := 36) rfl (fun g8 => ?_) (fun g8 => ?_)
        · have g8 := g8
          refine lv_iload_n hx hb d_Q_isOfName_36 rfl (lv_at hl 0 rfl) ?_
          refine lv_bipush (v := 95) hx hb d_Q_isOfName_37 (by decide) ?_
          refine lv_icmp_ne hx hb d_Q_isOfName_39 (tgt := 46) rfl (fun g9 => ?_) (fun g9 => ?_)
          · have g9 := g9
            refine lv_iconst (v := 0) hx hb d_Q_isOfName_46 (by decide) ?_
            exact rfZ hx hb hr (bI_nar false) hlk hS () (by simp [isNm, isLt, isDg, bI, *]) hP hD (Nat.le_of_ble_eq_true rfl) (Nat.le_of_ble_eq_true rfl) d_Q_isOfName_47
          · have g9 := g9
            refine lv_iconst (v := 1) hx hb d_Q_isOfName_42 (by decide) ?_
            refine lv_goto hx hb d_Q_isOfName_43 (tgt := 47) rfl ?_
            exact rfZ hx hb hr (bI_nar true) hlk hS () (by simp [isNm, isLt, isDg, bI, *]) hP hD (Nat.le_of_ble_eq_true rfl) (Nat.le_of_ble_eq_true rfl) d_Q_isOfName_47
        · have g8 := g8
          refine lv_iload_n hx hb d_Q_isOfName_30 rfl (lv_at hl 0 rfl) ?_
          refine lv_bipush (v := 57) hx hb d_Q_isOfName_31 (by decide) ?_
          refine lv_icmp_le hx hb d_Q_isOfName_33 (tgt := 42) rfl (fun g10 => ?_) (fun g10 => ?_)
          · have g10 := g10
            refine lv_iconst (v := 1) hx hb d_Q_isOfName_42 (by decide) ?_
            refine lv_goto hx hb d_Q_isOfName_43 (tgt := 47) rfl ?_
            exact rfZ hx hb hr (bI_nar true) hlk hS () (by simp [isNm, isLt, isDg, bI, *]) hP hD (Nat.le_of_ble_eq_true rfl) (Nat.le_of_ble_eq_true rfl) d_Q_isOfName_47
          · have g10 := g10
            refine lv_iload_n hx hb d_Q_isOfName_36 rfl (lv_at hl 0 rfl) ?_
            refine lv_bipush (v := 95) hx hb d_Q_isOfName_37 (by decide) ?_
            refine lv_icmp_ne hx hb d_Q_isOfName_39 (tgt := 46) rfl (fun g11 => ?_) (fun g11 => ?_)
            · have g11 := g11
              refine lv_iconst (v := 0) hx hb d_Q_isOfName_46 (by decide) ?_
              exact rfZ hx hb hr (bI_nar false) hlk hS () (by simp [isNm, isLt, isDg, bI, *]) hP hD (Nat.le_of_ble_eq_true rfl) (Nat.le_of_ble_eq_true rfl) d_Q_isOfName_47
            · have g11 := g11
              refine lv_iconst (v := 1) hx hb d_Q_isOfName_42 (by decide) ?_
              refine lv_goto hx hb d_Q_isOfName_43 (tgt := 47) rfl ?_
              exact rfZ hx hb hr (bI_nar true) hlk hS () (by simp [isNm, isLt, isDg, bI, *]) hP hD (Nat.le_of_ble_eq_true rfl) (Nat.le_of_ble_eq_true rfl) d_Q_isOfName_47
  · have g1 := g1
    refine lv_iload_n hx hb d_Q_isOfName_6 rfl (lv_at hl 0 rfl) ?_
    refine lv_bipush (v := 122) hx hb d_Q_isOfName_7 (by decide) ?_
    refine lv_icmp_le hx hb d_Q_isOfName_9 (tgt := 42) rfl (fun g12 => ?_) (fun g12 => ?_)
    · have g12 := g12
      refine lv_iconst (v := 1) hx hb d_Q_isOfName_42 (by decide) ?_
      refine lv_goto hx hb d_Q_isOfName_43 (tgt := 47) rfl ?_
      exact rfZ hx hb hr (bI_nar true) hlk hS () (by simp [isNm, isLt, isDg, bI, *]) hP hD (Nat.le_of_ble_eq_true rfl) (Nat.le_of_ble_eq_true rfl) d_Q_isOfName_47
    · have g12 := g12
      refine lv_iload_n hx hb d_Q_isOfName_12 rfl (lv_at hl 0 rfl) ?_
      refine lv_bipush (v := 65) hx hb d_Q_isOfName_13 (by decide) ?_
      refine lv_icmp_lt hx hb d_Q_isOfName_15 (tgt := 24) rfl (fun g13 => ?_) (fun g13 => ?_)
      · have g13 := g13
        refine lv_iload_n hx hb d_Q_isOfName_24 rfl (lv_at hl 0 rfl) ?_
        refine lv_bipush (v := 48) hx hb d_Q_isOfName_25 (by decide) ?_
        refine lv_icmp_lt hx hb d_Q_isOfName_27 (tgt := 36) rfl (fun g14 => ?_) (fun g14 => ?_)
        · have g14 := g14
          refine lv_iload_n hx hb d_Q_isOfName_36 rfl (lv_at hl 0 rfl) ?_
          refine lv_bipush (v := 95) hx hb d_Q_isOfName_37 (by decide) ?_
          refine lv_icmp_ne hx hb d_Q_isOfName_39 (tgt := 46) rfl (fun g15 => ?_) (fun g15 => ?_)
          · have g15 := g15
            refine lv_iconst (v := 0) hx hb d_Q_isOfName_46 (by decide) ?_
            exact rfZ hx hb hr (bI_nar false) hlk hS () (by simp [isNm, isLt, isDg, bI, *]) hP hD (Nat.le_of_ble_eq_true rfl) (Nat.le_of_ble_eq_true rfl) d_Q_isOfName_47
          · have g15 := g15
            refine lv_iconst (v := 1) hx hb d_Q_isOfName_42 (by decide) ?_
            refine lv_goto hx hb d_Q_isOfName_43 (tgt := 47) rfl ?_
            exact rfZ hx hb hr (bI_nar true) hlk hS () (by simp [isNm, isLt, isDg, bI, *]) hP hD (Nat.le_of_ble_eq_true rfl) (Nat.le_of_ble_eq_true rfl) d_Q_isOfName_47
        · have g14 := g14
          refine lv_iload_n hx hb d_Q_isOfName_30 rfl (lv_at hl 0 rfl) ?_
          refine lv_bipush (v := 57) hx hb d_Q_isOfName_31 (by decide) ?_
          refine lv_icmp_le hx hb d_Q_isOfName_33 (tgt := 42) rfl (fun g16 => ?_) (fun g16 => ?_)
          · have g16 := g16
            refine lv_iconst (v := 1) hx hb d_Q_isOfName_42 (by decide) ?_
            refine lv_goto hx hb d_Q_isOfName_43 (tgt := 47) rfl ?_
            exact rfZ hx hb hr (bI_nar true) hlk hS () (by simp [isNm, isLt, isDg, bI, *]) hP hD (Nat.le_of_ble_eq_true rfl) (Nat.le_of_ble_eq_true rfl) d_Q_isOfName_47
          · have g16 := g16
            refine lv_iload_n hx hb d_Q_isOfName_36 rfl (lv_at hl 0 rfl) ?_
            refine lv_bipush (v := 95) hx hb d_Q_isOfName_37 (by decide) ?_
            refine lv_icmp_ne hx hb d_Q_isOfName_39 (tgt := 46) rfl (fun g17 => ?_) (fun g17 => ?_)
            · have g17 := g17
              refine lv_iconst (v := 0) hx hb d_Q_isOfName_46 (by decide) ?_
              exact rfZ hx hb hr (bI_nar false) hlk hS () (by simp [isNm, isLt, isDg, bI, *]) hP hD (Nat.le_of_ble_eq_true rfl) (Nat.le_of_ble_eq_true rfl) d_Q_isOfName_47
            · have g17 := g17
              refine lv_iconst (v := 1) hx hb d_Q_isOfName_42 (by decide) ?_
              refine lv_goto hx hb d_Q_isOfName_43 (tgt := 47) rfl ?_
              exact rfZ hx hb hr (bI_nar true) hlk hS () (by simp [isNm, isLt, isDg, bI, *]) hP hD (Nat.le_of_ble_eq_true rfl) (Nat.le_of_ble_eq_true rfl) d_Q_isOfName_47
      · have g13 := g13
        refine lv_iload_n hx hb d_Q_isOfName_18 rfl (lv_at hl 0 rfl) ?_
        refine lv_bipush (v := 90) hx hb d_Q_isOfName_19 (by decide) ?_
        refine lv_icmp_le hx hb d_Q_isOfName_21 (tgt := 42) rfl (fun g18 => ?_) (fun g18 => ?_)
        · have g18 := g18
          refine lv_iconst (v := 1) hx hb d_Q_isOfName_42 (by decide) ?_
          refine lv_goto hx hb d_Q_isOfName_43 (tgt := 47) rfl ?_
          exact rfZ hx hb hr (bI_nar true) hlk hS () (by simp [isNm, isLt, isDg, bI, *]) hP hD (Nat.le_of_ble_eq_true rfl) (Nat.le_of_ble_eq_true rfl) d_Q_isOfName_47
        · have g18 := g18
          refine lv_iload_n hx hb d_Q_isOfName_24 rfl (lv_at hl 0 rfl) ?_
          refine lv_bipush (v := 48) hx hb d_Q_isOfName_25 (by decide) ?_
          refine lv_icmp_lt hx hb d_Q_isOfName_27 (tgt := 36) rfl (fun g19 => ?_) (fun g19 => ?_)
          · have g19 := g19
            refine lv_iload_n hx hb d_Q_isOfName_36 rfl (lv_at hl 0 rfl) ?_
            refine lv_bipush (v := 95) hx hb d_Q_isOfName_37 (by decide) ?_
            refine lv_icmp_ne hx hb d_Q_isOfName_39 (tgt := 46) rfl (fun g20 => ?_) (fun g20 => ?_)
            · have g20 := g20
              refine lv_iconst (v := 0) hx hb d_Q_isOfName_46 (by decide) ?_
              exact rfZ hx hb hr (bI_nar false) hlk hS () (by simp [isNm, isLt, isDg, bI, *]) hP hD (Nat.le_of_ble_eq_true rfl) (Nat.le_of_ble_eq_true rfl) d_Q_isOfName_47
            · have g20 := g20
              refine lv_iconst (v := 1) hx hb d_Q_isOfName_42 (by decide) ?_
              refine lv_goto hx hb d_Q_isOfName_43 (tgt := 47) rfl ?_
              exact rfZ hx hb hr (bI_nar true) hlk hS () (by simp [isNm, isLt, isDg, bI, *]) hP hD (Nat.le_of_ble_eq_true rfl) (Nat.le_of_ble_eq_true rfl) d_Q_isOfName_47
          · have g19 := g19
            refine lv_iload_n hx hb d_Q_isOfName_30 rfl (lv_at hl 0 rfl) ?_
            refine lv_bipush (v := 57) hx hb d_Q_isOfName_31 (by decide) ?_
            refine lv_icmp_le hx hb d_Q_isOfName_33 (tgt := 42) rfl (fun g21 => ?_) (fun g21 => ?_)
            · have g21 := g21
              refine lv_iconst (v := 1) hx hb d_Q_isOfName_42 (by decide) ?_
              refine lv_goto hx hb d_Q_isOfName_43 (tgt := 47) rfl ?_
              exact rfZ hx hb hr (bI_nar true) hlk hS () (by simp [isNm, isLt, isDg, bI, *]) hP hD (Nat.le_of_ble_eq_true rfl) (Nat.le_of_ble_eq_true rfl) d_Q_isOfName_47
            · have g21 := g21
              refine lv_iload_n hx hb d_Q_isOfName_36 rfl (lv_at hl 0 rfl) ?_
              refine lv_bipush (v := 95) hx hb d_Q_isOfName_37 (by decide) ?_
              refine lv_icmp_ne hx hb d_Q_isOfName_39 (tgt := 46) rfl (fun g22 => ?_) (fun g22 => ?_)
              · have g22 := g22
                refine lv_iconst (v := 0) hx hb d_Q_isOfName_46 (by decide) ?_
                exact rfZ hx hb hr (bI_nar false) hlk hS () (by simp [isNm, isLt, isDg, bI, *]) hP hD (Nat.le_of_ble_eq_true rfl) (Nat.le_of_ble_eq_true rfl) d_Q_isOfName_47
              · have g22 := g22
                refine lv_iconst (v := 1) hx hb d_Q_isOfName_42 (by decide) ?_
                refine lv_goto hx hb d_Q_isOfName_43 (tgt := 47) rfl ?_
                exact rfZ hx hb hr (bI_nar true) hlk hS () (by simp [isNm, isLt, isDg, bI, *]) hP hD (Nat.le_of_ble_eq_true rfl) (Nat.le_of_ble_eq_true rfl) d_Q_isOfName_47
theorem d_Q_isOfTerm_0 : decode prog_6_method_6_code 0 = .ok (.iload_n 0, 1) := by decide +kernel
theorem d_Q_isOfTerm_1 : decode prog_6_method_6_code 1 = .ok (.bipush 42, 2) := by decide +kernel
theorem d_Q_isOfTerm_3 : decode prog_6_method_6_code 3 = .ok (.if_icmp .eq 15, 3) := by decide +kernel
theorem d_Q_isOfTerm_18 : decode prog_6_method_6_code 18 = .ok (.iconst 1, 1) := by decide +kernel
theorem d_Q_isOfTerm_19 : decode prog_6_method_6_code 19 = .ok (.goto 4, 3) := by decide +kernel
theorem d_Q_isOfTerm_23 : decode prog_6_method_6_code 23 = .ok (.ireturn, 1) := by decide +kernel
theorem d_Q_isOfTerm_6 : decode prog_6_method_6_code 6 = .ok (.iload_n 0, 1) := by decide +kernel
theorem d_Q_isOfTerm_7 : decode prog_6_method_6_code 7 = .ok (.bipush 47, 2) := by decide +kernel
theorem d_Q_isOfTerm_9 : decode prog_6_method_6_code 9 = .ok (.if_icmp .eq 9, 3) := by decide +kernel
theorem d_Q_isOfTerm_12 : decode prog_6_method_6_code 12 = .ok (.iload_n 0, 1) := by decide +kernel
theorem d_Q_isOfTerm_13 : decode prog_6_method_6_code 13 = .ok (.bipush 37, 2) := by decide +kernel
theorem d_Q_isOfTerm_15 : decode prog_6_method_6_code 15 = .ok (.if_icmp .ne 7, 3) := by decide +kernel
theorem d_Q_isOfTerm_22 : decode prog_6_method_6_code 22 = .ok (.iconst 0, 1) := by decide +kernel
set_option maxHeartbeats 4000000 in
set_option maxRecDepth 100000 in
theorem v_QisOfTerm (l : Launch) (D : va_G) (dA : Nat → ClassId) (sz : Nat) (z : Int32) : Met l ⟨"SeriesVault$Question", "isOfTerm", "(I)Z"⟩ [Cond.code ⟨"SeriesVault$Question", "isOfTerm", "(I)Z"⟩ prog_6_method_6_code 1 (some FieldType.boolean)] { frames := 1, cells := 0, slots := 0, locals := 0 } (pC D dA [.int z] ([]) sz) (va_Qi (fun (r9 : Int32) (u9 : Unit) => r9 = bI (decide (z = 42) || (decide (z = 47) || decide (z = 37)))) (fun (u9 : Unit) t9 => bW D (va_A ([]) sz) ([]) t9) (va_A ([]) sz)) 0 0 (va_A ([]) sz) := by
  refine mkC (y := ⟨"SeriesVault$Question", "isOfTerm", "(I)Z"⟩) (cc := prog_6_method_6_code) (maxL := 1) (av := [.int z]) (ws := []) (sz := sz) (Qc := fun A => va_Qi (fun (r9 : Int32) (u9 : Unit) => r9 = bI (decide (z = 42) || (decide (z = 47) || decide (z = 37)))) (fun (u9 : Unit) t9 => bW D A ([]) t9) A) (by decide) (Nat.le_of_ble_eq_true rfl) ?_
  intro A p e s m below meth c ls hsz hB
  obtain ⟨hx, hb, hr, hml, hown, hin, hlk, hE, hK, hP, hD, hS, hA, hN, hl⟩ := hB
  have hown : s.vm.findClass "SeriesVault$Question" = some m.cls := hown
  have hl : lv_has ls 1 [(0, .int z)] := hl
  obtain ⟨H, hH⟩ : ∃ z, z = s.heap := ⟨_, rfl⟩
  have hP : va_P D vwCl ([]) H := by rw [hH]; exact hP
  have hS : va_S A s.heap H [] := by rw [hH]; exact hS
  rw [← hH]
  refine lv_iload_n hx hb d_Q_isOfTerm_0 rfl (lv_at hl 0 rfl) ?_
  refine lv_bipush (v := 42) hx hb d_Q_isOfTerm_1 (by decide) ?_
  refine lv_icmp_eq hx hb d_Q_isOfTerm_3 (tgt := 18) rfl (fun g1 => ?_) (fun g1 => ?_)
  · have g1 := g1
    refine lv_iconst (v := 1) hx hb d_Q_isOfTerm_18 (by decide) ?_
    refine lv_goto hx hb d_Q_isOfTerm_19 (tgt := 23) rfl ?_
    exact rfZ hx hb hr (bI_nar true) hlk hS () (by simp [bI, *]) hP hD (Nat.le_of_ble_eq_true rfl) (Nat.le_of_ble_eq_true rfl) d_Q_isOfTerm_23
  · have g1 := g1
    refine lv_iload_n hx hb d_Q_isOfTerm_6 rfl (lv_at hl 0 rfl) ?_
    refine lv_bipush (v := 47) hx hb d_Q_isOfTerm_7 (by decide) ?_
    refine lv_icmp_eq hx hb d_Q_isOfTerm_9 (tgt := 18) rfl (fun g2 => ?_) (fun g2 => ?_)
    · have g2 := g2
      refine lv_iconst (v := 1) hx hb d_Q_isOfTerm_18 (by decide) ?_
      refine lv_goto hx hb d_Q_isOfTerm_19 (tgt := 23) rfl ?_
      exact rfZ hx hb hr (bI_nar true) hlk hS () (by simp [bI, *]) hP hD (Nat.le_of_ble_eq_true rfl) (Nat.le_of_ble_eq_true rfl) d_Q_isOfTerm_23
    · have g2 := g2
      refine lv_iload_n hx hb d_Q_isOfTerm_12 rfl (lv_at hl 0 rfl) ?_
      refine lv_bipush (v := 37) hx hb d_Q_isOfTerm_13 (by decide) ?_
      refine lv_icmp_ne hx hb d_Q_isOfTerm_15 (tgt := 22) rfl (fun g3 => ?_) (fun g3 => ?_)
      · have g3 := g3
        refine lv_iconst (v := 0) hx hb d_Q_isOfTerm_22 (by decide) ?_
        exact rfZ hx hb hr (bI_nar false) hlk hS () (by simp [bI, *]) hP hD (Nat.le_of_ble_eq_true rfl) (Nat.le_of_ble_eq_true rfl) d_Q_isOfTerm_23
      · have g3 := g3
        refine lv_iconst (v := 1) hx hb d_Q_isOfTerm_18 (by decide) ?_
        refine lv_goto hx hb d_Q_isOfTerm_19 (tgt := 23) rfl ?_
        exact rfZ hx hb hr (bI_nar true) hlk hS () (by simp [bI, *]) hP hD (Nat.le_of_ble_eq_true rfl) (Nat.le_of_ble_eq_true rfl) d_Q_isOfTerm_23
theorem d_Q_isOfMatch_0 : decode prog_6_method_14_code 0 = .ok (.iload_n 0, 1) := by decide +kernel
theorem d_Q_isOfMatch_1 : decode prog_6_method_14_code 1 = .ok (.bipush 61, 2) := by decide +kernel
theorem d_Q_isOfMatch_3 : decode prog_6_method_14_code 3 = .ok (.if_icmp .eq 24, 3) := by decide +kernel
theorem d_Q_isOfMatch_27 : decode prog_6_method_14_code 27 = .ok (.iconst 1, 1) := by decide +kernel
theorem d_Q_isOfMatch_28 : decode prog_6_method_14_code 28 = .ok (.goto 4, 3) := by decide +kernel
theorem d_Q_isOfMatch_32 : decode prog_6_method_14_code 32 = .ok (.ireturn, 1) := by decide +kernel
theorem d_Q_isOfMatch_6 : decode prog_6_method_14_code 6 = .ok (.iload_n 0, 1) := by decide +kernel
theorem d_Q_isOfMatch_7 : decode prog_6_method_14_code 7 = .ok (.sipush 260, 3) := by decide +kernel
theorem d_Q_isOfMatch_10 : decode prog_6_method_14_code 10 = .ok (.if_icmp .eq 17, 3) := by decide +kernel
theorem d_Q_isOfMatch_13 : decode prog_6_method_14_code 13 = .ok (.iload_n 0, 1) := by decide +kernel
theorem d_Q_isOfMatch_14 : decode prog_6_method_14_code 14 = .ok (.sipush 261, 3) := by decide +kernel
theorem d_Q_isOfMatch_17 : decode prog_6_method_14_code 17 = .ok (.if_icmp .eq 10, 3) := by decide +kernel
theorem d_Q_isOfMatch_20 : decode prog_6_method_14_code 20 = .ok (.iload_n 0, 1) := by decide +kernel
theorem d_Q_isOfMatch_21 : decode prog_6_method_14_code 21 = .ok (.sipush 262, 3) := by decide +kernel
theorem d_Q_isOfMatch_24 : decode prog_6_method_14_code 24 = .ok (.if_icmp .ne 7, 3) := by decide +kernel
theorem d_Q_isOfMatch_31 : decode prog_6_method_14_code 31 = .ok (.iconst 0, 1) := by decide +kernel
set_option maxHeartbeats 4000000 in
set_option maxRecDepth 100000 in
theorem v_QisOfMatch (l : Launch) (D : va_G) (dA : Nat → ClassId) (sz : Nat) (z : Int32) : Met l ⟨"SeriesVault$Question", "isOfMatch", "(I)Z"⟩ [Cond.code ⟨"SeriesVault$Question", "isOfMatch", "(I)Z"⟩ prog_6_method_14_code 1 (some FieldType.boolean)] { frames := 1, cells := 0, slots := 0, locals := 0 } (pC D dA [.int z] ([]) sz) (va_Qi (fun (r9 : Int32) (u9 : Unit) => r9 = bI (decide (z = 61) || (decide (z = 260) || (decide (z = 261) || decide (z = 262))))) (fun (u9 : Unit) t9 => bW D (va_A ([]) sz) ([]) t9) (va_A ([]) sz)) 0 0 (va_A ([]) sz) := by
  refine mkC (y := ⟨"SeriesVault$Question", "isOfMatch", "(I)Z"⟩) (cc := prog_6_method_14_code) (maxL := 1) (av := [.int z]) (ws := []) (sz := sz) (Qc := fun A => va_Qi (fun (r9 : Int32) (u9 : Unit) => r9 = bI (decide (z = 61) || (decide (z = 260) || (decide (z = 261) || decide (z = 262))))) (fun (u9 : Unit) t9 => bW D A ([]) t9) A) (by decide) (Nat.le_of_ble_eq_true rfl) ?_
  intro A p e s m below meth c ls hsz hB
  obtain ⟨hx, hb, hr, hml, hown, hin, hlk, hE, hK, hP, hD, hS, hA, hN, hl⟩ := hB
  have hown : s.vm.findClass "SeriesVault$Question" = some m.cls := hown
  have hl : lv_has ls 1 [(0, .int z)] := hl
  obtain ⟨H, hH⟩ : ∃ z, z = s.heap := ⟨_, rfl⟩
  have hP : va_P D vwCl ([]) H := by rw [hH]; exact hP
  have hS : va_S A s.heap H [] := by rw [hH]; exact hS
  rw [← hH]
  refine lv_iload_n hx hb d_Q_isOfMatch_0 rfl (lv_at hl 0 rfl) ?_
  refine lv_bipush (v := 61) hx hb d_Q_isOfMatch_1 (by decide) ?_
  refine lv_icmp_eq hx hb d_Q_isOfMatch_3 (tgt := 27) rfl (fun g1 => ?_) (fun g1 => ?_)
  · have g1 := g1
    refine lv_iconst (v := 1) hx hb d_Q_isOfMatch_27 (by decide) ?_
    refine lv_goto hx hb d_Q_isOfMatch_28 (tgt := 32) rfl ?_
    exact rfZ hx hb hr (bI_nar true) hlk hS () (by simp [bI, *]) hP hD (Nat.le_of_ble_eq_true rfl) (Nat.le_of_ble_eq_true rfl) d_Q_isOfMatch_32
  · have g1 := g1
    refine lv_iload_n hx hb d_Q_isOfMatch_6 rfl (lv_at hl 0 rfl) ?_
    refine lv_sipush (v := 260) hx hb d_Q_isOfMatch_7 (by decide) ?_
    refine lv_icmp_eq hx hb d_Q_isOfMatch_10 (tgt := 27) rfl (fun g2 => ?_) (fun g2 => ?_)
    · have g2 := g2
      refine lv_iconst (v := 1) hx hb d_Q_isOfMatch_27 (by decide) ?_
      refine lv_goto hx hb d_Q_isOfMatch_28 (tgt := 32) rfl ?_
      exact rfZ hx hb hr (bI_nar true) hlk hS () (by simp [bI, *]) hP hD (Nat.le_of_ble_eq_true rfl) (Nat.le_of_ble_eq_true rfl) d_Q_isOfMatch_32
    · have g2 := g2
      refine lv_iload_n hx hb d_Q_isOfMatch_13 rfl (lv_at hl 0 rfl) ?_
      refine lv_sipush (v := 261) hx hb d_Q_isOfMatch_14 (by decide) ?_
      refine lv_icmp_eq hx hb d_Q_isOfMatch_17 (tgt := 27) rfl (fun g3 => ?_) (fun g3 => ?_)
      · have g3 := g3
        refine lv_iconst (v := 1) hx hb d_Q_isOfMatch_27 (by decide) ?_
        refine lv_goto hx hb d_Q_isOfMatch_28 (tgt := 32) rfl ?_
        exact rfZ hx hb hr (bI_nar true) hlk hS () (by simp [bI, *]) hP hD (Nat.le_of_ble_eq_true rfl) (Nat.le_of_ble_eq_true rfl) d_Q_isOfMatch_32
      · have g3 := g3
        refine lv_iload_n hx hb d_Q_isOfMatch_20 rfl (lv_at hl 0 rfl) ?_
        refine lv_sipush (v := 262) hx hb d_Q_isOfMatch_21 (by decide) ?_
        refine lv_icmp_ne hx hb d_Q_isOfMatch_24 (tgt := 31) rfl (fun g4 => ?_) (fun g4 => ?_)
        · have g4 := g4
          refine lv_iconst (v := 0) hx hb d_Q_isOfMatch_31 (by decide) ?_
          exact rfZ hx hb hr (bI_nar false) hlk hS () (by simp [bI, *]) hP hD (Nat.le_of_ble_eq_true rfl) (Nat.le_of_ble_eq_true rfl) d_Q_isOfMatch_32
        · have g4 := g4
          refine lv_iconst (v := 1) hx hb d_Q_isOfMatch_27 (by decide) ?_
          refine lv_goto hx hb d_Q_isOfMatch_28 (tgt := 32) rfl ?_
          exact rfZ hx hb hr (bI_nar true) hlk hS () (by simp [bI, *]) hP hD (Nat.le_of_ble_eq_true rfl) (Nat.le_of_ble_eq_true rfl) d_Q_isOfMatch_32
theorem d_Q_nextIs_0 : decode prog_6_method_18_code 0 = .ok (.aload_n 0, 1) := by decide +kernel
theorem d_Q_nextIs_1 : decode prog_6_method_18_code 1 = .ok (.getfield 32, 3) := by decide +kernel
theorem d_Q_nextIs_4 : decode prog_6_method_18_code 4 = .ok (.aload_n 0, 1) := by decide +kernel
theorem d_Q_nextIs_5 : decode prog_6_method_18_code 5 = .ok (.getfield 22, 3) := by decide +kernel
theorem d_Q_nextIs_8 : decode prog_6_method_18_code 8 = .ok (.if_icmp .ge 20, 3) := by decide +kernel
theorem d_Q_nextIs_28 : decode prog_6_method_18_code 28 = .ok (.iconst 0, 1) := by decide +kernel
theorem d_Q_nextIs_29 : decode prog_6_method_18_code 29 = .ok (.ireturn, 1) := by decide +kernel
theorem d_Q_nextIs_11 : decode prog_6_method_18_code 11 = .ok (.aload_n 0, 1) := by decide +kernel
theorem d_Q_nextIs_12 : decode prog_6_method_18_code 12 = .ok (.getfield 9, 3) := by decide +kernel
theorem d_Q_nextIs_15 : decode prog_6_method_18_code 15 = .ok (.aload_n 0, 1) := by decide +kernel
theorem d_Q_nextIs_16 : decode prog_6_method_18_code 16 = .ok (.getfield 32, 3) := by decide +kernel
theorem d_Q_nextIs_19 : decode prog_6_method_18_code 19 = .ok (.baload, 1) := by decide +kernel
theorem d_Q_nextIs_20 : decode prog_6_method_18_code 20 = .ok (.iload_n 1, 1) := by decide +kernel
theorem d_Q_nextIs_21 : decode prog_6_method_18_code 21 = .ok (.if_icmp .ne 7, 3) := by decide +kernel
theorem d_Q_nextIs_24 : decode prog_6_method_18_code 24 = .ok (.iconst 1, 1) := by decide +kernel
theorem d_Q_nextIs_25 : decode prog_6_method_18_code 25 = .ok (.goto 4, 3) := by decide +kernel
set_option maxHeartbeats 4000000 in
set_option maxRecDepth 100000 in
theorem v_QnextIs (l : Launch) (D : va_G) (dA : Nat → ClassId) (sz : Nat) (h : Nat) (ad : Nat → Nat) (x : VS) (z : Int32) (hq : x.qtp = x.tpA) (h2 : x.qlen ≤ x.tpN) (h3 : x.tpN ≤ 131072) (hz : ¬ z = 0) (h1 : x.qen ≤ 131072) : Met l ⟨"SeriesVault$Question", "nextIs", "(I)Z"⟩ [Cond.code ⟨"SeriesVault$Question", "nextIs", "(I)Z"⟩ prog_6_method_18_code 2 (some FieldType.boolean)] { frames := 1, cells := 0, slots := 0, locals := 0 } (pC D dA [.ref (ad 22), .int z] (VW dA h ad x) sz) (va_Qi (fun (r9 : Int32) (u9 : Unit) => r9 = bI (decide (atV x.tape x.qlen x.qen = z))) (fun (u9 : Unit) t9 => bW D (va_A (VW dA h ad x) sz) (VW dA h ad x) t9) (va_A (VW dA h ad x) sz)) 0 0 (va_A (VW dA h ad x) sz) := by
  refine mkC (y := ⟨"SeriesVault$Question", "nextIs", "(I)Z"⟩) (cc := prog_6_method_18_code) (maxL := 2) (av := [.ref (ad 22), .int z]) (ws := VW dA h ad x) (sz := sz) (Qc := fun A => va_Qi (fun (r9 : Int32) (u9 : Unit) => r9 = bI (decide (atV x.tape x.qlen x.qen = z))) (fun (u9 : Unit) t9 => bW D A (VW dA h ad x) t9) A) (by decide) (Nat.le_of_ble_eq_true rfl) ?_
  intro A p e s m below meth c ls hsz hB
  obtain ⟨hx, hb, hr, hml, hown, hin, hlk, hE, hK, hP, hD, hS, hA, hN, hl⟩ := hB
  have hown : s.vm.findClass "SeriesVault$Question" = some m.cls := hown
  have hl : lv_has ls 2 [(0, .ref (ad 22)), (1, .int z)] := hl
  obtain ⟨H, hH⟩ : ∃ z, z = s.heap := ⟨_, rfl⟩
  have hP : va_P D vwCl (VW dA h ad x) H := by rw [hH]; exact hP
  have hS : va_S A s.heap H [] := by rw [hH]; exact hS
  rw [← hH]
  refine lv_aload_n hx hb d_Q_nextIs_0 rfl (lv_at hl 0 rfl) ?_
  refine gF (v := .int (nI x.qen)) hx hb hown hE hK hP 36 rfl rfl layQ 4 (by decide) w660 rfl d_Q_nextIs_1 ?_
  refine lv_aload_n hx hb d_Q_nextIs_4 rfl (lv_at hl 0 rfl) ?_
  refine gF (v := .int (nI x.qlen)) hx hb hown hE hK hP 36 rfl rfl layQ 1 (by decide) w661 rfl d_Q_nextIs_5 ?_
  refine lv_icmp_ge hx hb d_Q_nextIs_8 (tgt := 28) rfl (fun g1 => ?_) (fun g1 => ?_)
  · have g1 := (nI_leI (a := x.qlen) (b := x.qen) (by omega) (by omega)).mp g1
    refine lv_iconst (v := 0) hx hb d_Q_nextIs_28 (by decide) ?_
    exact rfZ hx hb hr (bI_nar false) hlk hS () (by rw [atV_f g1, decide_eq_false (fun z9 => hz z9.symm)]; rfl) hP hD (Nat.le_of_ble_eq_true rfl) (Nat.le_of_ble_eq_true rfl) d_Q_nextIs_29
  · have g1 := mt (nI_leI (a := x.qlen) (b := x.qen) (by omega) (by omega)).mpr g1
    refine lv_aload_n hx hb d_Q_nextIs_11 rfl (lv_at hl 0 rfl) ?_
    refine gF (v := .ref x.qtp) hx hb hown hE hK hP 36 rfl rfl layQ 0 (by decide) w677 rfl d_Q_nextIs_12 ?_
    rw [hq]
    refine lv_aload_n hx hb d_Q_nextIs_15 rfl (lv_at hl 0 rfl) ?_
    refine gF (v := .int (nI x.qen)) hx hb hown hE hK hP 36 rfl rfl layQ 4 (by decide) w660 rfl d_Q_nextIs_16 ?_
    refine nbld (f := x.tape) (n := x.tpN) hx hb hK hP (1) 0 rfl rfl (x.qen) (by omega) (by omega) d_Q_nextIs_19 ?_
    refine lv_iload_n hx hb d_Q_nextIs_20 rfl (lv_at hl 1 rfl) ?_
    refine lv_icmp_ne hx hb d_Q_nextIs_21 (tgt := 28) rfl (fun g2 => ?_) (fun g2 => ?_)
    · have g2 := g2
      refine lv_iconst (v := 0) hx hb d_Q_nextIs_28 (by decide) ?_
      exact rfZ hx hb hr (bI_nar false) hlk hS () (by rw [atV_t (by omega), decide_eq_false g2]; rfl) hP hD (Nat.le_of_ble_eq_true rfl) (Nat.le_of_ble_eq_true rfl) d_Q_nextIs_29
    · have g2 := g2
      refine lv_iconst (v := 1) hx hb d_Q_nextIs_24 (by decide) ?_
      refine lv_goto hx hb d_Q_nextIs_25 (tgt := 29) rfl ?_
      exact rfZ hx hb hr (bI_nar true) hlk hS () (by rw [atV_t (by omega), decide_eq_true g2]; rfl) hP hD (Nat.le_of_ble_eq_true rfl) (Nat.le_of_ble_eq_true rfl) d_Q_nextIs_29
theorem d_Q_longer_0 : decode prog_6_method_19_code 0 = .ok (.aload_n 0, 1) := by decide +kernel
theorem d_Q_longer_1 : decode prog_6_method_19_code 1 = .ok (.dup, 1) := by decide +kernel
theorem d_Q_longer_2 : decode prog_6_method_19_code 2 = .ok (.getfield 32, 3) := by decide +kernel
theorem d_Q_longer_5 : decode prog_6_method_19_code 5 = .ok (.iconst 1, 1) := by decide +kernel
theorem d_Q_longer_6 : decode prog_6_method_19_code 6 = .ok (.iadd, 1) := by decide +kernel
theorem d_Q_longer_7 : decode prog_6_method_19_code 7 = .ok (.putfield 32, 3) := by decide +kernel
theorem d_Q_longer_10 : decode prog_6_method_19_code 10 = .ok (.iload_n 1, 1) := by decide +kernel
theorem d_Q_longer_11 : decode prog_6_method_19_code 11 = .ok (.ireturn, 1) := by decide +kernel
set_option maxHeartbeats 4000000 in
set_option maxRecDepth 100000 in
theorem v_Qlonger (l : Launch) (D : va_G) (dA : Nat → ClassId) (sz : Nat) (h : Nat) (ad : Nat → Nat) (x : VS) (z : Int32) (h1 : x.qen ≤ 131072) : Met l ⟨"SeriesVault$Question", "longer", "(I)I"⟩ [Cond.code ⟨"SeriesVault$Question", "longer", "(I)I"⟩ prog_6_method_19_code 2 (some FieldType.int)] { frames := 1, cells := 0, slots := 0, locals := 0 } (pC D dA [.ref (ad 22), .int z] (VW dA h ad x) sz) (va_Qi (fun (r9 : Int32) (u9 : Unit) => r9 = z) (fun (u9 : Unit) t9 => bW D (va_A (VW dA h ad x) sz) (VW dA h ad (VS.s_qen x (x.qen + 1))) t9) (va_A (VW dA h ad x) sz)) 0 0 (va_A (VW dA h ad x) sz) := by
  refine mkC (y := ⟨"SeriesVault$Question", "longer", "(I)I"⟩) (cc := prog_6_method_19_code) (maxL := 2) (av := [.ref (ad 22), .int z]) (ws := VW dA h ad x) (sz := sz) (Qc := fun A => va_Qi (fun (r9 : Int32) (u9 : Unit) => r9 = z) (fun (u9 : Unit) t9 => bW D A (VW dA h ad (VS.s_qen x (x.qen + 1))) t9) A) (by decide) (Nat.le_of_ble_eq_true rfl) ?_
  intro A p e s m below meth c ls hsz hB
  obtain ⟨hx, hb, hr, hml, hown, hin, hlk, hE, hK, hP, hD, hS, hA, hN, hl⟩ := hB
  have hown : s.vm.findClass "SeriesVault$Question" = some m.cls := hown
  have hl : lv_has ls 2 [(0, .ref (ad 22)), (1, .int z)] := hl
  obtain ⟨H, hH⟩ : ∃ z, z = s.heap := ⟨_, rfl⟩
  have hP : va_P D vwCl (VW dA h ad x) H := by rw [hH]; exact hP
  have hS : va_S A s.heap H [] := by rw [hH]; exact hS
  rw [← hH]
  refine lv_aload_n hx hb d_Q_longer_0 rfl (lv_at hl 0 rfl) ?_
  refine lv_dup hx hb d_Q_longer_1 rfl ?_
  refine gF (v := .int (nI x.qen)) hx hb hown hE hK hP 36 rfl rfl layQ 4 (by decide) w660 rfl d_Q_longer_2 ?_
  refine lv_iconst (v := 1) hx hb d_Q_longer_5 (by decide) ?_
  refine lv_iadd hx hb d_Q_longer_6 (tpi (y := nI (x.qen + 1)) (nI_add (x.qen) (1)) ?_)
  refine pF (v := .int (nI (x.qen + 1))) hx hb hown hE hK hP hD hS 36 rfl rfl layQ tyQ tokQ nmQ 4 (by decide) w660 rfl rfl rfl (Nat.le_of_ble_eq_true rfl) d_Q_longer_7 (fun H locs hP hD hS => ?_)
  have hP : va_P D vwCl (VW dA h ad (VS.s_qen x (x.qen + 1))) H := hP
  have hD : va_D A (VW dA h ad (VS.s_qen x (x.qen + 1))) := hD
  refine lv_iload_n hx hb d_Q_longer_10 rfl (lv_at hl 1 rfl) ?_
  exact rfI hx hb hr hlk hS () rfl hP hD (Nat.le_of_ble_eq_true rfl) (Nat.le_of_ble_eq_true rfl) d_Q_longer_11
def VS.rfq (x : VS) (k : Int32) (q : Nat) : VS := if x.qcode = 0 then VS.s_qpl (VS.s_qcode x k) (nI q) else x
set_option maxHeartbeats 4000000 in
set_option maxRecDepth 100000 in
theorem v_Qrefuse (l : Launch) (D : va_G) (dA : Nat → ClassId) (sz : Nat) (h : Nat) (ad : Nat → Nat) (x : VS) (z : Int32) (q : Nat) : Met l ⟨"SeriesVault$Question", "refuse", "(II)Z"⟩ [Cond.code ⟨"SeriesVault$Question", "refuse", "(II)Z"⟩ prog_6_method_3_code 3 (some FieldType.boolean)] { frames := 1, cells := 0, slots := 0, locals := 0 } (pC D dA [.ref (ad 22), .int z, .int (nI q)] (VW dA h ad x) sz) (va_Qi (fun (r9 : Int32) (u9 : VS) => r9 = 0 ∧ u9 = x.rfq z q) (fun (u9 : VS) t9 => bW D (va_A (VW dA h ad x) sz) (VW dA h ad u9) t9) (va_A (VW dA h ad x) sz)) 0 0 (va_A (VW dA h ad x) sz) := by
  refine mkC (y := ⟨"SeriesVault$Question", "refuse", "(II)Z"⟩) (cc := prog_6_method_3_code) (maxL := 3) (av := [.ref (ad 22), .int z, .int (nI q)]) (ws := VW dA h ad x) (sz := sz) (Qc := fun A => va_Qi (fun (r9 : Int32) (u9 : VS) => r9 = 0 ∧ u9 = x.rfq z q) (fun (u9 : VS) t9 => bW D A (VW dA h ad u9) t9) A) (by decide) (Nat.le_of_ble_eq_true rfl) ?_
  intro A p e s m below meth c ls hsz hB
  obtain ⟨hx, hb, hr, hml, hown, hin, hlk, hE, hK, hP, hD, hS, hA, hN, hl⟩ := hB
  have hown : s.vm.findClass "SeriesVault$Question" = some m.cls := hown
  have hl : lv_has ls 3 [(0, .ref (ad 22)), (1, .int z), (2, .int (nI q))] := hl
  obtain ⟨H, hH⟩ : ∃ z, z = s.heap := ⟨_, rfl⟩
  have hP : va_P D vwCl (VW dA h ad x) H := by rw [hH]; exact hP
  have hS : va_S A s.heap H [] := by rw [hH]; exact hS
  rw [← hH]
  refine lv_aload_n hx hb d_Q_refuse_0 rfl (lv_at hl 0 rfl) ?_
  refine gF (v := .int x.qcode) hx hb hown hE hK hP 36 rfl rfl layQ 6 (by decide) w658 rfl d_Q_refuse_1 ?_
  refine lv_if_ne hx hb d_Q_refuse_4 (tgt := 17) rfl (fun g1 => ?_) (fun g1 => ?_)
  · have g1 := g1
    refine lv_iconst (v := 0) hx hb d_Q_refuse_17 (by decide) ?_
    exact rfZ hx hb hr (bI_nar false) hlk hS x ⟨rfl, (if_neg g1).symm⟩ hP hD (Nat.le_of_ble_eq_true rfl) (Nat.le_of_ble_eq_true rfl) d_Q_refuse_18
  · have g1 := g1
    refine lv_aload_n hx hb d_Q_refuse_7 rfl (lv_at hl 0 rfl) ?_
    refine lv_iload_n hx hb d_Q_refuse_8 rfl (lv_at hl 1 rfl) ?_
    refine pF (v := .int z) hx hb hown hE hK hP hD hS 36 rfl rfl layQ tyQ tokQ nmQ 6 (by decide) w658 rfl rfl rfl (Nat.le_of_ble_eq_true rfl) d_Q_refuse_9 (fun H locs hP hD hS => ?_)
    have hP : va_P D vwCl (VW dA h ad (VS.s_qcode x z)) H := hP
    have hD : va_D A (VW dA h ad (VS.s_qcode x z)) := hD
    refine lv_aload_n hx hb d_Q_refuse_12 rfl (lv_at hl 0 rfl) ?_
    refine lv_iload_n hx hb d_Q_refuse_13 rfl (lv_at hl 2 rfl) ?_
    refine pF (v := .int (nI q)) hx hb hown hE hK hP hD hS 36 rfl rfl layQ tyQ tokQ nmQ 7 (by decide) w659 rfl rfl rfl (Nat.le_of_ble_eq_true rfl) d_Q_refuse_14 (fun H locs hP hD hS => ?_)
    have hP : va_P D vwCl (VW dA h ad (VS.s_qpl (VS.s_qcode x z) (nI q))) H := hP
    have hD : va_D A (VW dA h ad (VS.s_qpl (VS.s_qcode x z) (nI q))) := hD
    refine lv_iconst (v := 0) hx hb d_Q_refuse_17 (by decide) ?_
    exact rfZ hx hb hr (bI_nar false) hlk hS (VS.s_qpl (VS.s_qcode x z) (nI q)) ⟨rfl, (if_pos g1).symm⟩ hP hD (Nat.le_of_ble_eq_true rfl) (Nat.le_of_ble_eq_true rfl) d_Q_refuse_18
theorem d_Q_readName_0 : decode prog_6_method_23_code 0 = .ok (.aload_n 0, 1) := by decide +kernel
theorem d_Q_readName_1 : decode prog_6_method_23_code 1 = .ok (.getfield 32, 3) := by decide +kernel
theorem d_Q_readName_4 : decode prog_6_method_23_code 4 = .ok (.aload_n 0, 1) := by decide +kernel
theorem d_Q_readName_5 : decode prog_6_method_23_code 5 = .ok (.getfield 22, 3) := by decide +kernel
theorem d_Q_readName_8 : decode prog_6_method_23_code 8 = .ok (.if_icmp .ge 31, 3) := by decide +kernel
theorem d_Q_readName_39 : decode prog_6_method_23_code 39 = .ok (.sipush 258, 3) := by decide +kernel
theorem d_Q_readName_42 : decode prog_6_method_23_code 42 = .ok (.ireturn, 1) := by decide +kernel
theorem d_Q_readName_11 : decode prog_6_method_23_code 11 = .ok (.aload_n 0, 1) := by decide +kernel
theorem d_Q_readName_12 : decode prog_6_method_23_code 12 = .ok (.getfield 9, 3) := by decide +kernel
theorem d_Q_readName_15 : decode prog_6_method_23_code 15 = .ok (.aload_n 0, 1) := by decide +kernel
theorem d_Q_readName_16 : decode prog_6_method_23_code 16 = .ok (.getfield 32, 3) := by decide +kernel
theorem d_Q_readName_19 : decode prog_6_method_23_code 19 = .ok (.baload, 1) := by decide +kernel
theorem d_Q_readName_20 : decode prog_6_method_23_code 20 = .ok (.invokestatic 149, 3) := by decide +kernel
theorem d_Q_readName_23 : decode prog_6_method_23_code 23 = .ok (.ifCond .eq 16, 3) := by decide +kernel
theorem d_Q_readName_26 : decode prog_6_method_23_code 26 = .ok (.aload_n 0, 1) := by decide +kernel
theorem d_Q_readName_27 : decode prog_6_method_23_code 27 = .ok (.dup, 1) := by decide +kernel
theorem d_Q_readName_28 : decode prog_6_method_23_code 28 = .ok (.getfield 32, 3) := by decide +kernel
theorem d_Q_readName_31 : decode prog_6_method_23_code 31 = .ok (.iconst 1, 1) := by decide +kernel
theorem d_Q_readName_32 : decode prog_6_method_23_code 32 = .ok (.iadd, 1) := by decide +kernel
theorem d_Q_readName_33 : decode prog_6_method_23_code 33 = .ok (.putfield 32, 3) := by decide +kernel
theorem d_Q_readName_36 : decode prog_6_method_23_code 36 = .ok (.goto (-36), 3) := by decide +kernel
theorem w1557 : Cond.methodLink "SeriesVault$Question" 149 ⟨"SeriesVault$Question", "isOfName", "(I)Z"⟩ ∈ aW := aw_of (tb_6 (List.mem_of_getElem? (i := 202) rfl)) rfl
theorem w1558 : Cond.code ⟨"SeriesVault$Question", "isOfName", "(I)Z"⟩ prog_6_method_21_code 1 (some FieldType.boolean) ∈ aW := aw_of (tb_6 (List.mem_of_getElem? (i := 204) rfl)) rfl
theorem w1559 : Cond.static ⟨"SeriesVault$Question", "isOfName", "(I)Z"⟩ ∈ aW := aw_of (tb_6 (List.mem_of_getElem? (i := 203) rfl)) rfl
set_option maxHeartbeats 4000000 in
set_option maxRecDepth 100000 in
theorem v_QreadName (l : Launch) (D : va_G) (dA : Nat → ClassId) (sz : Nat) (h : Nat) (ad : Nat → Nat) (x : VS) (hq : x.qtp = x.tpA) (h2 : x.qlen ≤ x.tpN) (h3 : x.tpN ≤ 131072) (h1 : x.qen ≤ x.qlen) : Met l ⟨"SeriesVault$Question", "readName", "()I"⟩ [Cond.code ⟨"SeriesVault$Question", "readName", "()I"⟩ prog_6_method_23_code 1 (some FieldType.int)] { frames := 2, cells := 0, slots := 0, locals := 20 } (pC D dA [.ref (ad 22)] (VW dA h ad x) sz) (va_Qi (fun (r9 : Int32) (u9 : Unit) => r9 = 258) (fun (u9 : Unit) t9 => bW D (va_A (VW dA h ad x) sz) (VW dA h ad (VS.s_qen x (whE isNm x.tape x.qlen x.qen))) t9) (va_A (VW dA h ad x) sz)) 0 0 (va_A (VW dA h ad x) sz) := by
  refine mkC (y := ⟨"SeriesVault$Question", "readName", "()I"⟩) (cc := prog_6_method_23_code) (maxL := 1) (av := [.ref (ad 22)]) (ws := VW dA h ad x) (sz := sz) (Qc := fun A => va_Qi (fun (r9 : Int32) (u9 : Unit) => r9 = 258) (fun (u9 : Unit) t9 => bW D A (VW dA h ad (VS.s_qen x (whE isNm x.tape x.qlen x.qen))) t9) A) (by decide) (Nat.le_of_ble_eq_true rfl) ?_
  intro A p e s m below meth c ls hsz hB
  obtain ⟨hx, hb, hr, hml, hown, hin, hlk, hE, hK, hP, hD, hS, hA, hN, hl⟩ := hB
  have hown : s.vm.findClass "SeriesVault$Question" = some m.cls := hown
  have hl : lv_has ls 1 [(0, .ref (ad 22))] := hl
  obtain ⟨H, hH⟩ : ∃ z, z = s.heap := ⟨_, rfl⟩
  have hP : va_P D vwCl (VW dA h ad x) H := by rw [hH]; exact hP
  have hS : va_S A s.heap H [] := by rw [hH]; exact hS
  rw [← hH]
  have L0 : ∀ (k9 : Nat) (q : Nat) (i1 : q ≤ x.qlen) (i2 : whE isNm x.tape x.qlen q = whE isNm x.tape x.qlen x.qen) (hk9 : x.qlen - q = k9), ∀ (H : Heap) (locs : List Loc) (ls : Array Slot) (hP : va_P D vwCl (VW dA h ad (VS.s_qen x q)) H) (hD : va_D A (VW dA h ad (VS.s_qen x q))) (hS : va_S A s.heap H locs) (hl : lv_has ls 1 [(0, .ref (ad 22))]), W p l e ({ frames := 2, cells := 0, slots := 0, locals := 20 } : Room) s m ([.ref (ad 22)] : List Value).toArray below meth c H locs 0 0 (MQ below (va_Qi (fun (r9 : Int32) (u9 : Unit) => r9 = 258) (fun (u9 : Unit) t9 => bW D A (VW dA h ad (VS.s_qen x (whE isNm x.tape x.qlen x.qen))) t9) A) ([.ref (ad 22)] : List Value).toArray s 0 0 A) (F0 m 0 ls []) := by
    intro k9
    induction k9 using Nat.strongRecOn with
    | ind k9 ih0 =>
      intro q i1 i2 hk9 H locs ls hP hD hS hl
      refine lv_aload_n hx hb d_Q_readName_0 rfl (lv_at hl 0 rfl) ?_
      refine gF (v := .int (nI q)) hx hb hown hE hK hP 36 rfl rfl layQ 4 (by decide) w660 rfl d_Q_readName_1 ?_
      refine lv_aload_n hx hb d_Q_readName_4 rfl (lv_at hl 0 rfl) ?_
      refine gF (v := .int (nI x.qlen)) hx hb hown hE hK hP 36 rfl rfl layQ 1 (by decide) w661 rfl d_Q_readName_5 ?_
      refine lv_icmp_ge hx hb d_Q_readName_8 (tgt := 39) rfl (fun g1 => ?_) (fun g1 => ?_)
      · have g1 := (nI_leI (a := x.qlen) (b := q) (by omega) (by omega)).mp g1
        refine lv_sipush (v := 258) hx hb d_Q_readName_39 (by decide) ?_
        have e9 : (VS.s_qen x q : VS) = VS.s_qen x (whE isNm x.tape x.qlen x.qen) := by rw [show (whE isNm x.tape x.qlen x.qen) = q from by exact i2.symm.trans (whE_n (by omega))] <;> rfl
        rw [e9] at hP hD
        exact rfI hx hb hr hlk hS () rfl hP hD (Nat.le_of_ble_eq_true rfl) (Nat.le_of_ble_eq_true rfl) d_Q_readName_42
      · have g1 := mt (nI_leI (a := x.qlen) (b := q) (by omega) (by omega)).mpr g1
        refine lv_aload_n hx hb d_Q_readName_11 rfl (lv_at hl 0 rfl) ?_
        refine gF (v := .ref x.qtp) hx hb hown hE hK hP 36 rfl rfl layQ 0 (by decide) w677 rfl d_Q_readName_12 ?_
        rw [hq]
        refine lv_aload_n hx hb d_Q_readName_15 rfl (lv_at hl 0 rfl) ?_
        refine gF (v := .int (nI q)) hx hb hown hE hK hP 36 rfl rfl layQ 4 (by decide) w660 rfl d_Q_readName_16 ?_
        refine nbld (f := x.tape) (n := x.tpN) hx hb hK hP (1) 0 rfl rfl (q) (by omega) (by omega) d_Q_readName_19 ?_
        have hPc := hP.sub (ws' := []) [] rfl
        have hDc := hD.sub (ws' := []) [] (by decide) rfl
        refine jpI (rnS (As := [.int (x.tape q)]) (rest := []) hx hb hml hown hE hK (hN _ _ hS) hPc hDc (v_QisOfName l D dA H.size (x.tape q)) w1558 w1557 w1559 w665 rfl rfl ⟨⟨by decide, by decide⟩, rfl⟩ ⟨(Nat.le_of_ble_eq_true rfl), (Nat.le_of_ble_eq_true rfl)⟩ rfl hl.1 rfl (Nat.le_of_ble_eq_true rfl) d_Q_readName_20 ⟨(Nat.le_of_ble_eq_true rfl), (Nat.le_of_ble_eq_true rfl)⟩) hP hD hS hA (fun r2 u9 H locs hp9 hP hD hS => ?_)
        have hP : va_P D vwCl (VW dA h ad (VS.s_qen x q)) H := hP
        have hD : va_D A (VW dA h ad (VS.s_qen x q)) := hD
        replace hp9 : bI (isNm (x.tape q)) = r2 := Eq.symm hp9
        subst hp9
        refine lv_if_eq hx hb d_Q_readName_23 (tgt := 39) rfl (fun g4 => ?_) (fun g4 => ?_)
        · have g4 := bI_0 g4
          refine lv_sipush (v := 258) hx hb d_Q_readName_39 (by decide) ?_
          have e9 : (VS.s_qen x q : VS) = VS.s_qen x (whE isNm x.tape x.qlen x.qen) := by rw [show (whE isNm x.tape x.qlen x.qen) = q from by exact i2.symm.trans (whE_f g4)] <;> rfl
          rw [e9] at hP hD
          exact rfI hx hb hr hlk hS () rfl hP hD (Nat.le_of_ble_eq_true rfl) (Nat.le_of_ble_eq_true rfl) d_Q_readName_42
        · have g4 := bI_n0 g4
          refine lv_aload_n hx hb d_Q_readName_26 rfl (lv_at hl 0 rfl) ?_
          refine lv_dup hx hb d_Q_readName_27 rfl ?_
          refine gF (v := .int (nI q)) hx hb hown hE hK hP 36 rfl rfl layQ 4 (by decide) w660 rfl d_Q_readName_28 ?_
          refine lv_iconst (v := 1) hx hb d_Q_readName_31 (by decide) ?_
          refine lv_iadd hx hb d_Q_readName_32 (tpi (y := nI (q + 1)) (nI_add (q) (1)) ?_)
          refine pF (v := .int (nI (q + 1))) hx hb hown hE hK hP hD hS 36 rfl rfl layQ tyQ tokQ nmQ 4 (by decide) w660 rfl rfl rfl (Nat.le_of_ble_eq_true rfl) d_Q_readName_33 (fun H locs hP hD hS => ?_)
          have hP : va_P D vwCl (VW dA h ad (VS.s_qen x (q + 1))) H := hP
          have hD : va_D A (VW dA h ad (VS.s_qen x (q + 1))) := hD
          refine lv_goto hx hb d_Q_readName_36 (tgt := 0) rfl ?_
          exact ih0 _ (by omega) (q + 1) (by omega) ((whE_t (by omega) g4).symm.trans i2) rfl H _ ls hP hD hS (lv_sub hl [0] rfl)
  exact L0 _ x.qen h1 rfl rfl H _ ls hP hD hS (lv_sub hl [0] rfl)
theorem d_Q_readText_0 : decode prog_6_method_24_code 0 = .ok (.aload_n 0, 1) := by decide +kernel
theorem d_Q_readText_1 : decode prog_6_method_24_code 1 = .ok (.getfield 48, 3) := by decide +kernel
theorem d_Q_readText_4 : decode prog_6_method_24_code 4 = .ok (.iconst 1, 1) := by decide +kernel
theorem d_Q_readText_5 : decode prog_6_method_24_code 5 = .ok (.iadd, 1) := by decide +kernel
theorem d_Q_readText_6 : decode prog_6_method_24_code 6 = .ok (.istore_n 1, 1) := by decide +kernel
theorem d_Q_readText_7 : decode prog_6_method_24_code 7 = .ok (.iload_n 1, 1) := by decide +kernel
theorem d_Q_readText_8 : decode prog_6_method_24_code 8 = .ok (.aload_n 0, 1) := by decide +kernel
theorem d_Q_readText_9 : decode prog_6_method_24_code 9 = .ok (.getfield 22, 3) := by decide +kernel
theorem d_Q_readText_12 : decode prog_6_method_24_code 12 = .ok (.if_icmp .ge 42, 3) := by decide +kernel
theorem d_Q_readText_54 : decode prog_6_method_24_code 54 = .ok (.iload_n 1, 1) := by decide +kernel
theorem d_Q_readText_55 : decode prog_6_method_24_code 55 = .ok (.aload_n 0, 1) := by decide +kernel
theorem d_Q_readText_56 : decode prog_6_method_24_code 56 = .ok (.getfield 22, 3) := by decide +kernel
theorem d_Q_readText_59 : decode prog_6_method_24_code 59 = .ok (.if_icmp .eq 14, 3) := by decide +kernel
theorem d_Q_readText_73 : decode prog_6_method_24_code 73 = .ok (.sipush 263, 3) := by decide +kernel
theorem d_Q_readText_76 : decode prog_6_method_24_code 76 = .ok (.ireturn, 1) := by decide +kernel
theorem d_Q_readText_62 : decode prog_6_method_24_code 62 = .ok (.aload_n 0, 1) := by decide +kernel
theorem d_Q_readText_63 : decode prog_6_method_24_code 63 = .ok (.getfield 9, 3) := by decide +kernel
theorem d_Q_readText_66 : decode prog_6_method_24_code 66 = .ok (.iload_n 1, 1) := by decide +kernel
theorem d_Q_readText_67 : decode prog_6_method_24_code 67 = .ok (.baload, 1) := by decide +kernel
theorem d_Q_readText_68 : decode prog_6_method_24_code 68 = .ok (.bipush 34, 2) := by decide +kernel
theorem d_Q_readText_70 : decode prog_6_method_24_code 70 = .ok (.if_icmp .eq 7, 3) := by decide +kernel
theorem d_Q_readText_77 : decode prog_6_method_24_code 77 = .ok (.aload_n 0, 1) := by decide +kernel
theorem d_Q_readText_78 : decode prog_6_method_24_code 78 = .ok (.iload_n 1, 1) := by decide +kernel
theorem d_Q_readText_79 : decode prog_6_method_24_code 79 = .ok (.iconst 1, 1) := by decide +kernel
theorem d_Q_readText_80 : decode prog_6_method_24_code 80 = .ok (.iadd, 1) := by decide +kernel
theorem d_Q_readText_81 : decode prog_6_method_24_code 81 = .ok (.putfield 32, 3) := by decide +kernel
theorem d_Q_readText_84 : decode prog_6_method_24_code 84 = .ok (.sipush 259, 3) := by decide +kernel
theorem d_Q_readText_87 : decode prog_6_method_24_code 87 = .ok (.ireturn, 1) := by decide +kernel
theorem d_Q_readText_15 : decode prog_6_method_24_code 15 = .ok (.aload_n 0, 1) := by decide +kernel
theorem d_Q_readText_16 : decode prog_6_method_24_code 16 = .ok (.getfield 9, 3) := by decide +kernel
theorem d_Q_readText_19 : decode prog_6_method_24_code 19 = .ok (.iload_n 1, 1) := by decide +kernel
theorem d_Q_readText_20 : decode prog_6_method_24_code 20 = .ok (.baload, 1) := by decide +kernel
theorem d_Q_readText_21 : decode prog_6_method_24_code 21 = .ok (.bipush 34, 2) := by decide +kernel
theorem d_Q_readText_23 : decode prog_6_method_24_code 23 = .ok (.if_icmp .eq 31, 3) := by decide +kernel
theorem d_Q_readText_26 : decode prog_6_method_24_code 26 = .ok (.aload_n 0, 1) := by decide +kernel
theorem d_Q_readText_27 : decode prog_6_method_24_code 27 = .ok (.getfield 9, 3) := by decide +kernel
theorem d_Q_readText_30 : decode prog_6_method_24_code 30 = .ok (.iload_n 1, 1) := by decide +kernel
theorem d_Q_readText_31 : decode prog_6_method_24_code 31 = .ok (.baload, 1) := by decide +kernel
theorem d_Q_readText_32 : decode prog_6_method_24_code 32 = .ok (.bipush 32, 2) := by decide +kernel
theorem d_Q_readText_34 : decode prog_6_method_24_code 34 = .ok (.if_icmp .lt 20, 3) := by decide +kernel
theorem d_Q_readText_37 : decode prog_6_method_24_code 37 = .ok (.aload_n 0, 1) := by decide +kernel
theorem d_Q_readText_38 : decode prog_6_method_24_code 38 = .ok (.getfield 9, 3) := by decide +kernel
theorem d_Q_readText_41 : decode prog_6_method_24_code 41 = .ok (.iload_n 1, 1) := by decide +kernel
theorem d_Q_readText_42 : decode prog_6_method_24_code 42 = .ok (.baload, 1) := by decide +kernel
theorem d_Q_readText_43 : decode prog_6_method_24_code 43 = .ok (.bipush 126, 2) := by decide +kernel
theorem d_Q_readText_45 : decode prog_6_method_24_code 45 = .ok (.if_icmp .gt 9, 3) := by decide +kernel
theorem d_Q_readText_48 : decode prog_6_method_24_code 48 = .ok (.iinc 1 1, 3) := by decide +kernel
theorem d_Q_readText_51 : decode prog_6_method_24_code 51 = .ok (.goto (-44), 3) := by decide +kernel
set_option maxHeartbeats 4000000 in
set_option maxRecDepth 100000 in
theorem v_QreadText (l : Launch) (D : va_G) (dA : Nat → ClassId) (sz : Nat) (h : Nat) (ad : Nat → Nat) (x : VS) (hq : x.qtp = x.tpA) (h2 : x.qlen ≤ x.tpN) (h3 : x.tpN ≤ 131072) (h1 : x.qst < x.qlen) : Met l ⟨"SeriesVault$Question", "readText", "()I"⟩ [Cond.code ⟨"SeriesVault$Question", "readText", "()I"⟩ prog_6_method_24_code 2 (some FieldType.int)] { frames := 1, cells := 0, slots := 0, locals := 0 } (pC D dA [.ref (ad 22)] (VW dA h ad x) sz) (va_Qi (fun (r9 : Int32) (u9 : Unit) => r9 = tvK x.tape x.qlen x.qst) (fun (u9 : Unit) t9 => bW D (va_A (VW dA h ad x) sz) (VW dA h ad (VS.s_qen x (tvN x.tape x.qlen x.qst x.qen))) t9) (va_A (VW dA h ad x) sz)) 0 0 (va_A (VW dA h ad x) sz) := by
  refine mkC (y := ⟨"SeriesVault$Question", "readText", "()I"⟩) (cc := prog_6_method_24_code) (maxL := 2) (av := [.ref (ad 22)]) (ws := VW dA h ad x) (sz := sz) (Qc := fun A => va_Qi (fun (r9 : Int32) (u9 : Unit) => r9 = tvK x.tape x.qlen x.qst) (fun (u9 : Unit) t9 => bW D A (VW dA h ad (VS.s_qen x (tvN x.tape x.qlen x.qst x.qen))) t9) A) (by decide) (Nat.le_of_ble_eq_true rfl) ?_
  intro A p e s m below meth c ls hsz hB
  obtain ⟨hx, hb, hr, hml, hown, hin, hlk, hE, hK, hP, hD, hS, hA, hN, hl⟩ := hB
  have hown : s.vm.findClass "SeriesVault$Question" = some m.cls := hown
  have hl : lv_has ls 2 [(0, .ref (ad 22))] := hl
  obtain ⟨H, hH⟩ : ∃ z, z = s.heap := ⟨_, rfl⟩
  have hP : va_P D vwCl (VW dA h ad x) H := by rw [hH]; exact hP
  have hS : va_S A s.heap H [] := by rw [hH]; exact hS
  rw [← hH]
  refine lv_aload_n hx hb d_Q_readText_0 rfl (lv_at hl 0 rfl) ?_
  refine gF (v := .int (nI x.qst)) hx hb hown hE hK hP 36 rfl rfl layQ 3 (by decide) w662 rfl d_Q_readText_1 ?_
  refine lv_iconst (v := 1) hx hb d_Q_readText_4 (by decide) ?_
  refine lv_iadd hx hb d_Q_readText_5 (tpi (y := nI (x.qst + 1)) (nI_add (x.qst) (1)) ?_)
  refine lv_istore_n hx hb d_Q_readText_6 rfl hl (by decide) rfl (fun ls hl => ?_)
  have hl : lv_has ls 2 [(1, .int (nI (x.qst + 1))), (0, .ref (ad 22))] := hl
  have L7 : ∀ (k9 : Nat) (q : Nat) (i1 : q ≤ x.qlen) (i2 : whE isTv x.tape x.qlen q = whE isTv x.tape x.qlen (x.qst + 1)) (hk9 : x.qlen - q = k9), ∀ (H : Heap) (locs : List Loc) (ls : Array Slot) (hP : va_P D vwCl (VW dA h ad x) H) (hD : va_D A (VW dA h ad x)) (hS : va_S A s.heap H locs) (hl : lv_has ls 2 [(1, .int (nI q)), (0, .ref (ad 22))]), W p l e ({ frames := 1, cells := 0, slots := 0, locals := 0 } : Room) s m ([.ref (ad 22)] : List Value).toArray below meth c H locs 0 0 (MQ below (va_Qi (fun (r9 : Int32) (u9 : Unit) => r9 = tvK x.tape x.qlen x.qst) (fun (u9 : Unit) t9 => bW D A (VW dA h ad (VS.s_qen x (tvN x.tape x.qlen x.qst x.qen))) t9) A) ([.ref (ad 22)] : List Value).toArray s 0 0 A) (F0 m 7 ls []) := by
    intro k9
    induction k9 using Nat.strongRecOn with
    | ind k9 ih7 =>
      intro q i1 i2 hk9 H locs ls hP hD hS hl
      refine lv_iload_n hx hb d_Q_readText_7 rfl (lv_at hl 0 rfl) ?_
      refine lv_aload_n hx hb d_Q_readText_8 rfl (lv_at hl 1 rfl) ?_
      refine gF (v := .int (nI x.qlen)) hx hb hown hE hK hP 36 rfl rfl layQ 1 (by decide) w661 rfl d_Q_readText_9 ?_
      refine lv_icmp_ge hx hb d_Q_readText_12 (tgt := 54) rfl (fun g1 => ?_) (fun g1 => ?_)
      · have g1 := (nI_leI (a := x.qlen) (b := q) (by omega) (by omega)).mp g1
        refine lv_iload_n hx hb d_Q_readText_54 rfl (lv_at hl 0 rfl) ?_
        refine lv_aload_n hx hb d_Q_readText_55 rfl (lv_at hl 1 rfl) ?_
        refine gF (v := .int (nI x.qlen)) hx hb hown hE hK hP 36 rfl rfl layQ 1 (by decide) w661 rfl d_Q_readText_56 ?_
        refine lv_icmp_eq hx hb d_Q_readText_59 (tgt := 73) rfl (fun g2 => ?_) (fun g2 => ?_)
        · have g2 := (nI_eq (a := q) (b := x.qlen) (by omega) (by omega)).mp g2
          refine lv_sipush (v := 263) hx hb d_Q_readText_73 (by decide) ?_
          have e9 : (x : VS) = VS.s_qen x (tvN x.tape x.qlen x.qst x.qen) := by rw [show (tvN x.tape x.qlen x.qst x.qen) = x.qen from by exact tvN_n (by rw [(i2.symm.trans (whE_n (by omega))), atV_f (by omega)]; decide)] <;> rfl
          rw [e9] at hP hD
          exact rfI hx hb hr hlk hS () (tvK_n (by rw [(i2.symm.trans (whE_n (by omega))), atV_f (by omega)]; decide)).symm hP hD (Nat.le_of_ble_eq_true rfl) (Nat.le_of_ble_eq_true rfl) d_Q_readText_76
        · have g2 := mt (nI_eq (a := q) (b := x.qlen) (by omega) (by omega)).mpr g2
          refine lv_aload_n hx hb d_Q_readText_62 rfl (lv_at hl 1 rfl) ?_
          refine gF (v := .ref x.qtp) hx hb hown hE hK hP 36 rfl rfl layQ 0 (by decide) w677 rfl d_Q_readText_63 ?_
          rw [hq]
          refine lv_iload_n hx hb d_Q_readText_66 rfl (lv_at hl 0 rfl) ?_
          refine nbld (f := x.tape) (n := x.tpN) hx hb hK hP (1) 0 rfl rfl (q) (by omega) (by omega) d_Q_readText_67 ?_
          refine lv_bipush (v := 34) hx hb d_Q_readText_68 (by decide) ?_
          refine lv_icmp_eq hx hb d_Q_readText_70 (tgt := 77) rfl (fun g3 => ?_) (fun g3 => ?_)
          · have g3 := g3
            refine lv_aload_n hx hb d_Q_readText_77 rfl (lv_at hl 1 rfl) ?_
            refine lv_iload_n hx hb d_Q_readText_78 rfl (lv_at hl 0 rfl) ?_
            refine lv_iconst (v := 1) hx hb d_Q_readText_79 (by decide) ?_
            refine lv_iadd hx hb d_Q_readText_80 (tpi (y := nI (q + 1)) (nI_add (q) (1)) ?_)
            refine pF (v := .int (nI (q + 1))) hx hb hown hE hK hP hD hS 36 rfl rfl layQ tyQ tokQ nmQ 4 (by decide) w660 rfl rfl rfl (Nat.le_of_ble_eq_true rfl) d_Q_readText_81 (fun H locs hP hD hS => ?_)
            have hP : va_P D vwCl (VW dA h ad (VS.s_qen x (q + 1))) H := hP
            have hD : va_D A (VW dA h ad (VS.s_qen x (q + 1))) := hD
            refine lv_sipush (v := 259) hx hb d_Q_readText_84 (by decide) ?_
            have e9 : (VS.s_qen x (q + 1) : VS) = VS.s_qen x (tvN x.tape x.qlen x.qst x.qen) := by rw [show (tvN x.tape x.qlen x.qst x.qen) = (q + 1) from by rw [tvN_y (by rw [(i2.symm.trans (whE_n (by omega))), atV_t (by omega)]; exact g3), (i2.symm.trans (whE_n (by omega)))]] <;> rfl
            rw [e9] at hP hD
            exact rfI hx hb hr hlk hS () (tvK_y (by rw [(i2.symm.trans (whE_n (by omega))), atV_t (by omega)]; exact g3)).symm hP hD (Nat.le_of_ble_eq_true rfl) (Nat.le_of_ble_eq_true rfl) d_Q_readText_87
          · have g3 := g3
            refine lv_sipush (v := 263) hx hb d_Q_readText_73 (by decide) ?_
            have e9 : (x : VS) = VS.s_qen x (tvN x.tape x.qlen x.qst x.qen) := by rw [show (tvN x.tape x.qlen x.qst x.qen) = x.qen from by exact tvN_n (by rw [(i2.symm.trans (whE_n (by omega))), atV_t (by omega)]; exact g3)] <;> rfl
            rw [e9] at hP hD
            exact rfI hx hb hr hlk hS () (tvK_n (by rw [(i2.symm.trans (whE_n (by omega))), atV_t (by omega)]; exact g3)).symm hP hD (Nat.le_of_ble_eq_true rfl) (Nat.le_of_ble_eq_true rfl) d_Q_readText_76
      · have g1 := mt (nI_leI (a := x.qlen) (b := q) (by omega) (by omega)).mpr g1
        refine lv_aload_n hx hb d_Q_readText_15 rfl (lv_at hl 1 rfl) ?_
        refine gF (v := .ref x.qtp) hx hb hown hE hK hP 36 rfl rfl layQ 0 (by decide) w677 rfl d_Q_readText_16 ?_
        rw [hq]
        refine lv_iload_n hx hb d_Q_readText_19 rfl (lv_at hl 0 rfl) ?_
        refine nbld (f := x.tape) (n := x.tpN) hx hb hK hP (1) 0 rfl rfl (q) (by omega) (by omega) d_Q_readText_20 ?_
        refine lv_bipush (v := 34) hx hb d_Q_readText_21 (by decide) ?_
        refine lv_icmp_eq hx hb d_Q_readText_23 (tgt := 54) rfl (fun g4 => ?_) (fun g4 => ?_)
        · have g4 := g4
          refine lv_iload_n hx hb d_Q_readText_54 rfl (lv_at hl 0 rfl) ?_
          refine lv_aload_n hx hb d_Q_readText_55 rfl (lv_at hl 1 rfl) ?_
          refine gF (v := .int (nI x.qlen)) hx hb hown hE hK hP 36 rfl rfl layQ 1 (by decide) w661 rfl d_Q_readText_56 ?_
          refine lv_icmp_eq hx hb d_Q_readText_59 (tgt := 73) rfl (fun g5 => ?_) (fun g5 => ?_)
          · have g5 := (nI_eq (a := q) (b := x.qlen) (by omega) (by omega)).mp g5
            refine lv_sipush (v := 263) hx hb d_Q_readText_73 (by decide) ?_
            have e9 : (x : VS) = VS.s_qen x (tvN x.tape x.qlen x.qst x.qen) := by rw [show (tvN x.tape x.qlen x.qst x.qen) = x.qen from by exact tvN_n (by rw [(i2.symm.trans (whE_f (by show (!decide _ && (!decide _ && !decide _)) = false; rw [decide_eq_true (p := x.tape q = 34) g4]; simp))), atV_f (by omega)]; decide)] <;> rfl
            rw [e9] at hP hD
            exact rfI hx hb hr hlk hS () (tvK_n (by rw [(i2.symm.trans (whE_f (by show (!decide _ && (!decide _ && !decide _)) = false; rw [decide_eq_true (p := x.tape q = 34) g4]; simp))), atV_f (by omega)]; decide)).symm hP hD (Nat.le_of_ble_eq_true rfl) (Nat.le_of_ble_eq_true rfl) d_Q_readText_76
          · have g5 := mt (nI_eq (a := q) (b := x.qlen) (by omega) (by omega)).mpr g5
            refine lv_aload_n hx hb d_Q_readText_62 rfl (lv_at hl 1 rfl) ?_
            refine gF (v := .ref x.qtp) hx hb hown hE hK hP 36 rfl rfl layQ 0 (by decide) w677 rfl d_Q_readText_63 ?_
            rw [hq]
            refine lv_iload_n hx hb d_Q_readText_66 rfl (lv_at hl 0 rfl) ?_
            refine nbld (f := x.tape) (n := x.tpN) hx hb hK hP (1) 0 rfl rfl (q) (by omega) (by omega) d_Q_readText_67 ?_
            refine lv_bipush (v := 34) hx hb d_Q_readText_68 (by decide) ?_
            refine lv_icmp_eq hx hb d_Q_readText_70 (tgt := 77) rfl (fun _ => ?_) (fun h9 => absurd g4 h9)
            refine lv_aload_n hx hb d_Q_readText_77 rfl (lv_at hl 1 rfl) ?_
            refine lv_iload_n hx hb d_Q_readText_78 rfl (lv_at hl 0 rfl) ?_
            refine lv_iconst (v := 1) hx hb d_Q_readText_79 (by decide) ?_
            refine lv_iadd hx hb d_Q_readText_80 (tpi (y := nI (q + 1)) (nI_add (q) (1)) ?_)
            refine pF (v := .int (nI (q + 1))) hx hb hown hE hK hP hD hS 36 rfl rfl layQ tyQ tokQ nmQ 4 (by decide) w660 rfl rfl rfl (Nat.le_of_ble_eq_true rfl) d_Q_readText_81 (fun H locs hP hD hS => ?_)
            have hP : va_P D vwCl (VW dA h ad (VS.s_qen x (q + 1))) H := hP
            have hD : va_D A (VW dA h ad (VS.s_qen x (q + 1))) := hD
            refine lv_sipush (v := 259) hx hb d_Q_readText_84 (by decide) ?_
            have e9 : (VS.s_qen x (q + 1) : VS) = VS.s_qen x (tvN x.tape x.qlen x.qst x.qen) := by rw [show (tvN x.tape x.qlen x.qst x.qen) = (q + 1) from by rw [tvN_y (by rw [(i2.symm.trans (whE_f (by show (!decide _ && (!decide _ && !decide _)) = false; rw [decide_eq_true (p := x.tape q = 34) g4]; simp))), atV_t (by omega)]; exact g4), (i2.symm.trans (whE_f (by show (!decide _ && (!decide _ && !decide _)) = false; rw [decide_eq_true (p := x.tape q = 34) g4]; simp)))]] <;> rfl
            rw [e9] at hP hD
            exact rfI hx hb hr hlk hS () (tvK_y (by rw [(i2.symm.trans (whE_f (by show (!decide _ && (!decide _ && !decide _)) = false; rw [decide_eq_true (p := x.tape q = 34) g4]; simp))), atV_t (by omega)]; exact g4)).symm hP hD (Nat.le_of_ble_eq_true rfl) (Nat.le_of_ble_eq_true rfl) d_Q_readText_87
        · have g4 := g4
          refine lv_aload_n hx hb d_Q_readText_26 rfl (lv_at hl 1 rfl) ?_
          refine gF (v := .ref x.qtp) hx hb hown hE hK hP 36 rfl rfl layQ 0 (by decide) w677 rfl d_Q_readText_27 ?_
          rw [hq]
          refine lv_iload_n hx hb d_Q_readText_30 rfl (lv_at hl 0 rfl) ?_
          refine nbld (f := x.tape) (n := x.tpN) hx hb hK hP (1) 0 rfl rfl (q) (by omega) (by omega) d_Q_readText_31 ?_
          refine lv_bipush (v := 32) hx hb d_Q_readText_32 (by decide) ?_
          refine lv_icmp_lt hx hb d_Q_readText_34 (tgt := 54) rfl (fun g6 => ?_) (fun g6 => ?_)
          · have g6 := g6
            refine lv_iload_n hx hb d_Q_readText_54 rfl (lv_at hl 0 rfl) ?_
            refine lv_aload_n hx hb d_Q_readText_55 rfl (lv_at hl 1 rfl) ?_
            refine gF (v := .int (nI x.qlen)) hx hb hown hE hK hP 36 rfl rfl layQ 1 (by decide) w661 rfl d_Q_readText_56 ?_
            refine lv_icmp_eq hx hb d_Q_readText_59 (tgt := 73) rfl (fun g7 => ?_) (fun g7 => ?_)
            · have g7 := (nI_eq (a := q) (b := x.qlen) (by omega) (by omega)).mp g7
              refine lv_sipush (v := 263) hx hb d_Q_readText_73 (by decide) ?_
              have e9 : (x : VS) = VS.s_qen x (tvN x.tape x.qlen x.qst x.qen) := by rw [show (tvN x.tape x.qlen x.qst x.qen) = x.qen from by exact tvN_n (by rw [(i2.symm.trans (whE_f (by show (!decide _ && (!decide _ && !decide _)) = false; rw [decide_eq_true (p := x.tape q < 32) g6]; simp))), atV_f (by omega)]; decide)] <;> rfl
              rw [e9] at hP hD
              exact rfI hx hb hr hlk hS () (tvK_n (by rw [(i2.symm.trans (whE_f (by show (!decide _ && (!decide _ && !decide _)) = false; rw [decide_eq_true (p := x.tape q < 32) g6]; simp))), atV_f (by omega)]; decide)).symm hP hD (Nat.le_of_ble_eq_true rfl) (Nat.le_of_ble_eq_true rfl) d_Q_readText_76
            · have g7 := mt (nI_eq (a := q) (b := x.qlen) (by omega) (by omega)).mpr g7
              refine lv_aload_n hx hb d_Q_readText_62 rfl (lv_at hl 1 rfl) ?_
              refine gF (v := .ref x.qtp) hx hb hown hE hK hP 36 rfl rfl layQ 0 (by decide) w677 rfl d_Q_readText_63 ?_
              rw [hq]
              refine lv_iload_n hx hb d_Q_readText_66 rfl (lv_at hl 0 rfl) ?_
              refine nbld (f := x.tape) (n := x.tpN) hx hb hK hP (1) 0 rfl rfl (q) (by omega) (by omega) d_Q_readText_67 ?_
              refine lv_bipush (v := 34) hx hb d_Q_readText_68 (by decide) ?_
              refine lv_icmp_eq hx hb d_Q_readText_70 (tgt := 77) rfl (fun h9 => absurd h9 g4) (fun _ => ?_)
              refine lv_sipush (v := 263) hx hb d_Q_readText_73 (by decide) ?_
              have e9 : (x : VS) = VS.s_qen x (tvN x.tape x.qlen x.qst x.qen) := by rw [show (tvN x.tape x.qlen x.qst x.qen) = x.qen from by exact tvN_n (by rw [(i2.symm.trans (whE_f (by show (!decide _ && (!decide _ && !decide _)) = false; rw [decide_eq_true (p := x.tape q < 32) g6]; simp))), atV_t (by omega)]; exact g4)] <;> rfl
              rw [e9] at hP hD
              exact rfI hx hb hr hlk hS () (tvK_n (by rw [(i2.symm.trans (whE_f (by show (!decide _ && (!decide _ && !decide _)) = false; rw [decide_eq_true (p := x.tape q < 32) g6]; simp))), atV_t (by omega)]; exact g4)).symm hP hD (Nat.le_of_ble_eq_true rfl) (Nat.le_of_ble_eq_true rfl) d_Q_readText_76
          · have g6 := g6
            refine lv_aload_n hx hb d_Q_readText_37 rfl (lv_at hl 1 rfl) ?_
            refine gF (v := .ref x.qtp) hx hb hown hE hK hP 36 rfl rfl layQ 0 (by decide) w677 rfl d_Q_readText_38 ?_
            rw [hq]
            refine lv_iload_n hx hb d_Q_readText_41 rfl (lv_at hl 0 rfl) ?_
            refine nbld (f := x.tape) (n := x.tpN) hx hb hK hP (1) 0 rfl rfl (q) (by omega) (by omega) d_Q_readText_42 ?_
            refine lv_bipush (v := 126) hx hb d_Q_readText_43 (by decide) ?_
            refine lv_icmp_gt hx hb d_Q_readText_45 (tgt := 54) rfl (fun g8 => ?_) (fun g8 => ?_)
            · have g8 := g8
              refine lv_iload_n hx hb d_Q_readText_54 rfl (lv_at hl 0 rfl) ?_
              refine lv_aload_n hx hb d_Q_readText_55 rfl (lv_at hl 1 rfl) ?_
              refine gF (v := .int (nI x.qlen)) hx hb hown hE hK hP 36 rfl rfl layQ 1 (by decide) w661 rfl d_Q_readText_56 ?_
              refine lv_icmp_eq hx hb d_Q_readText_59 (tgt := 73) rfl (fun g9 => ?_) (fun g9 => ?_)
              · have g9 := (nI_eq (a := q) (b := x.qlen) (by omega) (by omega)).mp g9
                refine lv_sipush (v := 263) hx hb d_Q_readText_73 (by decide) ?_
                have e9 : (x : VS) = VS.s_qen x (tvN x.tape x.qlen x.qst x.qen) := by rw [show (tvN x.tape x.qlen x.qst x.qen) = x.qen from by exact tvN_n (by rw [(i2.symm.trans (whE_f (by show (!decide _ && (!decide _ && !decide _)) = false; rw [decide_eq_true (p := 126 < x.tape q) g8]; simp))), atV_f (by omega)]; decide)] <;> rfl
                rw [e9] at hP hD
                exact rfI hx hb hr hlk hS () (tvK_n (by rw [(i2.symm.trans (whE_f (by show (!decide _ && (!decide _ && !decide _)) = false; rw [decide_eq_true (p := 126 < x.tape q) g8]; simp))), atV_f (by omega)]; decide)).symm hP hD (Nat.le_of_ble_eq_true rfl) (Nat.le_of_ble_eq_true rfl) d_Q_readText_76
              · have g9 := mt (nI_eq (a := q) (b := x.qlen) (by omega) (by omega)).mpr g9
                refine lv_aload_n hx hb d_Q_readText_62 rfl (lv_at hl 1 rfl) ?_
                refine gF (v := .ref x.qtp) hx hb hown hE hK hP 36 rfl rfl layQ 0 (by decide) w677 rfl d_Q_readText_63 ?_
                rw [hq]
                refine lv_iload_n hx hb d_Q_readText_66 rfl (lv_at hl 0 rfl) ?_
                refine nbld (f := x.tape) (n := x.tpN) hx hb hK hP (1) 0 rfl rfl (q) (by omega) (by omega) d_Q_readText_67 ?_
                refine lv_bipush (v := 34) hx hb d_Q_readText_68 (by decide) ?_
                refine lv_icmp_eq hx hb d_Q_readText_70 (tgt := 77) rfl (fun h9 => absurd h9 g4) (fun _ => ?_)
                refine lv_sipush (v := 263) hx hb d_Q_readText_73 (by decide) ?_
                have e9 : (x : VS) = VS.s_qen x (tvN x.tape x.qlen x.qst x.qen) := by rw [show (tvN x.tape x.qlen x.qst x.qen) = x.qen from by exact tvN_n (by rw [(i2.symm.trans (whE_f (by show (!decide _ && (!decide _ && !decide _)) = false; rw [decide_eq_true (p := 126 < x.tape q) g8]; simp))), atV_t (by omega)]; exact g4)] <;> rfl
                rw [e9] at hP hD
                exact rfI hx hb hr hlk hS () (tvK_n (by rw [(i2.symm.trans (whE_f (by show (!decide _ && (!decide _ && !decide _)) = false; rw [decide_eq_true (p := 126 < x.tape q) g8]; simp))), atV_t (by omega)]; exact g4)).symm hP hD (Nat.le_of_ble_eq_true rfl) (Nat.le_of_ble_eq_true rfl) d_Q_readText_76
            · have g8 := g8
              refine lv_iinc (k := 0) (v := nI (q + 1)) hx hb d_Q_readText_48 hl rfl (iincN (q) 1 1 (by decide)) (by decide) rfl (fun ls hl => ?_)
              have hl : lv_has ls 2 [(1, .int (nI (q + 1))), (0, .ref (ad 22))] := hl
              refine lv_goto hx hb d_Q_readText_51 (tgt := 7) rfl ?_
              exact ih7 _ (by omega) (q + 1) (by omega) ((whE_t (by omega) (by show (!decide _ && (!decide _ && !decide _)) = true; rw [decide_eq_false g4, decide_eq_false g6, decide_eq_false g8]; rfl)).symm.trans i2) rfl H _ ls hP hD hS (lv_sub hl [0, 1] rfl)
  exact L7 _ (x.qst + 1) (by omega) rfl rfl H _ ls hP hD hS (lv_sub hl [0, 1] rfl)
theorem d_Q_readNumber_0 : decode prog_6_method_22_code 0 = .ok (.aload_n 0, 1) := by decide +kernel
theorem d_Q_readNumber_1 : decode prog_6_method_22_code 1 = .ok (.lconst 0, 1) := by decide +kernel
theorem d_Q_readNumber_2 : decode prog_6_method_22_code 2 = .ok (.putfield 73, 3) := by decide +kernel
theorem d_Q_readNumber_5 : decode prog_6_method_22_code 5 = .ok (.aload_n 0, 1) := by decide +kernel
theorem d_Q_readNumber_6 : decode prog_6_method_22_code 6 = .ok (.getfield 48, 3) := by decide +kernel
theorem d_Q_readNumber_9 : decode prog_6_method_22_code 9 = .ok (.istore_n 1, 1) := by decide +kernel
theorem d_Q_readNumber_10 : decode prog_6_method_22_code 10 = .ok (.iconst 0, 1) := by decide +kernel
theorem d_Q_readNumber_11 : decode prog_6_method_22_code 11 = .ok (.istore_n 2, 1) := by decide +kernel
theorem d_Q_readNumber_12 : decode prog_6_method_22_code 12 = .ok (.iload_n 1, 1) := by decide +kernel
theorem d_Q_readNumber_13 : decode prog_6_method_22_code 13 = .ok (.aload_n 0, 1) := by decide +kernel
theorem d_Q_readNumber_14 : decode prog_6_method_22_code 14 = .ok (.getfield 22, 3) := by decide +kernel
theorem d_Q_readNumber_17 : decode prog_6_method_22_code 17 = .ok (.if_icmp .ge 74, 3) := by decide +kernel
theorem d_Q_readNumber_91 : decode prog_6_method_22_code 91 = .ok (.aload_n 0, 1) := by decide +kernel
theorem d_Q_readNumber_92 : decode prog_6_method_22_code 92 = .ok (.iload_n 1, 1) := by decide +kernel
theorem d_Q_readNumber_93 : decode prog_6_method_22_code 93 = .ok (.putfield 32, 3) := by decide +kernel
theorem d_Q_readNumber_96 : decode prog_6_method_22_code 96 = .ok (.iload_n 2, 1) := by decide +kernel
theorem d_Q_readNumber_97 : decode prog_6_method_22_code 97 = .ok (.ifCond .eq 9, 3) := by decide +kernel
theorem d_Q_readNumber_106 : decode prog_6_method_22_code 106 = .ok (.sipush 257, 3) := by decide +kernel
theorem d_Q_readNumber_109 : decode prog_6_method_22_code 109 = .ok (.ireturn, 1) := by decide +kernel
theorem d_Q_readNumber_100 : decode prog_6_method_22_code 100 = .ok (.sipush 263, 3) := by decide +kernel
theorem d_Q_readNumber_103 : decode prog_6_method_22_code 103 = .ok (.goto 6, 3) := by decide +kernel
theorem d_Q_readNumber_20 : decode prog_6_method_22_code 20 = .ok (.aload_n 0, 1) := by decide +kernel
theorem d_Q_readNumber_21 : decode prog_6_method_22_code 21 = .ok (.getfield 9, 3) := by decide +kernel
theorem d_Q_readNumber_24 : decode prog_6_method_22_code 24 = .ok (.iload_n 1, 1) := by decide +kernel
theorem d_Q_readNumber_25 : decode prog_6_method_22_code 25 = .ok (.baload, 1) := by decide +kernel
theorem d_Q_readNumber_26 : decode prog_6_method_22_code 26 = .ok (.invokestatic 142, 3) := by decide +kernel
theorem d_Q_readNumber_29 : decode prog_6_method_22_code 29 = .ok (.ifCond .eq 62, 3) := by decide +kernel
theorem d_Q_readNumber_32 : decode prog_6_method_22_code 32 = .ok (.aload_n 0, 1) := by decide +kernel
theorem d_Q_readNumber_33 : decode prog_6_method_22_code 33 = .ok (.getfield 9, 3) := by decide +kernel
theorem d_Q_readNumber_36 : decode prog_6_method_22_code 36 = .ok (.iload_n 1, 1) := by decide +kernel
theorem d_Q_readNumber_37 : decode prog_6_method_22_code 37 = .ok (.baload, 1) := by decide +kernel
theorem d_Q_readNumber_38 : decode prog_6_method_22_code 38 = .ok (.bipush 48, 2) := by decide +kernel
theorem d_Q_readNumber_40 : decode prog_6_method_22_code 40 = .ok (.isub, 1) := by decide +kernel
theorem d_Q_readNumber_41 : decode prog_6_method_22_code 41 = .ok (.istore_n 3, 1) := by decide +kernel
theorem d_Q_readNumber_42 : decode prog_6_method_22_code 42 = .ok (.iload_n 2, 1) := by decide +kernel
theorem d_Q_readNumber_43 : decode prog_6_method_22_code 43 = .ok (.ifCond .ne 21, 3) := by decide +kernel
theorem d_Q_readNumber_64 : decode prog_6_method_22_code 64 = .ok (.iconst 1, 1) := by decide +kernel
theorem d_Q_readNumber_65 : decode prog_6_method_22_code 65 = .ok (.goto 4, 3) := by decide +kernel
theorem d_Q_readNumber_69 : decode prog_6_method_22_code 69 = .ok (.istore_n 2, 1) := by decide +kernel
theorem d_Q_readNumber_70 : decode prog_6_method_22_code 70 = .ok (.aload_n 0, 1) := by decide +kernel
theorem d_Q_readNumber_71 : decode prog_6_method_22_code 71 = .ok (.ldc2_w 172, 3) := by decide +kernel
theorem d_Q_readNumber_74 : decode prog_6_method_22_code 74 = .ok (.aload_n 0, 1) := by decide +kernel
theorem d_Q_readNumber_75 : decode prog_6_method_22_code 75 = .ok (.getfield 73, 3) := by decide +kernel
theorem d_Q_readNumber_78 : decode prog_6_method_22_code 78 = .ok (.lmul, 1) := by decide +kernel
theorem d_Q_readNumber_79 : decode prog_6_method_22_code 79 = .ok (.iload_n 3, 1) := by decide +kernel
theorem d_Q_readNumber_80 : decode prog_6_method_22_code 80 = .ok (.i2l, 1) := by decide +kernel
theorem d_Q_readNumber_81 : decode prog_6_method_22_code 81 = .ok (.ladd, 1) := by decide +kernel
theorem d_Q_readNumber_82 : decode prog_6_method_22_code 82 = .ok (.putfield 73, 3) := by decide +kernel
theorem d_Q_readNumber_85 : decode prog_6_method_22_code 85 = .ok (.iinc 1 1, 3) := by decide +kernel
theorem d_Q_readNumber_88 : decode prog_6_method_22_code 88 = .ok (.goto (-76), 3) := by decide +kernel
theorem d_Q_readNumber_46 : decode prog_6_method_22_code 46 = .ok (.aload_n 0, 1) := by decide +kernel
theorem d_Q_readNumber_47 : decode prog_6_method_22_code 47 = .ok (.getfield 73, 3) := by decide +kernel
theorem d_Q_readNumber_50 : decode prog_6_method_22_code 50 = .ok (.ldc2_w 170, 3) := by decide +kernel
theorem d_Q_readNumber_53 : decode prog_6_method_22_code 53 = .ok (.iload_n 3, 1) := by decide +kernel
theorem d_Q_readNumber_54 : decode prog_6_method_22_code 54 = .ok (.i2l, 1) := by decide +kernel
theorem d_Q_readNumber_55 : decode prog_6_method_22_code 55 = .ok (.lsub, 1) := by decide +kernel
theorem d_Q_readNumber_56 : decode prog_6_method_22_code 56 = .ok (.ldc2_w 172, 3) := by decide +kernel
theorem d_Q_readNumber_59 : decode prog_6_method_22_code 59 = .ok (.ldiv, 1) := by decide +kernel
theorem d_Q_readNumber_60 : decode prog_6_method_22_code 60 = .ok (.lcmp, 1) := by decide +kernel
theorem d_Q_readNumber_61 : decode prog_6_method_22_code 61 = .ok (.ifCond .le 7, 3) := by decide +kernel
theorem d_Q_readNumber_68 : decode prog_6_method_22_code 68 = .ok (.iconst 0, 1) := by decide +kernel
theorem w1560 : Cond.fieldLink "SeriesVault$Question" 73 "SeriesVault$Question" "tokenNumber" "J" ∈ aW := aw_of (tb_2 (List.mem_of_getElem? (i := 10) rfl)) rfl
theorem w1561 : Cond.methodLink "SeriesVault$Question" 142 ⟨"SeriesVault$Question", "isDigit", "(I)Z"⟩ ∈ aW := aw_of (tb_6 (List.mem_of_getElem? (i := 193) rfl)) rfl
theorem w1562 : Cond.code ⟨"SeriesVault$Question", "isDigit", "(I)Z"⟩ prog_6_method_20_code 1 (some FieldType.boolean) ∈ aW := aw_of (tb_6 (List.mem_of_getElem? (i := 195) rfl)) rfl
theorem w1563 : Cond.static ⟨"SeriesVault$Question", "isDigit", "(I)Z"⟩ ∈ aW := aw_of (tb_6 (List.mem_of_getElem? (i := 194) rfl)) rfl
theorem w1564 : Cond.constantLong "SeriesVault$Question" 172 10 ∈ aW := aw_of (tb_6 (List.mem_of_getElem? (i := 201) rfl)) rfl
theorem w1565 : Cond.constantLong "SeriesVault$Question" 170 9223372036854775807 ∈ aW := aw_of (tb_6 (List.mem_of_getElem? (i := 200) rfl)) rfl
set_option maxHeartbeats 4000000 in
set_option maxRecDepth 100000 in
theorem v_QreadNumber (l : Launch) (D : va_G) (dA : Nat → ClassId) (sz : Nat) (h : Nat) (ad : Nat → Nat) (x : VS) (hq : x.qtp = x.tpA) (h2 : x.qlen ≤ x.tpN) (h3 : x.tpN ≤ 131072) (h1 : x.qst ≤ x.qlen) : Met l ⟨"SeriesVault$Question", "readNumber", "()I"⟩ [Cond.code ⟨"SeriesVault$Question", "readNumber", "()I"⟩ prog_6_method_22_code 4 (some FieldType.int)] { frames := 2, cells := 0, slots := 0, locals := 20 } (pC D dA [.ref (ad 22)] (VW dA h ad x) sz) (va_Qi (fun (r9 : Int32) (u9 : Nat) => r9 = nuK x.tape x.qst u9 ∧ whE isDg x.tape x.qlen x.qst = x.qst + u9) (fun (u9 : Nat) t9 => bW D (va_A (VW dA h ad x) sz) (VW dA h ad (VS.s_qnum (VS.s_qen x (x.qst + u9)) (nuV x.tape x.qst u9))) t9) (va_A (VW dA h ad x) sz)) 0 0 (va_A (VW dA h ad x) sz) := by
  refine mkC (y := ⟨"SeriesVault$Question", "readNumber", "()I"⟩) (cc := prog_6_method_22_code) (maxL := 4) (av := [.ref (ad 22)]) (ws := VW dA h ad x) (sz := sz) (Qc := fun A => va_Qi (fun (r9 : Int32) (u9 : Nat) => r9 = nuK x.tape x.qst u9 ∧ whE isDg x.tape x.qlen x.qst = x.qst + u9) (fun (u9 : Nat) t9 => bW D A (VW dA h ad (VS.s_qnum (VS.s_qen x (x.qst + u9)) (nuV x.tape x.qst u9))) t9) A) (by decide) (Nat.le_of_ble_eq_true rfl) ?_
  intro A p e s m below meth c ls hsz hB
  obtain ⟨hx, hb, hr, hml, hown, hin, hlk, hE, hK, hP, hD, hS, hA, hN, hl⟩ := hB
  have hown : s.vm.findClass "SeriesVault$Question" = some m.cls := hown
  have hl : lv_has ls 4 [(0, .ref (ad 22))] := hl
  obtain ⟨H, hH⟩ : ∃ z, z = s.heap := ⟨_, rfl⟩
  have hP : va_P D vwCl (VW dA h ad x) H := by rw [hH]; exact hP
  have hS : va_S A s.heap H [] := by rw [hH]; exact hS
  rw [← hH]
  refine lv_aload_n hx hb d_Q_readNumber_0 rfl (lv_at hl 0 rfl) ?_
  refine lv_lconst (v := 0) hx hb d_Q_readNumber_1 (by decide) ?_
  refine pF (v := .long 0) hx hb hown hE hK hP hD hS 36 rfl rfl layQ tyQ tokQ nmQ 5 (by decide) w1560 rfl rfl rfl (Nat.le_of_ble_eq_true rfl) d_Q_readNumber_2 (fun H locs hP hD hS => ?_)
  have hP : va_P D vwCl (VW dA h ad (VS.s_qnum x 0)) H := hP
  have hD : va_D A (VW dA h ad (VS.s_qnum x 0)) := hD
  refine lv_aload_n hx hb d_Q_readNumber_5 rfl (lv_at hl 0 rfl) ?_
  refine gF (v := .int (nI x.qst)) hx hb hown hE hK hP 36 rfl rfl layQ 3 (by decide) w662 rfl d_Q_readNumber_6 ?_
  refine lv_istore_n hx hb d_Q_readNumber_9 rfl hl (by decide) rfl (fun ls hl => ?_)
  have hl : lv_has ls 4 [(1, .int (nI x.qst)), (0, .ref (ad 22))] := hl
  refine lv_iconst (v := 0) hx hb d_Q_readNumber_10 (by decide) ?_
  refine lv_istore_n hx hb d_Q_readNumber_11 rfl hl (by decide) rfl (fun ls hl => ?_)
  have hl : lv_has ls 4 [(2, .int 0), (1, .int (nI x.qst)), (0, .ref (ad 22))] := hl
  have L12 : ∀ (k9 : Nat) (k : Nat) (g : Bool) (i1 : x.qst + k ≤ x.qlen) (i2 : whE isDg x.tape x.qlen (x.qst + k) = whE isDg x.tape x.qlen x.qst) (i3 : g = nuO x.tape x.qst k) (hk9 : x.qlen - (x.qst + k) = k9), ∀ (H : Heap) (locs : List Loc) (ls : Array Slot) (hP : va_P D vwCl (VW dA h ad (VS.s_qnum x (nuV x.tape x.qst k))) H) (hD : va_D A (VW dA h ad (VS.s_qnum x (nuV x.tape x.qst k)))) (hS : va_S A s.heap H locs) (hl : lv_has ls 4 [(1, .int (nI (x.qst + k))), (2, .int (bI g)), (0, .ref (ad 22))]), W p l e ({ frames := 2, cells := 0, slots := 0, locals := 20 } : Room) s m ([.ref (ad 22)] : List Value).toArray below meth c H locs 0 0 (MQ below (va_Qi (fun (r9 : Int32) (u9 : Nat) => r9 = nuK x.tape x.qst u9 ∧ whE isDg x.tape x.qlen x.qst = x.qst + u9) (fun (u9 : Nat) t9 => bW D A (VW dA h ad (VS.s_qnum (VS.s_qen x (x.qst + u9)) (nuV x.tape x.qst u9))) t9) A) ([.ref (ad 22)] : List Value).toArray s 0 0 A) (F0 m 12 ls []) := by
    intro k9
    induction k9 using Nat.strongRecOn with
    | ind k9 ih12 =>
      intro k g i1 i2 i3 hk9 H locs ls hP hD hS hl
      refine lv_iload_n hx hb d_Q_readNumber_12 rfl (lv_at hl 0 rfl) ?_
      refine lv_aload_n hx hb d_Q_readNumber_13 rfl (lv_at hl 2 rfl) ?_
      refine gF (v := .int (nI x.qlen)) hx hb hown hE hK hP 36 rfl rfl layQ 1 (by decide) w661 rfl d_Q_readNumber_14 ?_
      refine lv_icmp_ge hx hb d_Q_readNumber_17 (tgt := 91) rfl (fun g1 => ?_) (fun g1 => ?_)
      · have g1 := (nI_leI (a := x.qlen) (b := x.qst + k) (by omega) (by omega)).mp g1
        refine lv_aload_n hx hb d_Q_readNumber_91 rfl (lv_at hl 2 rfl) ?_
        refine lv_iload_n hx hb d_Q_readNumber_92 rfl (lv_at hl 0 rfl) ?_
        refine pF (v := .int (nI (x.qst + k))) hx hb hown hE hK hP hD hS 36 rfl rfl layQ tyQ tokQ nmQ 4 (by decide) w660 rfl rfl rfl (Nat.le_of_ble_eq_true rfl) d_Q_readNumber_93 (fun H locs hP hD hS => ?_)
        have hP : va_P D vwCl (VW dA h ad (VS.s_qnum (VS.s_qen x (x.qst + k)) (nuV x.tape x.qst k))) H := hP
        have hD : va_D A (VW dA h ad (VS.s_qnum (VS.s_qen x (x.qst + k)) (nuV x.tape x.qst k))) := hD
        refine lv_iload_n hx hb d_Q_readNumber_96 rfl (lv_at hl 1 rfl) ?_
        refine lv_if_eq hx hb d_Q_readNumber_97 (tgt := 106) rfl (fun g2 => ?_) (fun g2 => ?_)
        · have g2 := bI_0 g2
          refine lv_sipush (v := 257) hx hb d_Q_readNumber_106 (by decide) ?_
          exact rfI hx hb hr hlk hS k ⟨by unfold nuK; rw [← i3, g2]; rfl, i2.symm.trans (whE_n (by omega))⟩ hP hD (Nat.le_of_ble_eq_true rfl) (Nat.le_of_ble_eq_true rfl) d_Q_readNumber_109
        · have g2 := bI_n0 g2
          refine lv_sipush (v := 263) hx hb d_Q_readNumber_100 (by decide) ?_
          refine lv_goto hx hb d_Q_readNumber_103 (tgt := 109) rfl ?_
          exact rfI hx hb hr hlk hS k ⟨by unfold nuK; rw [← i3, g2]; rfl, i2.symm.trans (whE_n (by omega))⟩ hP hD (Nat.le_of_ble_eq_true rfl) (Nat.le_of_ble_eq_true rfl) d_Q_readNumber_109
      · have g1 := mt (nI_leI (a := x.qlen) (b := x.qst + k) (by omega) (by omega)).mpr g1
        refine lv_aload_n hx hb d_Q_readNumber_20 rfl (lv_at hl 2 rfl) ?_
        refine gF (v := .ref x.qtp) hx hb hown hE hK hP 36 rfl rfl layQ 0 (by decide) w677 rfl d_Q_readNumber_21 ?_
        rw [hq]
        refine lv_iload_n hx hb d_Q_readNumber_24 rfl (lv_at hl 0 rfl) ?_
        refine nbld (f := x.tape) (n := x.tpN) hx hb hK hP (1) 0 rfl rfl (x.qst + k) (by omega) (by omega) d_Q_readNumber_25 ?_
        have hPc := hP.sub (ws' := []) [] rfl
        have hDc := hD.sub (ws' := []) [] (by decide) rfl
        refine jpI (rnS (As := [.int (x.tape (x.qst + k))]) (rest := []) hx hb hml hown hE hK (hN _ _ hS) hPc hDc (v_QisDigit l D dA H.size (x.tape (x.qst + k))) w1562 w1561 w1563 w665 rfl rfl ⟨⟨by decide, by decide⟩, rfl⟩ ⟨(Nat.le_of_ble_eq_true rfl), (Nat.le_of_ble_eq_true rfl)⟩ rfl hl.1 rfl (Nat.le_of_ble_eq_true rfl) d_Q_readNumber_26 ⟨(Nat.le_of_ble_eq_true rfl), (Nat.le_of_ble_eq_true rfl)⟩) hP hD hS hA (fun r3 u9 H locs hp9 hP hD hS => ?_)
        have hP : va_P D vwCl (VW dA h ad (VS.s_qnum x (nuV x.tape x.qst k))) H := hP
        have hD : va_D A (VW dA h ad (VS.s_qnum x (nuV x.tape x.qst k))) := hD
        replace hp9 : bI (isDg (x.tape (x.qst + k))) = r3 := Eq.symm hp9
        subst hp9
        refine lv_if_eq hx hb d_Q_readNumber_29 (tgt := 91) rfl (fun g5 => ?_) (fun g5 => ?_)
        · have g5 := bI_0 g5
          refine lv_aload_n hx hb d_Q_readNumber_91 rfl (lv_at hl 2 rfl) ?_
          refine lv_iload_n hx hb d_Q_readNumber_92 rfl (lv_at hl 0 rfl) ?_
          refine pF (v := .int (nI (x.qst + k))) hx hb hown hE hK hP hD hS 36 rfl rfl layQ tyQ tokQ nmQ 4 (by decide) w660 rfl rfl rfl (Nat.le_of_ble_eq_true rfl) d_Q_readNumber_93 (fun H locs hP hD hS => ?_)
          have hP : va_P D vwCl (VW dA h ad (VS.s_qnum (VS.s_qen x (x.qst + k)) (nuV x.tape x.qst k))) H := hP
          have hD : va_D A (VW dA h ad (VS.s_qnum (VS.s_qen x (x.qst + k)) (nuV x.tape x.qst k))) := hD
          refine lv_iload_n hx hb d_Q_readNumber_96 rfl (lv_at hl 1 rfl) ?_
          refine lv_if_eq hx hb d_Q_readNumber_97 (tgt := 106) rfl (fun g6 => ?_) (fun g6 => ?_)
          · have g6 := bI_0 g6
            refine lv_sipush (v := 257) hx hb d_Q_readNumber_106 (by decide) ?_
            exact rfI hx hb hr hlk hS k ⟨by unfold nuK; rw [← i3, g6]; rfl, i2.symm.trans (whE_f g5)⟩ hP hD (Nat.le_of_ble_eq_true rfl) (Nat.le_of_ble_eq_true rfl) d_Q_readNumber_109
          · have g6 := bI_n0 g6
            refine lv_sipush (v := 263) hx hb d_Q_readNumber_100 (by decide) ?_
            refine lv_goto hx hb d_Q_readNumber_103 (tgt := 109) rfl ?_
            exact rfI hx hb hr hlk hS k ⟨by unfold nuK; rw [← i3, g6]; rfl, i2.symm.trans (whE_f g5)⟩ hP hD (Nat.le_of_ble_eq_true rfl) (Nat.le_of_ble_eq_true rfl) d_Q_readNumber_109
        · have g5 := bI_n0 g5
          refine lv_aload_n hx hb d_Q_readNumber_32 rfl (lv_at hl 2 rfl) ?_
          refine gF (v := .ref x.qtp) hx hb hown hE hK hP 36 rfl rfl layQ 0 (by decide) w677 rfl d_Q_readNumber_33 ?_
          rw [hq]
          refine lv_iload_n hx hb d_Q_readNumber_36 rfl (lv_at hl 0 rfl) ?_
          refine nbld (f := x.tape) (n := x.tpN) hx hb hK hP (1) 0 rfl rfl (x.qst + k) (by omega) (by omega) d_Q_readNumber_37 ?_
          refine lv_bipush (v := 48) hx hb d_Q_readNumber_38 (by decide) ?_
          refine lv_isub hx hb d_Q_readNumber_40 ?_
          refine lv_istore_n hx hb d_Q_readNumber_41 rfl hl (by decide) rfl (fun ls hl => ?_)
          have hl : lv_has ls 4 [(3, .int ((x.tape (x.qst + k)) - 48)), (1, .int (nI (x.qst + k))), (2, .int (bI g)), (0, .ref (ad 22))] := hl
          refine lv_iload_n hx hb d_Q_readNumber_42 rfl (lv_at hl 2 rfl) ?_
          refine lv_if_ne hx hb d_Q_readNumber_43 (tgt := 64) rfl (fun g7 => ?_) (fun g7 => ?_)
          · have g7 := bI_n0 g7
            refine lv_iconst (v := 1) hx hb d_Q_readNumber_64 (by decide) ?_
            refine lv_goto hx hb d_Q_readNumber_65 (tgt := 69) rfl ?_
            refine lv_istore_n hx hb d_Q_readNumber_69 rfl hl (by decide) rfl (fun ls hl => ?_)
            have hl : lv_has ls 4 [(2, .int 1), (3, .int ((x.tape (x.qst + k)) - 48)), (1, .int (nI (x.qst + k))), (0, .ref (ad 22))] := hl
            refine lv_aload_n hx hb d_Q_readNumber_70 rfl (lv_at hl 3 rfl) ?_
            refine lv_ldc2 (v := 10) hx hb hown (hE.t w1564 rfl) d_Q_readNumber_71 ?_
            refine lv_aload_n hx hb d_Q_readNumber_74 rfl (lv_at hl 3 rfl) ?_
            refine gF (v := .long (nuV x.tape x.qst k)) hx hb hown hE hK hP 36 rfl rfl layQ 5 (by decide) w1560 rfl d_Q_readNumber_75 ?_
            refine lv_lmul hx hb d_Q_readNumber_78 ?_
            refine lv_iload_n hx hb d_Q_readNumber_79 rfl (lv_at hl 1 rfl) ?_
            refine lv_i2l hx hb d_Q_readNumber_80 rfl ?_
            refine lv_ladd hx hb d_Q_readNumber_81 ?_
            refine pF (v := .long ((10 * (nuV x.tape x.qst k)) + (((x.tape (x.qst + k)) - 48).toInt64))) hx hb hown hE hK hP hD hS 36 rfl rfl layQ tyQ tokQ nmQ 5 (by decide) w1560 rfl rfl rfl (Nat.le_of_ble_eq_true rfl) d_Q_readNumber_82 (fun H locs hP hD hS => ?_)
            have hP : va_P D vwCl (VW dA h ad (VS.s_qnum x ((10 * (nuV x.tape x.qst k)) + (((x.tape (x.qst + k)) - 48).toInt64)))) H := hP
            have hD : va_D A (VW dA h ad (VS.s_qnum x ((10 * (nuV x.tape x.qst k)) + (((x.tape (x.qst + k)) - 48).toInt64)))) := hD
            refine lv_iinc (k := 2) (v := nI (x.qst + k + 1)) hx hb d_Q_readNumber_85 hl rfl (iincN (x.qst + k) 1 1 (by decide)) (by decide) rfl (fun ls hl => ?_)
            have hl : lv_has ls 4 [(1, .int (nI (x.qst + k + 1))), (2, .int 1), (3, .int ((x.tape (x.qst + k)) - 48)), (0, .ref (ad 22))] := hl
            refine lv_goto hx hb d_Q_readNumber_88 (tgt := 12) rfl ?_
            exact ih12 _ (by omega) (k + 1) true (by omega) ((whE_t (by omega) g5).symm.trans i2) (by show true = (nuO x.tape x.qst k || decide ((9223372036854775807 - (x.tape (x.qst + k) - 48).toInt64) / 10 < nuV x.tape x.qst k)); rw [← i3, g7]; rfl) rfl H _ ls hP hD hS (lv_sub hl [0, 1, 3] rfl)
          · have g7 := bI_0 g7
            refine lv_aload_n hx hb d_Q_readNumber_46 rfl (lv_at hl 3 rfl) ?_
            refine gF (v := .long (nuV x.tape x.qst k)) hx hb hown hE hK hP 36 rfl rfl layQ 5 (by decide) w1560 rfl d_Q_readNumber_47 ?_
            refine lv_ldc2 (v := 9223372036854775807) hx hb hown (hE.t w1565 rfl) d_Q_readNumber_50 ?_
            refine lv_iload_n hx hb d_Q_readNumber_53 rfl (lv_at hl 0 rfl) ?_
            refine lv_i2l hx hb d_Q_readNumber_54 rfl ?_
            refine lv_lsub hx hb d_Q_readNumber_55 ?_
            refine lv_ldc2 (v := 10) hx hb hown (hE.t w1564 rfl) d_Q_readNumber_56 ?_
            refine lv_ldiv hx hb d_Q_readNumber_59 (by decide) ?_
            refine W.lcmp hx hb d_Q_readNumber_60 ?_
            refine lv_if_le hx hb d_Q_readNumber_61 (tgt := 68) rfl (fun g8 => ?_) (fun g8 => ?_)
            · have g8 := (lg_cmp_le _ _).mp g8
              refine lv_iconst (v := 0) hx hb d_Q_readNumber_68 (by decide) ?_
              refine lv_istore_n hx hb d_Q_readNumber_69 rfl hl (by decide) rfl (fun ls hl => ?_)
              have hl : lv_has ls 4 [(2, .int 0), (3, .int ((x.tape (x.qst + k)) - 48)), (1, .int (nI (x.qst + k))), (0, .ref (ad 22))] := hl
              refine lv_aload_n hx hb d_Q_readNumber_70 rfl (lv_at hl 3 rfl) ?_
              refine lv_ldc2 (v := 10) hx hb hown (hE.t w1564 rfl) d_Q_readNumber_71 ?_
              refine lv_aload_n hx hb d_Q_readNumber_74 rfl (lv_at hl 3 rfl) ?_
              refine gF (v := .long (nuV x.tape x.qst k)) hx hb hown hE hK hP 36 rfl rfl layQ 5 (by decide) w1560 rfl d_Q_readNumber_75 ?_
              refine lv_lmul hx hb d_Q_readNumber_78 ?_
              refine lv_iload_n hx hb d_Q_readNumber_79 rfl (lv_at hl 1 rfl) ?_
              refine lv_i2l hx hb d_Q_readNumber_80 rfl ?_
              refine lv_ladd hx hb d_Q_readNumber_81 ?_
              refine pF (v := .long ((10 * (nuV x.tape x.qst k)) + (((x.tape (x.qst + k)) - 48).toInt64))) hx hb hown hE hK hP hD hS 36 rfl rfl layQ tyQ tokQ nmQ 5 (by decide) w1560 rfl rfl rfl (Nat.le_of_ble_eq_true rfl) d_Q_readNumber_82 (fun H locs hP hD hS => ?_)
              have hP : va_P D vwCl (VW dA h ad (VS.s_qnum x ((10 * (nuV x.tape x.qst k)) + (((x.tape (x.qst + k)) - 48).toInt64)))) H := hP
              have hD : va_D A (VW dA h ad (VS.s_qnum x ((10 * (nuV x.tape x.qst k)) + (((x.tape (x.qst + k)) - 48).toInt64)))) := hD
              refine lv_iinc (k := 2) (v := nI (x.qst + k + 1)) hx hb d_Q_readNumber_85 hl rfl (iincN (x.qst + k) 1 1 (by decide)) (by decide) rfl (fun ls hl => ?_)
              have hl : lv_has ls 4 [(1, .int (nI (x.qst + k + 1))), (2, .int 0), (3, .int ((x.tape (x.qst + k)) - 48)), (0, .ref (ad 22))] := hl
              refine lv_goto hx hb d_Q_readNumber_88 (tgt := 12) rfl ?_
              exact ih12 _ (by omega) (k + 1) false (by omega) ((whE_t (by omega) g5).symm.trans i2) (by show _ = (nuO x.tape x.qst k || decide ((9223372036854775807 - (x.tape (x.qst + k) - 48).toInt64) / 10 < nuV x.tape x.qst k)); rw [← i3, g7]; exact (decide_eq_false (Int64.not_lt.mpr g8)).symm) rfl H _ ls hP hD hS (lv_sub hl [0, 1, 3] rfl)
            · have g8 := mt (lg_cmp_le _ _).mpr g8
              refine lv_iconst (v := 1) hx hb d_Q_readNumber_64 (by decide) ?_
              refine lv_goto hx hb d_Q_readNumber_65 (tgt := 69) rfl ?_
              refine lv_istore_n hx hb d_Q_readNumber_69 rfl hl (by decide) rfl (fun ls hl => ?_)
              have hl : lv_has ls 4 [(2, .int 1), (3, .int ((x.tape (x.qst + k)) - 48)), (1, .int (nI (x.qst + k))), (0, .ref (ad 22))] := hl
              refine lv_aload_n hx hb d_Q_readNumber_70 rfl (lv_at hl 3 rfl) ?_
              refine lv_ldc2 (v := 10) hx hb hown (hE.t w1564 rfl) d_Q_readNumber_71 ?_
              refine lv_aload_n hx hb d_Q_readNumber_74 rfl (lv_at hl 3 rfl) ?_
              refine gF (v := .long (nuV x.tape x.qst k)) hx hb hown hE hK hP 36 rfl rfl layQ 5 (by decide) w1560 rfl d_Q_readNumber_75 ?_
              refine lv_lmul hx hb d_Q_readNumber_78 ?_
              refine lv_iload_n hx hb d_Q_readNumber_79 rfl (lv_at hl 1 rfl) ?_
              refine lv_i2l hx hb d_Q_readNumber_80 rfl ?_
              refine lv_ladd hx hb d_Q_readNumber_81 ?_
              refine pF (v := .long ((10 * (nuV x.tape x.qst k)) + (((x.tape (x.qst + k)) - 48).toInt64))) hx hb hown hE hK hP hD hS 36 rfl rfl layQ tyQ tokQ nmQ 5 (by decide) w1560 rfl rfl rfl (Nat.le_of_ble_eq_true rfl) d_Q_readNumber_82 (fun H locs hP hD hS => ?_)
              have hP : va_P D vwCl (VW dA h ad (VS.s_qnum x ((10 * (nuV x.tape x.qst k)) + (((x.tape (x.qst + k)) - 48).toInt64)))) H := hP
              have hD : va_D A (VW dA h ad (VS.s_qnum x ((10 * (nuV x.tape x.qst k)) + (((x.tape (x.qst + k)) - 48).toInt64)))) := hD
              refine lv_iinc (k := 2) (v := nI (x.qst + k + 1)) hx hb d_Q_readNumber_85 hl rfl (iincN (x.qst + k) 1 1 (by decide)) (by decide) rfl (fun ls hl => ?_)
              have hl : lv_has ls 4 [(1, .int (nI (x.qst + k + 1))), (2, .int 1), (3, .int ((x.tape (x.qst + k)) - 48)), (0, .ref (ad 22))] := hl
              refine lv_goto hx hb d_Q_readNumber_88 (tgt := 12) rfl ?_
              exact ih12 _ (by omega) (k + 1) true (by omega) ((whE_t (by omega) g5).symm.trans i2) (by show _ = (nuO x.tape x.qst k || decide ((9223372036854775807 - (x.tape (x.qst + k) - 48).toInt64) / 10 < nuV x.tape x.qst k)); rw [← i3, g7]; exact (decide_eq_true (Int64.not_le.mp g8)).symm) rfl H _ ls hP hD hS (lv_sub hl [0, 1, 3] rfl)
  exact L12 _ 0 false (by omega) rfl rfl rfl H _ ls hP hD hS (lv_sub hl [1, 0, 2] rfl)
end
section
/-! A token read. -/
def sg11 (z : Int32) : Prop := z = 37 ∨ z = 40 ∨ z = 41 ∨ z = 42 ∨ z = 43 ∨ z = 44 ∨ z = 45 ∨ z = 47 ∨ z = 61 ∨ z = 123 ∨ z = 125
theorem lg_hit {z : Int32} (h : sg11 z) : Op.lookupswitch.offset [(33, 115), (37, 180), (40, 180), (41, 180), (42, 180), (43, 180), (44, 180), (45, 180), (47, 180), (61, 180), (94, 157), (123, 180), (125, 180)] 182 z.toInt = 180 := by
  rcases h with h | h | h | h | h | h | h | h | h | h | h <;> subst h <;> decide
theorem lg_no {z : Int32} (ha : ¬ z = 33) (hb : ¬ z = 94) (h : ¬ sg11 z) : Op.lookupswitch.offset [(33, 115), (37, 180), (40, 180), (41, 180), (42, 180), (43, 180), (44, 180), (45, 180), (47, 180), (61, 180), (94, 157), (123, 180), (125, 180)] 182 z.toInt = 182 := by
  have k : ∀ (a : Int32) (n : Int), a.toInt = n → ¬ z = a → ¬ n = z.toInt := fun a n e g q => g (Int32.toInt_inj.mp (by rw [e, q]))
  unfold sg11 at h
  simp only [not_or] at h
  obtain ⟨h1, h2, h3, h4, h5, h6, h7, h8, h9, h10, h11⟩ := h
  rw [Op.lookupswitch.offset_cons, if_neg (k 33 33 (by decide) ha), Op.lookupswitch.offset_cons, if_neg (k 37 37 (by decide) h1), Op.lookupswitch.offset_cons, if_neg (k 40 40 (by decide) h2), Op.lookupswitch.offset_cons, if_neg (k 41 41 (by decide) h3), Op.lookupswitch.offset_cons, if_neg (k 42 42 (by decide) h4), Op.lookupswitch.offset_cons, if_neg (k 43 43 (by decide) h5), Op.lookupswitch.offset_cons, if_neg (k 44 44 (by decide) h6), Op.lookupswitch.offset_cons, if_neg (k 45 45 (by decide) h7), Op.lookupswitch.offset_cons, if_neg (k 47 47 (by decide) h8), Op.lookupswitch.offset_cons, if_neg (k 61 61 (by decide) h9), Op.lookupswitch.offset_cons, if_neg (k 94 94 (by decide) hb), Op.lookupswitch.offset_cons, if_neg (k 123 123 (by decide) h10), Op.lookupswitch.offset_cons, if_neg (k 125 125 (by decide) h11)]
  rfl
theorem sg4 (z : Int32) : z = 33 ∨ (¬ z = 33 ∧ z = 94) ∨ (¬ z = 33 ∧ ¬ z = 94 ∧ sg11 z) ∨ (¬ z = 33 ∧ ¬ z = 94 ∧ ¬ sg11 z) := by
  by_cases h1 : z = 33
  · exact Or.inl h1
  · by_cases h2 : z = 94
    · exact Or.inr (Or.inl ⟨h1, h2⟩)
    · by_cases h3 : sg11 z
      · exact Or.inr (Or.inr (Or.inl ⟨h1, h2, h3⟩))
      · exact Or.inr (Or.inr (Or.inr ⟨h1, h2, h3⟩))
theorem sg_0 {z y : Int32} (h : z = 33) (h2 : decide (y = 61) = true) : sgV z y = (260, 2) := by unfold sgV; rw [if_pos h, if_pos (of_decide_eq_true h2)]
theorem sg_1 {z y : Int32} (h : z = 33) (h2 : decide (y = 61) = false) (h3 : decide (y = 94) = true) : sgV z y = (262, 2) := by unfold sgV; rw [if_pos h, if_neg (of_decide_eq_false h2), if_pos (of_decide_eq_true h3)]
theorem sg_2 {z y : Int32} (h : z = 33) (h2 : decide (y = 61) = false) (h3 : decide (y = 94) = false) : sgV z y = (263, 1) := by unfold sgV; rw [if_pos h, if_neg (of_decide_eq_false h2), if_neg (of_decide_eq_false h3)]
theorem sg_3 {z y : Int32} (h : ¬ z = 33) (h2 : z = 94) (h3 : decide (y = 61) = true) : sgV z y = (261, 2) := by unfold sgV; rw [if_neg h, if_pos h2, if_pos (of_decide_eq_true h3)]
theorem sg_4 {z y : Int32} (h : ¬ z = 33) (h2 : z = 94) (h3 : decide (y = 61) = false) : sgV z y = (263, 1) := by unfold sgV; rw [if_neg h, if_pos h2, if_neg (of_decide_eq_false h3)]
theorem sg_5 {z y : Int32} (h : ¬ z = 33 ∧ ¬ z = 94 ∧ sg11 z) : sgV z y = (z, 1) := by unfold sgV; rw [if_neg h.1, if_neg h.2.1]; exact if_pos h.2.2
theorem sg_6 {z y : Int32} (h : ¬ z = 33 ∧ ¬ z = 94 ∧ ¬ sg11 z) : sgV z y = (263, 1) := by unfold sgV; rw [if_neg h.1, if_neg h.2.1]; exact if_neg h.2.2
/-- kind, start, end, number of the token that begins at d; m the number before -/
abbrev TD : Type := Int32 × Nat × Nat × Int64
def tkD (f : Nat → Int32) (n : Nat) (m : Int64) (d : Nat) : TD :=
  if d = n then (256, d, n, m) else
  if isDg (f d) = true then (nuK f d (whE isDg f n d - d), d, whE isDg f n d, nuV f d (whE isDg f n d - d)) else
  if isNm (f d) = true then (258, d, whE isNm f n (d + 1), m) else
  if f d = 34 then (tvK f n d, d, tvN f n d (d + 1), m) else
  ((sgV (f d) (atV f n (d + 1))).1, d, d + 1 + ((sgV (f d) (atV f n (d + 1))).2 - 1), m)
theorem tkD_e {f : Nat → Int32} {n d : Nat} {m : Int64} (h : d = n) : tkD f n m d = (256, d, n, m) := if_pos h
theorem tkD_d {f : Nat → Int32} {n d k : Nat} {m : Int64} (h : ¬ d = n) (h1 : isDg (f d) = true) (hk : whE isDg f n d = d + k) : tkD f n m d = (nuK f d k, d, d + k, nuV f d k) := by
  unfold tkD
  rw [if_neg h, if_pos h1, hk, Nat.add_sub_cancel_left]
theorem tkD_n {f : Nat → Int32} {n d : Nat} {m : Int64} (h : ¬ d = n) (h1 : isDg (f d) = false) (h2 : isNm (f d) = true) : tkD f n m d = (258, d, whE isNm f n (d + 1), m) := by
  unfold tkD
  rw [if_neg h, if_neg (by rw [h1]; decide), if_pos h2]
theorem tkD_t {f : Nat → Int32} {n d : Nat} {m : Int64} (h : ¬ d = n) (h1 : isDg (f d) = false) (h2 : isNm (f d) = false) (h3 : f d = 34) : tkD f n m d = (tvK f n d, d, tvN f n d (d + 1), m) := by
  unfold tkD
  rw [if_neg h, if_neg (by rw [h1]; decide), if_neg (by rw [h2]; decide), if_pos h3]
theorem tkD_s {f : Nat → Int32} {n d : Nat} {m : Int64} (h : ¬ d = n) (h1 : isDg (f d) = false) (h2 : isNm (f d) = false) (h3 : ¬ f d = 34) : tkD f n m d = ((sgV (f d) (atV f n (d + 1))).1, d, d + 1 + ((sgV (f d) (atV f n (d + 1))).2 - 1), m) := by
  unfold tkD
  rw [if_neg h, if_neg (by rw [h1]; decide), if_neg (by rw [h2]; decide), if_neg h3]
/-- token and fault: kind, start, end, number, code, place -/
abbrev TKQ : Type := Int32 × Nat × Nat × Int64 × Int32 × Int32
def rfT (t : TKQ) (k : Int32) (q : Nat) : TKQ := if t.2.2.2.2.1 = 0 then (t.1, t.2.1, t.2.2.1, t.2.2.2.1, k, nI q) else t
def mkT (d : TD) (t : TKQ) : TKQ := (d.1, d.2.1, d.2.2.1, d.2.2.2, t.2.2.2.2.1, t.2.2.2.2.2)
def adX (d : TD) (t : TKQ) : TKQ := if d.1 = 263 then rfT (mkT d t) 1 d.2.1 else mkT d t
/-- the next token -/
def nxT (f : Nat → Int32) (n : Nat) (t : TKQ) : TKQ := adX (tkD f n t.2.2.2.1 (whE isSp f n t.2.2.1)) t
def VS.tk (x : VS) : TKQ := (x.qk, x.qst, x.qen, x.qnum, x.qcode, x.qpl)
def VS.wt (x : VS) (t : TKQ) : VS := VS.s_qpl (VS.s_qcode (VS.s_qnum (VS.s_qen (VS.s_qst (VS.s_qk x t.1) t.2.1) t.2.2.1) t.2.2.2.1) t.2.2.2.2.1) t.2.2.2.2.2
def VS.adv (x : VS) : VS := x.wt (nxT x.tape x.qlen x.tk)
theorem rfq_e (x : VS) (k : Int32) (q : Nat) : x.rfq k q = x.wt (rfT x.tk k q) := by
  unfold VS.rfq rfT
  by_cases h : x.qcode = 0
  · rw [if_pos h, if_pos (show x.tk.2.2.2.2.1 = 0 from h)]
    rfl
  · rw [if_neg h, if_neg (show ¬ x.tk.2.2.2.2.1 = 0 from h)]
    rfl
def VS.wd (x : VS) (d : TD) : VS := VS.s_qnum (VS.s_qen (VS.s_qst (VS.s_qk x d.1) d.2.1) d.2.2.1) d.2.2.2
theorem adv_ok {x : VS} {q : Nat} {d : TD} (hq : whE isSp x.tape x.qlen x.qen = q) (hd : tkD x.tape x.qlen x.qnum q = d) (h : ¬ d.1 = 263) : x.wd d = x.adv := by
  unfold VS.adv nxT
  show _ = x.wt (adX (tkD x.tape x.qlen x.qnum (whE isSp x.tape x.qlen x.qen)) x.tk)
  rw [hq, hd]
  unfold adX
  rw [if_neg h]
  rfl
theorem adv_bad {x : VS} {q : Nat} {d : TD} (hq : whE isSp x.tape x.qlen x.qen = q) (hd : tkD x.tape x.qlen x.qnum q = d) (h : d.1 = 263) : (x.wd d).rfq 1 d.2.1 = x.adv := by
  unfold VS.adv nxT
  show _ = x.wt (adX (tkD x.tape x.qlen x.qnum (whE isSp x.tape x.qlen x.qen)) x.tk)
  rw [hq, hd, rfq_e]
  unfold adX
  rw [if_pos h]
  rfl
theorem d_Q_signOf_0 : decode prog_6_method_17_code 0 = .ok (.iload_n 1, 1) := by decide +kernel
theorem d_Q_signOf_1 : decode prog_6_method_17_code 1 = .ok (.lookupswitch 182 #[(33, 115), (37, 180), (40, 180), (41, 180), (42, 180), (43, 180), (44, 180), (45, 180), (47, 180), (61, 180), (94, 157), (123, 180), (125, 180)], 115) := by decide +kernel
theorem d_Q_signOf_116 : decode prog_6_method_17_code 116 = .ok (.aload_n 0, 1) := by decide +kernel
theorem d_Q_signOf_117 : decode prog_6_method_17_code 117 = .ok (.bipush 61, 2) := by decide +kernel
theorem d_Q_signOf_119 : decode prog_6_method_17_code 119 = .ok (.invokevirtual 162, 3) := by decide +kernel
theorem d_Q_signOf_122 : decode prog_6_method_17_code 122 = .ok (.ifCond .eq 13, 3) := by decide +kernel
theorem d_Q_signOf_135 : decode prog_6_method_17_code 135 = .ok (.aload_n 0, 1) := by decide +kernel
theorem d_Q_signOf_136 : decode prog_6_method_17_code 136 = .ok (.bipush 94, 2) := by decide +kernel
theorem d_Q_signOf_138 : decode prog_6_method_17_code 138 = .ok (.invokevirtual 162, 3) := by decide +kernel
theorem d_Q_signOf_141 : decode prog_6_method_17_code 141 = .ok (.ifCond .eq 13, 3) := by decide +kernel
theorem d_Q_signOf_154 : decode prog_6_method_17_code 154 = .ok (.sipush 263, 3) := by decide +kernel
theorem d_Q_signOf_157 : decode prog_6_method_17_code 157 = .ok (.ireturn, 1) := by decide +kernel
theorem d_Q_signOf_144 : decode prog_6_method_17_code 144 = .ok (.aload_n 0, 1) := by decide +kernel
theorem d_Q_signOf_145 : decode prog_6_method_17_code 145 = .ok (.sipush 262, 3) := by decide +kernel
theorem d_Q_signOf_148 : decode prog_6_method_17_code 148 = .ok (.invokevirtual 165, 3) := by decide +kernel
theorem d_Q_signOf_151 : decode prog_6_method_17_code 151 = .ok (.goto 6, 3) := by decide +kernel
theorem d_Q_signOf_125 : decode prog_6_method_17_code 125 = .ok (.aload_n 0, 1) := by decide +kernel
theorem d_Q_signOf_126 : decode prog_6_method_17_code 126 = .ok (.sipush 260, 3) := by decide +kernel
theorem d_Q_signOf_129 : decode prog_6_method_17_code 129 = .ok (.invokevirtual 165, 3) := by decide +kernel
theorem d_Q_signOf_132 : decode prog_6_method_17_code 132 = .ok (.goto 25, 3) := by decide +kernel
theorem d_Q_signOf_158 : decode prog_6_method_17_code 158 = .ok (.aload_n 0, 1) := by decide +kernel
theorem d_Q_signOf_159 : decode prog_6_method_17_code 159 = .ok (.bipush 61, 2) := by decide +kernel
theorem d_Q_signOf_161 : decode prog_6_method_17_code 161 = .ok (.invokevirtual 162, 3) := by decide +kernel
theorem d_Q_signOf_164 : decode prog_6_method_17_code 164 = .ok (.ifCond .eq 13, 3) := by decide +kernel
theorem d_Q_signOf_177 : decode prog_6_method_17_code 177 = .ok (.sipush 263, 3) := by decide +kernel
theorem d_Q_signOf_180 : decode prog_6_method_17_code 180 = .ok (.ireturn, 1) := by decide +kernel
theorem d_Q_signOf_167 : decode prog_6_method_17_code 167 = .ok (.aload_n 0, 1) := by decide +kernel
theorem d_Q_signOf_168 : decode prog_6_method_17_code 168 = .ok (.sipush 261, 3) := by decide +kernel
theorem d_Q_signOf_171 : decode prog_6_method_17_code 171 = .ok (.invokevirtual 165, 3) := by decide +kernel
theorem d_Q_signOf_174 : decode prog_6_method_17_code 174 = .ok (.goto 6, 3) := by decide +kernel
theorem d_Q_signOf_181 : decode prog_6_method_17_code 181 = .ok (.iload_n 1, 1) := by decide +kernel
theorem d_Q_signOf_182 : decode prog_6_method_17_code 182 = .ok (.ireturn, 1) := by decide +kernel
theorem d_Q_signOf_183 : decode prog_6_method_17_code 183 = .ok (.sipush 263, 3) := by decide +kernel
theorem d_Q_signOf_186 : decode prog_6_method_17_code 186 = .ok (.ireturn, 1) := by decide +kernel
theorem w1566 : Cond.methodLink "SeriesVault$Question" 162 ⟨"SeriesVault$Question", "nextIs", "(I)Z"⟩ ∈ aW := aw_of (tb_6 (List.mem_of_getElem? (i := 217) rfl)) rfl
theorem w1567 : Cond.code ⟨"SeriesVault$Question", "nextIs", "(I)Z"⟩ prog_6_method_18_code 2 (some FieldType.boolean) ∈ aW := aw_of (tb_6 (List.mem_of_getElem? (i := 220) rfl)) rfl
theorem w1568 : Cond.instanceMethod ⟨"SeriesVault$Question", "nextIs", "(I)Z"⟩ ∈ aW := aw_of (tb_6 (List.mem_of_getElem? (i := 219) rfl)) rfl
theorem w1569 : Cond.selects "SeriesVault$Question" ⟨"SeriesVault$Question", "nextIs", "(I)Z"⟩ ⟨"SeriesVault$Question", "nextIs", "(I)Z"⟩ ∈ aW := aw_pr (List.mem_map.mpr ⟨_, pv_3 (List.mem_of_getElem? (i := 7) rfl), rfl⟩) rfl
theorem w1570 : Cond.methodLink "SeriesVault$Question" 165 ⟨"SeriesVault$Question", "longer", "(I)I"⟩ ∈ aW := aw_of (tb_6 (List.mem_of_getElem? (i := 221) rfl)) rfl
theorem w1571 : Cond.code ⟨"SeriesVault$Question", "longer", "(I)I"⟩ prog_6_method_19_code 2 (some FieldType.int) ∈ aW := aw_of (tb_6 (List.mem_of_getElem? (i := 224) rfl)) rfl
theorem w1572 : Cond.instanceMethod ⟨"SeriesVault$Question", "longer", "(I)I"⟩ ∈ aW := aw_of (tb_6 (List.mem_of_getElem? (i := 223) rfl)) rfl
theorem w1573 : Cond.selects "SeriesVault$Question" ⟨"SeriesVault$Question", "longer", "(I)I"⟩ ⟨"SeriesVault$Question", "longer", "(I)I"⟩ ∈ aW := aw_pr (List.mem_map.mpr ⟨_, pv_3 (List.mem_of_getElem? (i := 8) rfl), rfl⟩) rfl
set_option maxHeartbeats 4000000 in
set_option maxRecDepth 100000 in
theorem v_QsignOf (l : Launch) (D : va_G) (dA : Nat → ClassId) (sz : Nat) (h : Nat) (ad : Nat → Nat) (x : VS) (z : Int32) (hq : x.qtp = x.tpA) (h2 : x.qlen ≤ x.tpN) (h3 : x.tpN ≤ 131072) (h1a : x.qen ≤ 131072) : Met l ⟨"SeriesVault$Question", "signOf", "(I)I"⟩ [Cond.code ⟨"SeriesVault$Question", "signOf", "(I)I"⟩ prog_6_method_17_code 2 (some FieldType.int)] { frames := 2, cells := 0, slots := 0, locals := 21 } (pC D dA [.ref (ad 22), .int z] (VW dA h ad x) sz) (va_Qi (fun (r9 : Int32) (u9 : Unit) => r9 = (sgV z (atV x.tape x.qlen x.qen)).1) (fun (u9 : Unit) t9 => bW D (va_A (VW dA h ad x) sz) (VW dA h ad (VS.s_qen x (x.qen + ((sgV z (atV x.tape x.qlen x.qen)).2 - 1)))) t9) (va_A (VW dA h ad x) sz)) 0 0 (va_A (VW dA h ad x) sz) := by
  refine mkC (y := ⟨"SeriesVault$Question", "signOf", "(I)I"⟩) (cc := prog_6_method_17_code) (maxL := 2) (av := [.ref (ad 22), .int z]) (ws := VW dA h ad x) (sz := sz) (Qc := fun A => va_Qi (fun (r9 : Int32) (u9 : Unit) => r9 = (sgV z (atV x.tape x.qlen x.qen)).1) (fun (u9 : Unit) t9 => bW D A (VW dA h ad (VS.s_qen x (x.qen + ((sgV z (atV x.tape x.qlen x.qen)).2 - 1)))) t9) A) (by decide) (Nat.le_of_ble_eq_true rfl) ?_
  intro A p e s m below meth c ls hsz hB
  obtain ⟨hx, hb, hr, hml, hown, hin, hlk, hE, hK, hP, hD, hS, hA, hN, hl⟩ := hB
  have hown : s.vm.findClass "SeriesVault$Question" = some m.cls := hown
  have hl : lv_has ls 2 [(0, .ref (ad 22)), (1, .int z)] := hl
  obtain ⟨H, hH⟩ : ∃ z, z = s.heap := ⟨_, rfl⟩
  have hP : va_P D vwCl (VW dA h ad x) H := by rw [hH]; exact hP
  have hS : va_S A s.heap H [] := by rw [hH]; exact hS
  rw [← hH]
  refine lv_iload_n hx hb d_Q_signOf_0 rfl (lv_at hl 1 rfl) ?_
  rcases sg4 z with h1 | h1 | h1 | h1
  · refine lv_lookup (x := z) (off := 115) (tgt := 116) hx hb d_Q_signOf_1 (by decide) (by rw [h1]; decide) rfl ?_
    refine lv_aload_n hx hb d_Q_signOf_116 rfl (lv_at hl 0 rfl) ?_
    refine lv_bipush (v := 61) hx hb d_Q_signOf_117 (by decide) ?_
    refine jkI (wr := []) (rnV (As := [.int 61]) (rest := []) hx hb hml hown hE hK (hN _ _ hS) hP hD (v_QnextIs l D dA H.size h ad x 61 (show x.qtp = x.tpA from by omega) (show x.qlen ≤ x.tpN from by omega) (show x.tpN ≤ 131072 from by omega) (by decide) (show x.qen ≤ 131072 from by omega)) (q0 := 36) rfl rfl w1567 w1566 w1568 w1569 w665 rfl rfl ⟨⟨by decide, by decide⟩, rfl⟩ ⟨(Nat.le_of_ble_eq_true rfl), (Nat.le_of_ble_eq_true rfl)⟩ rfl hl.1 rfl (Nat.le_of_ble_eq_true rfl) d_Q_signOf_119 ⟨(Nat.le_of_ble_eq_true rfl), (Nat.le_of_ble_eq_true rfl)⟩) hP hD hS hA (fun r1 u2 H locs hp9 hP hD hS => ?_)
    have hP : va_P D vwCl (VW dA h ad x) H := hP
    have hD : va_D A (VW dA h ad x) := hD
    replace hp9 : bI (decide (atV x.tape x.qlen x.qen = 61)) = r1 := Eq.symm hp9
    subst hp9
    refine lv_if_eq hx hb d_Q_signOf_122 (tgt := 135) rfl (fun g3 => ?_) (fun g3 => ?_)
    · have g3 := bI_0 g3
      refine lv_aload_n hx hb d_Q_signOf_135 rfl (lv_at hl 0 rfl) ?_
      refine lv_bipush (v := 94) hx hb d_Q_signOf_136 (by decide) ?_
      refine jkI (wr := []) (rnV (As := [.int 94]) (rest := []) hx hb hml hown hE hK (hN _ _ hS) hP hD (v_QnextIs l D dA H.size h ad x 94 (show x.qtp = x.tpA from by omega) (show x.qlen ≤ x.tpN from by omega) (show x.tpN ≤ 131072 from by omega) (by decide) (show x.qen ≤ 131072 from by omega)) (q0 := 36) rfl rfl w1567 w1566 w1568 w1569 w665 rfl rfl ⟨⟨by decide, by decide⟩, rfl⟩ ⟨(Nat.le_of_ble_eq_true rfl), (Nat.le_of_ble_eq_true rfl)⟩ rfl hl.1 rfl (Nat.le_of_ble_eq_true rfl) d_Q_signOf_138 ⟨(Nat.le_of_ble_eq_true rfl), (Nat.le_of_ble_eq_true rfl)⟩) hP hD hS hA (fun r4 u5 H locs hp9 hP hD hS => ?_)
      have hP : va_P D vwCl (VW dA h ad x) H := hP
      have hD : va_D A (VW dA h ad x) := hD
      replace hp9 : bI (decide (atV x.tape x.qlen x.qen = 94)) = r4 := Eq.symm hp9
      subst hp9
      refine lv_if_eq hx hb d_Q_signOf_141 (tgt := 154) rfl (fun g6 => ?_) (fun g6 => ?_)
      · have g6 := bI_0 g6
        refine lv_sipush (v := 263) hx hb d_Q_signOf_154 (by decide) ?_
        have e9 : (x : VS) = VS.s_qen x (x.qen + ((sgV z (atV x.tape x.qlen x.qen)).2 - 1)) := by rw [show (x.qen + ((sgV z (atV x.tape x.qlen x.qen)).2 - 1)) = x.qen from by rw [(sg_2 h1 g3 g6)] <;> rfl] <;> rfl
        rw [e9] at hP hD
        exact rfI hx hb hr hlk hS () (by rw [(sg_2 h1 g3 g6)]) hP hD (Nat.le_of_ble_eq_true rfl) (Nat.le_of_ble_eq_true rfl) d_Q_signOf_157
      · have g6 := bI_n0 g6
        refine lv_aload_n hx hb d_Q_signOf_144 rfl (lv_at hl 0 rfl) ?_
        refine lv_sipush (v := 262) hx hb d_Q_signOf_145 (by decide) ?_
        refine jkI (wr := []) (rnV (As := [.int 262]) (rest := []) hx hb hml hown hE hK (hN _ _ hS) hP hD (v_Qlonger l D dA H.size h ad x 262 (show x.qen ≤ 131072 from by omega)) (q0 := 36) rfl rfl w1571 w1570 w1572 w1573 w665 rfl rfl ⟨⟨by decide, by decide⟩, rfl⟩ ⟨(Nat.le_of_ble_eq_true rfl), (Nat.le_of_ble_eq_true rfl)⟩ rfl hl.1 rfl (Nat.le_of_ble_eq_true rfl) d_Q_signOf_148 ⟨(Nat.le_of_ble_eq_true rfl), (Nat.le_of_ble_eq_true rfl)⟩) hP hD hS hA (fun r7 u8 H locs hp9 hP hD hS => ?_)
        have hP : va_P D vwCl (VW dA h ad (VS.s_qen x (x.qen + 1))) H := hP
        have hD : va_D A (VW dA h ad (VS.s_qen x (x.qen + 1))) := hD
        replace hp9 : 262 = r7 := Eq.symm hp9
        subst hp9
        refine lv_goto hx hb d_Q_signOf_151 (tgt := 157) rfl ?_
        have e9 : (VS.s_qen x (x.qen + 1) : VS) = VS.s_qen x (x.qen + ((sgV z (atV x.tape x.qlen x.qen)).2 - 1)) := by rw [show (x.qen + ((sgV z (atV x.tape x.qlen x.qen)).2 - 1)) = (x.qen + 1) from by rw [(sg_1 h1 g3 g6)] <;> rfl] <;> rfl
        rw [e9] at hP hD
        exact rfI hx hb hr hlk hS () (by rw [(sg_1 h1 g3 g6)]) hP hD (Nat.le_of_ble_eq_true rfl) (Nat.le_of_ble_eq_true rfl) d_Q_signOf_157
    · have g3 := bI_n0 g3
      refine lv_aload_n hx hb d_Q_signOf_125 rfl (lv_at hl 0 rfl) ?_
      refine lv_sipush (v := 260) hx hb d_Q_signOf_126 (by decide) ?_
      refine jkI (wr := []) (rnV (As := [.int 260]) (rest := []) hx hb hml hown hE hK (hN _ _ hS) hP hD (v_Qlonger l D dA H.size h ad x 260 (show x.qen ≤ 131072 from by omega)) (q0 := 36) rfl rfl w1571 w1570 w1572 w1573 w665 rfl rfl ⟨⟨by decide, by decide⟩, rfl⟩ ⟨(Nat.le_of_ble_eq_true rfl), (Nat.le_of_ble_eq_true rfl)⟩ rfl hl.1 rfl (Nat.le_of_ble_eq_true rfl) d_Q_signOf_129 ⟨(Nat.le_of_ble_eq_true rfl), (Nat.le_of_ble_eq_true rfl)⟩) hP hD hS hA (fun r9 u10 H locs hp9 hP hD hS => ?_)
      have hP : va_P D vwCl (VW dA h ad (VS.s_qen x (x.qen + 1))) H := hP
      have hD : va_D A (VW dA h ad (VS.s_qen x (x.qen + 1))) := hD
      replace hp9 : 260 = r9 := Eq.symm hp9
      subst hp9
      refine lv_goto hx hb d_Q_signOf_132 (tgt := 157) rfl ?_
      have e9 : (VS.s_qen x (x.qen + 1) : VS) = VS.s_qen x (x.qen + ((sgV z (atV x.tape x.qlen x.qen)).2 - 1)) := by rw [show (x.qen + ((sgV z (atV x.tape x.qlen x.qen)).2 - 1)) = (x.qen + 1) from by rw [(sg_0 h1 g3)] <;> rfl] <;> rfl
      rw [e9] at hP hD
      exact rfI hx hb hr hlk hS () (by rw [(sg_0 h1 g3)]) hP hD (Nat.le_of_ble_eq_true rfl) (Nat.le_of_ble_eq_true rfl) d_Q_signOf_157
  · refine lv_lookup (x := z) (off := 157) (tgt := 158) hx hb d_Q_signOf_1 (by decide) (by rw [h1.2]; decide) rfl ?_
    refine lv_aload_n hx hb d_Q_signOf_158 rfl (lv_at hl 0 rfl) ?_
    refine lv_bipush (v := 61) hx hb d_Q_signOf_159 (by decide) ?_
    refine jkI (wr := []) (rnV (As := [.int 61]) (rest := []) hx hb hml hown hE hK (hN _ _ hS) hP hD (v_QnextIs l D dA H.size h ad x 61 (show x.qtp = x.tpA from by omega) (show x.qlen ≤ x.tpN from by omega) (show x.tpN ≤ 131072 from by omega) (by decide) (show x.qen ≤ 131072 from by omega)) (q0 := 36) rfl rfl w1567 w1566 w1568 w1569 w665 rfl rfl ⟨⟨by decide, by decide⟩, rfl⟩ ⟨(Nat.le_of_ble_eq_true rfl), (Nat.le_of_ble_eq_true rfl)⟩ rfl hl.1 rfl (Nat.le_of_ble_eq_true rfl) d_Q_signOf_161 ⟨(Nat.le_of_ble_eq_true rfl), (Nat.le_of_ble_eq_true rfl)⟩) hP hD hS hA (fun r11 u12 H locs hp9 hP hD hS => ?_)
    have hP : va_P D vwCl (VW dA h ad x) H := hP
    have hD : va_D A (VW dA h ad x) := hD
    replace hp9 : bI (decide (atV x.tape x.qlen x.qen = 61)) = r11 := Eq.symm hp9
    subst hp9
    refine lv_if_eq hx hb d_Q_signOf_164 (tgt := 177) rfl (fun g13 => ?_) (fun g13 => ?_)
    · have g13 := bI_0 g13
      refine lv_sipush (v := 263) hx hb d_Q_signOf_177 (by decide) ?_
      have e9 : (x : VS) = VS.s_qen x (x.qen + ((sgV z (atV x.tape x.qlen x.qen)).2 - 1)) := by rw [show (x.qen + ((sgV z (atV x.tape x.qlen x.qen)).2 - 1)) = x.qen from by rw [(sg_4 h1.1 h1.2 g13)] <;> rfl] <;> rfl
      rw [e9] at hP hD
      exact rfI hx hb hr hlk hS () (by rw [(sg_4 h1.1 h1.2 g13)]) hP hD (Nat.le_of_ble_eq_true rfl) (Nat.le_of_ble_eq_true rfl) d_Q_signOf_180
    · have g13 := bI_n0 g13
      refine lv_aload_n hx hb d_Q_signOf_167 rfl (lv_at hl 0 rfl) ?_
      refine lv_sipush (v := 261) hx hb d_Q_signOf_168 (by decide) ?_
      refine jkI (wr := []) (rnV (As := [.int 261]) (rest := []) hx hb hml hown hE hK (hN _ _ hS) hP hD (v_Qlonger l D dA H.size h ad x 261 (show x.qen ≤ 131072 from by omega)) (q0 := 36) rfl rfl w1571 w1570 w1572 w1573 w665 rfl rfl ⟨⟨by decide, by decide⟩, rfl⟩ ⟨(Nat.le_of_ble_eq_true rfl), (Nat.le_of_ble_eq_true rfl)⟩ rfl hl.1 rfl (Nat.le_of_ble_eq_true rfl) d_Q_signOf_171 ⟨(Nat.le_of_ble_eq_true rfl), (Nat.le_of_ble_eq_true rfl)⟩) hP hD hS hA (fun r14 u15 H locs hp9 hP hD hS => ?_)
      have hP : va_P D vwCl (VW dA h ad (VS.s_qen x (x.qen + 1))) H := hP
      have hD : va_D A (VW dA h ad (VS.s_qen x (x.qen + 1))) := hD
      replace hp9 : 261 = r14 := Eq.symm hp9
      subst hp9
      refine lv_goto hx hb d_Q_signOf_174 (tgt := 180) rfl ?_
      have e9 : (VS.s_qen x (x.qen + 1) : VS) = VS.s_qen x (x.qen + ((sgV z (atV x.tape x.qlen x.qen)).2 - 1)) := by rw [show (x.qen + ((sgV z (atV x.tape x.qlen x.qen)).2 - 1)) = (x.qen + 1) from by rw [(sg_3 h1.1 h1.2 g13)] <;> rfl] <;> rfl
      rw [e9] at hP hD
      exact rfI hx hb hr hlk hS () (by rw [(sg_3 h1.1 h1.2 g13)]) hP hD (Nat.le_of_ble_eq_true rfl) (Nat.le_of_ble_eq_true rfl) d_Q_signOf_180
  · refine lv_lookup (x := z) (off := 180) (tgt := 181) hx hb d_Q_signOf_1 (by decide) (lg_hit h1.2.2) rfl ?_
    refine lv_iload_n hx hb d_Q_signOf_181 rfl (lv_at hl 1 rfl) ?_
    have e9 : (x : VS) = VS.s_qen x (x.qen + ((sgV z (atV x.tape x.qlen x.qen)).2 - 1)) := by rw [show (x.qen + ((sgV z (atV x.tape x.qlen x.qen)).2 - 1)) = x.qen from by rw [(sg_5 h1)] <;> rfl] <;> rfl
    rw [e9] at hP hD
    exact rfI hx hb hr hlk hS () (by rw [(sg_5 h1)]) hP hD (Nat.le_of_ble_eq_true rfl) (Nat.le_of_ble_eq_true rfl) d_Q_signOf_182
  · refine lv_lookup (x := z) (off := 182) (tgt := 183) hx hb d_Q_signOf_1 (by decide) (lg_no h1.1 h1.2.1 h1.2.2) rfl ?_
    refine lv_sipush (v := 263) hx hb d_Q_signOf_183 (by decide) ?_
    have e9 : (x : VS) = VS.s_qen x (x.qen + ((sgV z (atV x.tape x.qlen x.qen)).2 - 1)) := by rw [show (x.qen + ((sgV z (atV x.tape x.qlen x.qen)).2 - 1)) = x.qen from by rw [(sg_6 h1)] <;> rfl] <;> rfl
    rw [e9] at hP hD
    exact rfI hx hb hr hlk hS () (by rw [(sg_6 h1)]) hP hD (Nat.le_of_ble_eq_true rfl) (Nat.le_of_ble_eq_true rfl) d_Q_signOf_186
theorem d_Q_advance_59 : decode prog_6_method_16_code 59 = .ok (.aload_n 0, 1) := by decide +kernel
theorem d_Q_advance_60 : decode prog_6_method_16_code 60 = .ok (.iload_n 1, 1) := by decide +kernel
theorem d_Q_advance_61 : decode prog_6_method_16_code 61 = .ok (.iconst 1, 1) := by decide +kernel
theorem d_Q_advance_62 : decode prog_6_method_16_code 62 = .ok (.iadd, 1) := by decide +kernel
theorem d_Q_advance_63 : decode prog_6_method_16_code 63 = .ok (.putfield 32, 3) := by decide +kernel
theorem d_Q_advance_66 : decode prog_6_method_16_code 66 = .ok (.aload_n 0, 1) := by decide +kernel
theorem d_Q_advance_67 : decode prog_6_method_16_code 67 = .ok (.getfield 9, 3) := by decide +kernel
theorem d_Q_advance_70 : decode prog_6_method_16_code 70 = .ok (.iload_n 1, 1) := by decide +kernel
theorem d_Q_advance_71 : decode prog_6_method_16_code 71 = .ok (.baload, 1) := by decide +kernel
theorem d_Q_advance_72 : decode prog_6_method_16_code 72 = .ok (.istore_n 2, 1) := by decide +kernel
theorem d_Q_advance_73 : decode prog_6_method_16_code 73 = .ok (.iload_n 2, 1) := by decide +kernel
theorem d_Q_advance_74 : decode prog_6_method_16_code 74 = .ok (.invokestatic 142, 3) := by decide +kernel
theorem d_Q_advance_77 : decode prog_6_method_16_code 77 = .ok (.ifCond .eq 14, 3) := by decide +kernel
theorem d_Q_advance_91 : decode prog_6_method_16_code 91 = .ok (.iload_n 2, 1) := by decide +kernel
theorem d_Q_advance_92 : decode prog_6_method_16_code 92 = .ok (.invokestatic 149, 3) := by decide +kernel
theorem d_Q_advance_95 : decode prog_6_method_16_code 95 = .ok (.ifCond .eq 14, 3) := by decide +kernel
theorem d_Q_advance_109 : decode prog_6_method_16_code 109 = .ok (.aload_n 0, 1) := by decide +kernel
theorem d_Q_advance_110 : decode prog_6_method_16_code 110 = .ok (.iload_n 2, 1) := by decide +kernel
theorem d_Q_advance_111 : decode prog_6_method_16_code 111 = .ok (.bipush 34, 2) := by decide +kernel
theorem d_Q_advance_113 : decode prog_6_method_16_code 113 = .ok (.if_icmp .ne 10, 3) := by decide +kernel
theorem d_Q_advance_123 : decode prog_6_method_16_code 123 = .ok (.aload_n 0, 1) := by decide +kernel
theorem d_Q_advance_124 : decode prog_6_method_16_code 124 = .ok (.iload_n 2, 1) := by decide +kernel
theorem d_Q_advance_125 : decode prog_6_method_16_code 125 = .ok (.invokevirtual 158, 3) := by decide +kernel
theorem d_Q_advance_128 : decode prog_6_method_16_code 128 = .ok (.putfield 45, 3) := by decide +kernel
theorem d_Q_advance_131 : decode prog_6_method_16_code 131 = .ok (.aload_n 0, 1) := by decide +kernel
theorem d_Q_advance_132 : decode prog_6_method_16_code 132 = .ok (.getfield 45, 3) := by decide +kernel
theorem d_Q_advance_135 : decode prog_6_method_16_code 135 = .ok (.sipush 263, 3) := by decide +kernel
theorem d_Q_advance_138 : decode prog_6_method_16_code 138 = .ok (.if_icmp .ne 10, 3) := by decide +kernel
theorem d_Q_advance_148 : decode prog_6_method_16_code 148 = .ok (.return_, 1) := by decide +kernel
theorem d_Q_advance_141 : decode prog_6_method_16_code 141 = .ok (.aload_n 0, 1) := by decide +kernel
theorem d_Q_advance_142 : decode prog_6_method_16_code 142 = .ok (.iconst 1, 1) := by decide +kernel
theorem d_Q_advance_143 : decode prog_6_method_16_code 143 = .ok (.iload_n 1, 1) := by decide +kernel
theorem d_Q_advance_144 : decode prog_6_method_16_code 144 = .ok (.invokevirtual 51, 3) := by decide +kernel
theorem d_Q_advance_147 : decode prog_6_method_16_code 147 = .ok (.pop, 1) := by decide +kernel
theorem d_Q_advance_116 : decode prog_6_method_16_code 116 = .ok (.aload_n 0, 1) := by decide +kernel
theorem d_Q_advance_117 : decode prog_6_method_16_code 117 = .ok (.invokevirtual 155, 3) := by decide +kernel
theorem d_Q_advance_120 : decode prog_6_method_16_code 120 = .ok (.goto 8, 3) := by decide +kernel
theorem d_Q_advance_98 : decode prog_6_method_16_code 98 = .ok (.aload_n 0, 1) := by decide +kernel
theorem d_Q_advance_99 : decode prog_6_method_16_code 99 = .ok (.aload_n 0, 1) := by decide +kernel
theorem d_Q_advance_100 : decode prog_6_method_16_code 100 = .ok (.invokevirtual 152, 3) := by decide +kernel
theorem d_Q_advance_103 : decode prog_6_method_16_code 103 = .ok (.putfield 45, 3) := by decide +kernel
theorem d_Q_advance_106 : decode prog_6_method_16_code 106 = .ok (.goto 25, 3) := by decide +kernel
theorem d_Q_advance_80 : decode prog_6_method_16_code 80 = .ok (.aload_n 0, 1) := by decide +kernel
theorem d_Q_advance_81 : decode prog_6_method_16_code 81 = .ok (.aload_n 0, 1) := by decide +kernel
theorem d_Q_advance_82 : decode prog_6_method_16_code 82 = .ok (.invokevirtual 145, 3) := by decide +kernel
theorem d_Q_advance_85 : decode prog_6_method_16_code 85 = .ok (.putfield 45, 3) := by decide +kernel
theorem d_Q_advance_88 : decode prog_6_method_16_code 88 = .ok (.goto 43, 3) := by decide +kernel
theorem d_Q_advance_13 : decode prog_6_method_16_code 13 = .ok (.aload_n 0, 1) := by decide +kernel
theorem d_Q_advance_14 : decode prog_6_method_16_code 14 = .ok (.getfield 9, 3) := by decide +kernel
theorem d_Q_advance_17 : decode prog_6_method_16_code 17 = .ok (.iload_n 1, 1) := by decide +kernel
theorem d_Q_advance_18 : decode prog_6_method_16_code 18 = .ok (.baload, 1) := by decide +kernel
theorem d_Q_advance_19 : decode prog_6_method_16_code 19 = .ok (.bipush 32, 2) := by decide +kernel
theorem d_Q_advance_21 : decode prog_6_method_16_code 21 = .ok (.if_icmp .ne 9, 3) := by decide +kernel
theorem d_Q_advance_24 : decode prog_6_method_16_code 24 = .ok (.iinc 1 1, 3) := by decide +kernel
theorem d_Q_advance_27 : decode prog_6_method_16_code 27 = .ok (.goto (-22), 3) := by decide +kernel
theorem w1574 : Cond.methodLink "SeriesVault$Question" 158 ⟨"SeriesVault$Question", "signOf", "(I)I"⟩ ∈ aW := aw_of (tb_6 (List.mem_of_getElem? (i := 213) rfl)) rfl
theorem w1575 : Cond.code ⟨"SeriesVault$Question", "signOf", "(I)I"⟩ prog_6_method_17_code 2 (some FieldType.int) ∈ aW := aw_of (tb_6 (List.mem_of_getElem? (i := 216) rfl)) rfl
theorem w1576 : Cond.instanceMethod ⟨"SeriesVault$Question", "signOf", "(I)I"⟩ ∈ aW := aw_of (tb_6 (List.mem_of_getElem? (i := 215) rfl)) rfl
theorem w1577 : Cond.selects "SeriesVault$Question" ⟨"SeriesVault$Question", "signOf", "(I)I"⟩ ⟨"SeriesVault$Question", "signOf", "(I)I"⟩ ∈ aW := aw_pr (List.mem_map.mpr ⟨_, pv_3 (List.mem_of_getElem? (i := 6) rfl), rfl⟩) rfl
theorem w1578 : Cond.methodLink "SeriesVault$Question" 155 ⟨"SeriesVault$Question", "readText", "()I"⟩ ∈ aW := aw_of (tb_6 (List.mem_of_getElem? (i := 209) rfl)) rfl
theorem w1579 : Cond.code ⟨"SeriesVault$Question", "readText", "()I"⟩ prog_6_method_24_code 2 (some FieldType.int) ∈ aW := aw_of (tb_6 (List.mem_of_getElem? (i := 212) rfl)) rfl
theorem w1580 : Cond.instanceMethod ⟨"SeriesVault$Question", "readText", "()I"⟩ ∈ aW := aw_of (tb_6 (List.mem_of_getElem? (i := 211) rfl)) rfl
theorem w1581 : Cond.selects "SeriesVault$Question" ⟨"SeriesVault$Question", "readText", "()I"⟩ ⟨"SeriesVault$Question", "readText", "()I"⟩ ∈ aW := aw_pr (List.mem_map.mpr ⟨_, pv_3 (List.mem_of_getElem? (i := 5) rfl), rfl⟩) rfl
theorem w1582 : Cond.methodLink "SeriesVault$Question" 152 ⟨"SeriesVault$Question", "readName", "()I"⟩ ∈ aW := aw_of (tb_6 (List.mem_of_getElem? (i := 205) rfl)) rfl
theorem w1583 : Cond.code ⟨"SeriesVault$Question", "readName", "()I"⟩ prog_6_method_23_code 1 (some FieldType.int) ∈ aW := aw_of (tb_6 (List.mem_of_getElem? (i := 208) rfl)) rfl
theorem w1584 : Cond.instanceMethod ⟨"SeriesVault$Question", "readName", "()I"⟩ ∈ aW := aw_of (tb_6 (List.mem_of_getElem? (i := 207) rfl)) rfl
theorem w1585 : Cond.selects "SeriesVault$Question" ⟨"SeriesVault$Question", "readName", "()I"⟩ ⟨"SeriesVault$Question", "readName", "()I"⟩ ∈ aW := aw_pr (List.mem_map.mpr ⟨_, pv_3 (List.mem_of_getElem? (i := 4) rfl), rfl⟩) rfl
theorem w1586 : Cond.methodLink "SeriesVault$Question" 145 ⟨"SeriesVault$Question", "readNumber", "()I"⟩ ∈ aW := aw_of (tb_6 (List.mem_of_getElem? (i := 196) rfl)) rfl
theorem w1587 : Cond.code ⟨"SeriesVault$Question", "readNumber", "()I"⟩ prog_6_method_22_code 4 (some FieldType.int) ∈ aW := aw_of (tb_6 (List.mem_of_getElem? (i := 199) rfl)) rfl
theorem w1588 : Cond.instanceMethod ⟨"SeriesVault$Question", "readNumber", "()I"⟩ ∈ aW := aw_of (tb_6 (List.mem_of_getElem? (i := 198) rfl)) rfl
theorem w1589 : Cond.selects "SeriesVault$Question" ⟨"SeriesVault$Question", "readNumber", "()I"⟩ ⟨"SeriesVault$Question", "readNumber", "()I"⟩ ∈ aW := aw_pr (List.mem_map.mpr ⟨_, pv_3 (List.mem_of_getElem? (i := 3) rfl), rfl⟩) rfl
set_option maxHeartbeats 4000000 in
set_option maxRecDepth 100000 in
theorem v_Qadvance (l : Launch) (D : va_G) (dA : Nat → ClassId) (sz : Nat) (h : Nat) (ad : Nat → Nat) (x : VS) (hq : x.qtp = x.tpA) (h2 : x.qlen ≤ x.tpN) (h3 : x.tpN ≤ 131072) (h1 : x.qen ≤ x.qlen) : Met l ⟨"SeriesVault$Question", "advance", "()V"⟩ [Cond.code ⟨"SeriesVault$Question", "advance", "()V"⟩ prog_6_method_16_code 3 none] { frames := 3, cells := 0, slots := 0, locals := 43 } (pC D dA [.ref (ad 22)] (VW dA h ad x) sz) (va_Qv (fun (u9 : VS) => u9 = x.adv) (fun (u9 : VS) t9 => bW D (va_A (VW dA h ad x) sz) (VW dA h ad u9) t9) (va_A (VW dA h ad x) sz)) 0 0 (va_A (VW dA h ad x) sz) := by
  refine mkC (y := ⟨"SeriesVault$Question", "advance", "()V"⟩) (cc := prog_6_method_16_code) (maxL := 3) (av := [.ref (ad 22)]) (ws := VW dA h ad x) (sz := sz) (Qc := fun A => va_Qv (fun (u9 : VS) => u9 = x.adv) (fun (u9 : VS) t9 => bW D A (VW dA h ad u9) t9) A) (by decide) (Nat.le_of_ble_eq_true rfl) ?_
  intro A p e s m below meth c ls hsz hB
  obtain ⟨hx, hb, hr, hml, hown, hin, hlk, hE, hK, hP, hD, hS, hA, hN, hl⟩ := hB
  have hown : s.vm.findClass "SeriesVault$Question" = some m.cls := hown
  have hl : lv_has ls 3 [(0, .ref (ad 22))] := hl
  obtain ⟨H, hH⟩ : ∃ z, z = s.heap := ⟨_, rfl⟩
  have hP : va_P D vwCl (VW dA h ad x) H := by rw [hH]; exact hP
  have hS : va_S A s.heap H [] := by rw [hH]; exact hS
  rw [← hH]
  refine lv_aload_n hx hb d_Q_advance_0 rfl (lv_at hl 0 rfl) ?_
  refine gF (v := .int (nI x.qen)) hx hb hown hE hK hP 36 rfl rfl layQ 4 (by decide) w660 rfl d_Q_advance_1 ?_
  refine lv_istore_n hx hb d_Q_advance_4 rfl hl (by decide) rfl (fun ls hl => ?_)
  have hl : lv_has ls 3 [(1, .int (nI x.qen)), (0, .ref (ad 22))] := hl
  have L5 : ∀ (k9 : Nat) (q : Nat) (i1 : q ≤ x.qlen) (i2 : whE isSp x.tape x.qlen q = whE isSp x.tape x.qlen x.qen) (hk9 : x.qlen - q = k9), ∀ (H : Heap) (locs : List Loc) (ls : Array Slot) (hP : va_P D vwCl (VW dA h ad x) H) (hD : va_D A (VW dA h ad x)) (hS : va_S A s.heap H locs) (hl : lv_has ls 3 [(1, .int (nI q)), (0, .ref (ad 22))]), W p l e ({ frames := 3, cells := 0, slots := 0, locals := 43 } : Room) s m ([.ref (ad 22)] : List Value).toArray below meth c H locs 0 0 (MQ below (va_Qv (fun (u9 : VS) => u9 = x.adv) (fun (u9 : VS) t9 => bW D A (VW dA h ad u9) t9) A) ([.ref (ad 22)] : List Value).toArray s 0 0 A) (F0 m 5 ls []) := by
    intro k9
    induction k9 using Nat.strongRecOn with
    | ind k9 ih5 =>
      intro q i1 i2 hk9 H locs ls hP hD hS hl
      refine lv_iload_n hx hb d_Q_advance_5 rfl (lv_at hl 0 rfl) ?_
      refine lv_aload_n hx hb d_Q_advance_6 rfl (lv_at hl 1 rfl) ?_
      refine gF (v := .int (nI x.qlen)) hx hb hown hE hK hP 36 rfl rfl layQ 1 (by decide) w661 rfl d_Q_advance_7 ?_
      refine lv_icmp_ge hx hb d_Q_advance_10 (tgt := 30) rfl (fun g1 => ?_) (fun g1 => ?_)
      · have g1 := (nI_leI (a := x.qlen) (b := q) (by omega) (by omega)).mp g1
        have ed : whE isSp x.tape x.qlen x.qen = q := i2.symm.trans (whE_n (by omega))
        refine lv_aload_n hx hb d_Q_advance_30 rfl (lv_at hl 1 rfl) ?_
        refine lv_iload_n hx hb d_Q_advance_31 rfl (lv_at hl 0 rfl) ?_
        refine pF (v := .int (nI q)) hx hb hown hE hK hP hD hS 36 rfl rfl layQ tyQ tokQ nmQ 3 (by decide) w662 rfl rfl rfl (Nat.le_of_ble_eq_true rfl) d_Q_advance_32 (fun H locs hP hD hS => ?_)
        have hP : va_P D vwCl (VW dA h ad (VS.s_qst x q)) H := hP
        have hD : va_D A (VW dA h ad (VS.s_qst x q)) := hD
        refine lv_iload_n hx hb d_Q_advance_35 rfl (lv_at hl 0 rfl) ?_
        refine lv_aload_n hx hb d_Q_advance_36 rfl (lv_at hl 1 rfl) ?_
        refine gF (v := .int (nI x.qlen)) hx hb hown hE hK hP 36 rfl rfl layQ 1 (by decide) w661 rfl d_Q_advance_37 ?_
        refine lv_icmp_ne hx hb d_Q_advance_40 (tgt := 59) rfl (fun g2 => ?_) (fun g2 => ?_)
        · have g2 := mt (nI_eq (a := q) (b := x.qlen) (by omega) (by omega)).mpr g2
          refine lv_aload_n hx hb d_Q_advance_59 rfl (lv_at hl 1 rfl) ?_
          refine lv_iload_n hx hb d_Q_advance_60 rfl (lv_at hl 0 rfl) ?_
          refine lv_iconst (v := 1) hx hb d_Q_advance_61 (by decide) ?_
          refine lv_iadd hx hb d_Q_advance_62 (tpi (y := nI (q + 1)) (nI_add (q) (1)) ?_)
          refine pF (v := .int (nI (q + 1))) hx hb hown hE hK hP hD hS 36 rfl rfl layQ tyQ tokQ nmQ 4 (by decide) w660 rfl rfl rfl (Nat.le_of_ble_eq_true rfl) d_Q_advance_63 (fun H locs hP hD hS => ?_)
          have hP : va_P D vwCl (VW dA h ad (VS.s_qen (VS.s_qst x q) (q + 1))) H := hP
          have hD : va_D A (VW dA h ad (VS.s_qen (VS.s_qst x q) (q + 1))) := hD
          refine lv_aload_n hx hb d_Q_advance_66 rfl (lv_at hl 1 rfl) ?_
          refine gF (v := .ref x.qtp) hx hb hown hE hK hP 36 rfl rfl layQ 0 (by decide) w677 rfl d_Q_advance_67 ?_
          rw [hq]
          refine lv_iload_n hx hb d_Q_advance_70 rfl (lv_at hl 0 rfl) ?_
          refine nbld (f := x.tape) (n := x.tpN) hx hb hK hP (1) 0 rfl rfl (q) (by omega) (by omega) d_Q_advance_71 ?_
          refine lv_istore_n hx hb d_Q_advance_72 rfl hl (by decide) rfl (fun ls hl => ?_)
          have hl : lv_has ls 3 [(2, .int (x.tape q)), (1, .int (nI q)), (0, .ref (ad 22))] := hl
          refine lv_iload_n hx hb d_Q_advance_73 rfl (lv_at hl 0 rfl) ?_
          have hPc := hP.sub (ws' := []) [] rfl
          have hDc := hD.sub (ws' := []) [] (by decide) rfl
          refine jpI (rnS (As := [.int (x.tape q)]) (rest := []) hx hb hml hown hE hK (hN _ _ hS) hPc hDc (v_QisDigit l D dA H.size (x.tape q)) w1562 w1561 w1563 w665 rfl rfl ⟨⟨by decide, by decide⟩, rfl⟩ ⟨(Nat.le_of_ble_eq_true rfl), (Nat.le_of_ble_eq_true rfl)⟩ rfl hl.1 rfl (Nat.le_of_ble_eq_true rfl) d_Q_advance_74 ⟨(Nat.le_of_ble_eq_true rfl), (Nat.le_of_ble_eq_true rfl)⟩) hP hD hS hA (fun r3 u9 H locs hp9 hP hD hS => ?_)
          have hP : va_P D vwCl (VW dA h ad (VS.s_qen (VS.s_qst x q) (q + 1))) H := hP
          have hD : va_D A (VW dA h ad (VS.s_qen (VS.s_qst x q) (q + 1))) := hD
          replace hp9 : bI (isDg (x.tape q)) = r3 := Eq.symm hp9
          subst hp9
          refine lv_if_eq hx hb d_Q_advance_77 (tgt := 91) rfl (fun g5 => ?_) (fun g5 => ?_)
          · have g5 := bI_0 g5
            refine lv_iload_n hx hb d_Q_advance_91 rfl (lv_at hl 0 rfl) ?_
            have hPc := hP.sub (ws' := []) [] rfl
            have hDc := hD.sub (ws' := []) [] (by decide) rfl
            refine jpI (rnS (As := [.int (x.tape q)]) (rest := []) hx hb hml hown hE hK (hN _ _ hS) hPc hDc (v_QisOfName l D dA H.size (x.tape q)) w1558 w1557 w1559 w665 rfl rfl ⟨⟨by decide, by decide⟩, rfl⟩ ⟨(Nat.le_of_ble_eq_true rfl), (Nat.le_of_ble_eq_true rfl)⟩ rfl hl.1 rfl (Nat.le_of_ble_eq_true rfl) d_Q_advance_92 ⟨(Nat.le_of_ble_eq_true rfl), (Nat.le_of_ble_eq_true rfl)⟩) hP hD hS hA (fun r6 u9 H locs hp9 hP hD hS => ?_)
            have hP : va_P D vwCl (VW dA h ad (VS.s_qen (VS.s_qst x q) (q + 1))) H := hP
            have hD : va_D A (VW dA h ad (VS.s_qen (VS.s_qst x q) (q + 1))) := hD
            replace hp9 : bI (isNm (x.tape q)) = r6 := Eq.symm hp9
            subst hp9
            refine lv_if_eq hx hb d_Q_advance_95 (tgt := 109) rfl (fun g8 => ?_) (fun g8 => ?_)
            · have g8 := bI_0 g8
              refine lv_aload_n hx hb d_Q_advance_109 rfl (lv_at hl 2 rfl) ?_
              refine lv_iload_n hx hb d_Q_advance_110 rfl (lv_at hl 0 rfl) ?_
              refine lv_bipush (v := 34) hx hb d_Q_advance_111 (by decide) ?_
              refine lv_icmp_ne hx hb d_Q_advance_113 (tgt := 123) rfl (fun g9 => ?_) (fun g9 => ?_)
              · have g9 := g9
                refine lv_aload_n hx hb d_Q_advance_123 rfl (lv_at hl 2 rfl) ?_
                refine lv_iload_n hx hb d_Q_advance_124 rfl (lv_at hl 0 rfl) ?_
                refine jkI (wr := []) (rnV (As := [.int (x.tape q)]) (rest := [.ref (ad 22)]) hx hb hml hown hE hK (hN _ _ hS) hP hD (v_QsignOf l D dA H.size h ad (VS.s_qen (VS.s_qst x q) (q + 1)) (x.tape q) hq (show x.qlen ≤ x.tpN from by omega) (show x.tpN ≤ 131072 from by omega) (show (q + 1) ≤ 131072 from by omega)) (q0 := 36) rfl rfl w1575 w1574 w1576 w1577 w665 rfl rfl ⟨⟨by decide, by decide⟩, rfl⟩ ⟨(Nat.le_of_ble_eq_true rfl), (Nat.le_of_ble_eq_true rfl)⟩ rfl hl.1 rfl (Nat.le_of_ble_eq_true rfl) d_Q_advance_125 ⟨(Nat.le_of_ble_eq_true rfl), (Nat.le_of_ble_eq_true rfl)⟩) hP hD hS hA (fun r10 u11 H locs hp9 hP hD hS => ?_)
                have hP : va_P D vwCl (VW dA h ad (VS.s_qen (VS.s_qst x q) ((q + 1) + ((sgV (x.tape q) (atV x.tape x.qlen (q + 1))).2 - 1)))) H := hP
                have hD : va_D A (VW dA h ad (VS.s_qen (VS.s_qst x q) ((q + 1) + ((sgV (x.tape q) (atV x.tape x.qlen (q + 1))).2 - 1)))) := hD
                replace hp9 : (sgV (x.tape q) (atV x.tape x.qlen (q + 1))).1 = r10 := Eq.symm hp9
                subst hp9
                refine pF (v := .int ((sgV (x.tape q) (atV x.tape x.qlen (q + 1))).1)) hx hb hown hE hK hP hD hS 36 rfl rfl layQ tyQ tokQ nmQ 2 (by decide) w663 rfl rfl rfl (Nat.le_of_ble_eq_true rfl) d_Q_advance_128 (fun H locs hP hD hS => ?_)
                have hP : va_P D vwCl (VW dA h ad (VS.s_qen (VS.s_qst (VS.s_qk x ((sgV (x.tape q) (atV x.tape x.qlen (q + 1))).1)) q) ((q + 1) + ((sgV (x.tape q) (atV x.tape x.qlen (q + 1))).2 - 1)))) H := hP
                have hD : va_D A (VW dA h ad (VS.s_qen (VS.s_qst (VS.s_qk x ((sgV (x.tape q) (atV x.tape x.qlen (q + 1))).1)) q) ((q + 1) + ((sgV (x.tape q) (atV x.tape x.qlen (q + 1))).2 - 1)))) := hD
                refine lv_aload_n hx hb d_Q_advance_131 rfl (lv_at hl 2 rfl) ?_
                refine gF (v := .int ((sgV (x.tape q) (atV x.tape x.qlen (q + 1))).1)) hx hb hown hE hK hP 36 rfl rfl layQ 2 (by decide) w663 rfl d_Q_advance_132 ?_
                refine lv_sipush (v := 263) hx hb d_Q_advance_135 (by decide) ?_
                refine lv_icmp_ne hx hb d_Q_advance_138 (tgt := 148) rfl (fun g12 => ?_) (fun g12 => ?_)
                · have g12 := g12
                  exact rfV hx hb hr hlk hS (VS.s_qen (VS.s_qst (VS.s_qk x ((sgV (x.tape q) (atV x.tape x.qlen (q + 1))).1)) q) ((q + 1) + ((sgV (x.tape q) (atV x.tape x.qlen (q + 1))).2 - 1))) (adv_ok ed (d := ((sgV (x.tape q) (atV x.tape x.qlen (q + 1))).1, q, q + 1 + ((sgV (x.tape q) (atV x.tape x.qlen (q + 1))).2 - 1), x.qnum)) (tkD_s g2 g5 g8 g9) g12) hP hD (Nat.le_of_ble_eq_true rfl) (Nat.le_of_ble_eq_true rfl) d_Q_advance_148
                · have g12 := g12
                  refine lv_aload_n hx hb d_Q_advance_141 rfl (lv_at hl 2 rfl) ?_
                  refine lv_iconst (v := 1) hx hb d_Q_advance_142 (by decide) ?_
                  refine lv_iload_n hx hb d_Q_advance_143 rfl (lv_at hl 1 rfl) ?_
                  refine jkI (wr := []) (rnV (As := [.int 1, .int (nI q)]) (rest := []) hx hb hml hown hE hK (hN _ _ hS) hP hD (v_Qrefuse l D dA H.size h ad (VS.s_qen (VS.s_qst (VS.s_qk x ((sgV (x.tape q) (atV x.tape x.qlen (q + 1))).1)) q) ((q + 1) + ((sgV (x.tape q) (atV x.tape x.qlen (q + 1))).2 - 1))) 1 q) (q0 := 36) rfl rfl w666 w664 w667 w668 w665 rfl rfl ⟨⟨by decide, by decide⟩, rfl⟩ ⟨(Nat.le_of_ble_eq_true rfl), (Nat.le_of_ble_eq_true rfl)⟩ rfl hl.1 rfl (Nat.le_of_ble_eq_true rfl) d_Q_advance_144 ⟨(Nat.le_of_ble_eq_true rfl), (Nat.le_of_ble_eq_true rfl)⟩) hP hD hS hA (fun r13 u14 H locs hp9 hP hD hS => ?_)
                  obtain ⟨y1, h9u⟩ : ∃ z9, z9 = u14 := ⟨_, rfl⟩
                  subst h9u
                  have hP : va_P D vwCl (VW dA h ad y1) H := hP
                  have hD : va_D A (VW dA h ad y1) := hD
                  obtain ⟨hp9, f_e_15⟩ := hp9
                  replace hp9 : 0 = r13 := Eq.symm hp9
                  subst hp9
                  refine lv_pop hx hb d_Q_advance_147 rfl ?_
                  exact rfV hx hb hr hlk hS y1 (f_e_15.trans (adv_bad ed (d := ((sgV (x.tape q) (atV x.tape x.qlen (q + 1))).1, q, q + 1 + ((sgV (x.tape q) (atV x.tape x.qlen (q + 1))).2 - 1), x.qnum)) (tkD_s g2 g5 g8 g9) g12)) hP hD (Nat.le_of_ble_eq_true rfl) (Nat.le_of_ble_eq_true rfl) d_Q_advance_148
              · have g9 := g9
                refine lv_aload_n hx hb d_Q_advance_116 rfl (lv_at hl 2 rfl) ?_
                refine jkI (wr := []) (rnV (As := []) (rest := [.ref (ad 22)]) hx hb hml hown hE hK (hN _ _ hS) hP hD (v_QreadText l D dA H.size h ad (VS.s_qen (VS.s_qst x q) (q + 1)) hq (show x.qlen ≤ x.tpN from by omega) (show x.tpN ≤ 131072 from by omega) (show q < x.qlen from by omega)) (q0 := 36) rfl rfl w1579 w1578 w1580 w1581 w665 rfl rfl ⟨⟨by decide, by decide⟩, rfl⟩ ⟨(Nat.le_of_ble_eq_true rfl), (Nat.le_of_ble_eq_true rfl)⟩ rfl hl.1 rfl (Nat.le_of_ble_eq_true rfl) d_Q_advance_117 ⟨(Nat.le_of_ble_eq_true rfl), (Nat.le_of_ble_eq_true rfl)⟩) hP hD hS hA (fun r16 u17 H locs hp9 hP hD hS => ?_)
                have hP : va_P D vwCl (VW dA h ad (VS.s_qen (VS.s_qst x q) (tvN x.tape x.qlen q (q + 1)))) H := hP
                have hD : va_D A (VW dA h ad (VS.s_qen (VS.s_qst x q) (tvN x.tape x.qlen q (q + 1)))) := hD
                replace hp9 : tvK x.tape x.qlen q = r16 := Eq.symm hp9
                subst hp9
                refine lv_goto hx hb d_Q_advance_120 (tgt := 128) rfl ?_
                refine pF (v := .int (tvK x.tape x.qlen q)) hx hb hown hE hK hP hD hS 36 rfl rfl layQ tyQ tokQ nmQ 2 (by decide) w663 rfl rfl rfl (Nat.le_of_ble_eq_true rfl) d_Q_advance_128 (fun H locs hP hD hS => ?_)
                have hP : va_P D vwCl (VW dA h ad (VS.s_qen (VS.s_qst (VS.s_qk x (tvK x.tape x.qlen q)) q) (tvN x.tape x.qlen q (q + 1)))) H := hP
                have hD : va_D A (VW dA h ad (VS.s_qen (VS.s_qst (VS.s_qk x (tvK x.tape x.qlen q)) q) (tvN x.tape x.qlen q (q + 1)))) := hD
                refine lv_aload_n hx hb d_Q_advance_131 rfl (lv_at hl 2 rfl) ?_
                refine gF (v := .int (tvK x.tape x.qlen q)) hx hb hown hE hK hP 36 rfl rfl layQ 2 (by decide) w663 rfl d_Q_advance_132 ?_
                refine lv_sipush (v := 263) hx hb d_Q_advance_135 (by decide) ?_
                refine lv_icmp_ne hx hb d_Q_advance_138 (tgt := 148) rfl (fun g18 => ?_) (fun g18 => ?_)
                · have g18 := g18
                  exact rfV hx hb hr hlk hS (VS.s_qen (VS.s_qst (VS.s_qk x (tvK x.tape x.qlen q)) q) (tvN x.tape x.qlen q (q + 1))) (adv_ok ed (d := (tvK x.tape x.qlen q, q, tvN x.tape x.qlen q (q + 1), x.qnum)) (tkD_t g2 g5 g8 g9) g18) hP hD (Nat.le_of_ble_eq_true rfl) (Nat.le_of_ble_eq_true rfl) d_Q_advance_148
                · have g18 := g18
                  refine lv_aload_n hx hb d_Q_advance_141 rfl (lv_at hl 2 rfl) ?_
                  refine lv_iconst (v := 1) hx hb d_Q_advance_142 (by decide) ?_
                  refine lv_iload_n hx hb d_Q_advance_143 rfl (lv_at hl 1 rfl) ?_
                  refine jkI (wr := []) (rnV (As := [.int 1, .int (nI q)]) (rest := []) hx hb hml hown hE hK (hN _ _ hS) hP hD (v_Qrefuse l D dA H.size h ad (VS.s_qen (VS.s_qst (VS.s_qk x (tvK x.tape x.qlen q)) q) (tvN x.tape x.qlen q (q + 1))) 1 q) (q0 := 36) rfl rfl w666 w664 w667 w668 w665 rfl rfl ⟨⟨by decide, by decide⟩, rfl⟩ ⟨(Nat.le_of_ble_eq_true rfl), (Nat.le_of_ble_eq_true rfl)⟩ rfl hl.1 rfl (Nat.le_of_ble_eq_true rfl) d_Q_advance_144 ⟨(Nat.le_of_ble_eq_true rfl), (Nat.le_of_ble_eq_true rfl)⟩) hP hD hS hA (fun r19 u20 H locs hp9 hP hD hS => ?_)
                  obtain ⟨y1, h9u⟩ : ∃ z9, z9 = u20 := ⟨_, rfl⟩
                  subst h9u
                  have hP : va_P D vwCl (VW dA h ad y1) H := hP
                  have hD : va_D A (VW dA h ad y1) := hD
                  obtain ⟨hp9, f_e_21⟩ := hp9
                  replace hp9 : 0 = r19 := Eq.symm hp9
                  subst hp9
                  refine lv_pop hx hb d_Q_advance_147 rfl ?_
                  exact rfV hx hb hr hlk hS y1 (f_e_21.trans (adv_bad ed (d := (tvK x.tape x.qlen q, q, tvN x.tape x.qlen q (q + 1), x.qnum)) (tkD_t g2 g5 g8 g9) g18)) hP hD (Nat.le_of_ble_eq_true rfl) (Nat.le_of_ble_eq_true rfl) d_Q_advance_148
            · have g8 := bI_n0 g8
              refine lv_aload_n hx hb d_Q_advance_98 rfl (lv_at hl 2 rfl) ?_
              refine lv_aload_n hx hb d_Q_advance_99 rfl (lv_at hl 2 rfl) ?_
              refine jkI (wr := []) (rnV (As := []) (rest := [.ref (ad 22)]) hx hb hml hown hE hK (hN _ _ hS) hP hD (v_QreadName l D dA H.size h ad (VS.s_qen (VS.s_qst x q) (q + 1)) hq (show x.qlen ≤ x.tpN from by omega) (show x.tpN ≤ 131072 from by omega) (show (q + 1) ≤ x.qlen from by omega)) (q0 := 36) rfl rfl w1583 w1582 w1584 w1585 w665 rfl rfl ⟨⟨by decide, by decide⟩, rfl⟩ ⟨(Nat.le_of_ble_eq_true rfl), (Nat.le_of_ble_eq_true rfl)⟩ rfl hl.1 rfl (Nat.le_of_ble_eq_true rfl) d_Q_advance_100 ⟨(Nat.le_of_ble_eq_true rfl), (Nat.le_of_ble_eq_true rfl)⟩) hP hD hS hA (fun r22 u23 H locs hp9 hP hD hS => ?_)
              have hP : va_P D vwCl (VW dA h ad (VS.s_qen (VS.s_qst x q) (whE isNm x.tape x.qlen (q + 1)))) H := hP
              have hD : va_D A (VW dA h ad (VS.s_qen (VS.s_qst x q) (whE isNm x.tape x.qlen (q + 1)))) := hD
              replace hp9 : 258 = r22 := Eq.symm hp9
              subst hp9
              refine pF (v := .int 258) hx hb hown hE hK hP hD hS 36 rfl rfl layQ tyQ tokQ nmQ 2 (by decide) w663 rfl rfl rfl (Nat.le_of_ble_eq_true rfl) d_Q_advance_103 (fun H locs hP hD hS => ?_)
              have hP : va_P D vwCl (VW dA h ad (VS.s_qen (VS.s_qst (VS.s_qk x 258) q) (whE isNm x.tape x.qlen (q + 1)))) H := hP
              have hD : va_D A (VW dA h ad (VS.s_qen (VS.s_qst (VS.s_qk x 258) q) (whE isNm x.tape x.qlen (q + 1)))) := hD
              refine lv_goto hx hb d_Q_advance_106 (tgt := 131) rfl ?_
              refine lv_aload_n hx hb d_Q_advance_131 rfl (lv_at hl 2 rfl) ?_
              refine gF (v := .int 258) hx hb hown hE hK hP 36 rfl rfl layQ 2 (by decide) w663 rfl d_Q_advance_132 ?_
              refine lv_sipush (v := 263) hx hb d_Q_advance_135 (by decide) ?_
              refine lv_icmp_ne hx hb d_Q_advance_138 (tgt := 148) rfl (fun _ => ?_) (fun h9 => absurd h9 (by decide))
              exact rfV hx hb hr hlk hS (VS.s_qen (VS.s_qst (VS.s_qk x 258) q) (whE isNm x.tape x.qlen (q + 1))) (adv_ok ed (d := (258, q, whE isNm x.tape x.qlen (q + 1), x.qnum)) (tkD_n g2 g5 g8) (show ¬ (258 : Int32) = 263 by decide)) hP hD (Nat.le_of_ble_eq_true rfl) (Nat.le_of_ble_eq_true rfl) d_Q_advance_148
          · have g5 := bI_n0 g5
            refine lv_aload_n hx hb d_Q_advance_80 rfl (lv_at hl 2 rfl) ?_
            refine lv_aload_n hx hb d_Q_advance_81 rfl (lv_at hl 2 rfl) ?_
            refine jkI (wr := []) (rnV (As := []) (rest := [.ref (ad 22)]) hx hb hml hown hE hK (hN _ _ hS) hP hD (v_QreadNumber l D dA H.size h ad (VS.s_qen (VS.s_qst x q) (q + 1)) hq (show x.qlen ≤ x.tpN from by omega) (show x.tpN ≤ 131072 from by omega) (show q ≤ x.qlen from by omega)) (q0 := 36) rfl rfl w1587 w1586 w1588 w1589 w665 rfl rfl ⟨⟨by decide, by decide⟩, rfl⟩ ⟨(Nat.le_of_ble_eq_true rfl), (Nat.le_of_ble_eq_true rfl)⟩ rfl hl.1 rfl (Nat.le_of_ble_eq_true rfl) d_Q_advance_82 ⟨(Nat.le_of_ble_eq_true rfl), (Nat.le_of_ble_eq_true rfl)⟩) hP hD hS hA (fun r24 u25 H locs hp9 hP hD hS => ?_)
            obtain ⟨k, h9u⟩ : ∃ z9, z9 = u25 := ⟨_, rfl⟩
            subst h9u
            have hP : va_P D vwCl (VW dA h ad (VS.s_qnum (VS.s_qen (VS.s_qst x q) (q + k)) (nuV x.tape q k))) H := hP
            have hD : va_D A (VW dA h ad (VS.s_qnum (VS.s_qen (VS.s_qst x q) (q + k)) (nuV x.tape q k))) := hD
            obtain ⟨hp9, f_e_26⟩ := hp9
            replace hp9 : nuK x.tape q k = r24 := Eq.symm hp9
            subst hp9
            refine pF (v := .int (nuK x.tape q k)) hx hb hown hE hK hP hD hS 36 rfl rfl layQ tyQ tokQ nmQ 2 (by decide) w663 rfl rfl rfl (Nat.le_of_ble_eq_true rfl) d_Q_advance_85 (fun H locs hP hD hS => ?_)
            have hP : va_P D vwCl (VW dA h ad (VS.s_qnum (VS.s_qen (VS.s_qst (VS.s_qk x (nuK x.tape q k)) q) (q + k)) (nuV x.tape q k))) H := hP
            have hD : va_D A (VW dA h ad (VS.s_qnum (VS.s_qen (VS.s_qst (VS.s_qk x (nuK x.tape q k)) q) (q + k)) (nuV x.tape q k))) := hD
            refine lv_goto hx hb d_Q_advance_88 (tgt := 131) rfl ?_
            refine lv_aload_n hx hb d_Q_advance_131 rfl (lv_at hl 2 rfl) ?_
            refine gF (v := .int (nuK x.tape q k)) hx hb hown hE hK hP 36 rfl rfl layQ 2 (by decide) w663 rfl d_Q_advance_132 ?_
            refine lv_sipush (v := 263) hx hb d_Q_advance_135 (by decide) ?_
            refine lv_icmp_ne hx hb d_Q_advance_138 (tgt := 148) rfl (fun g27 => ?_) (fun g27 => ?_)
            · have g27 := g27
              exact rfV hx hb hr hlk hS (VS.s_qnum (VS.s_qen (VS.s_qst (VS.s_qk x (nuK x.tape q k)) q) (q + k)) (nuV x.tape q k)) (adv_ok ed (d := (nuK x.tape q k, q, q + k, nuV x.tape q k)) (tkD_d g2 g5 f_e_26) g27) hP hD (Nat.le_of_ble_eq_true rfl) (Nat.le_of_ble_eq_true rfl) d_Q_advance_148
            · have g27 := g27
              refine lv_aload_n hx hb d_Q_advance_141 rfl (lv_at hl 2 rfl) ?_
              refine lv_iconst (v := 1) hx hb d_Q_advance_142 (by decide) ?_
              refine lv_iload_n hx hb d_Q_advance_143 rfl (lv_at hl 1 rfl) ?_
              refine jkI (wr := []) (rnV (As := [.int 1, .int (nI q)]) (rest := []) hx hb hml hown hE hK (hN _ _ hS) hP hD (v_Qrefuse l D dA H.size h ad (VS.s_qnum (VS.s_qen (VS.s_qst (VS.s_qk x (nuK x.tape q k)) q) (q + k)) (nuV x.tape q k)) 1 q) (q0 := 36) rfl rfl w666 w664 w667 w668 w665 rfl rfl ⟨⟨by decide, by decide⟩, rfl⟩ ⟨(Nat.le_of_ble_eq_true rfl), (Nat.le_of_ble_eq_true rfl)⟩ rfl hl.1 rfl (Nat.le_of_ble_eq_true rfl) d_Q_advance_144 ⟨(Nat.le_of_ble_eq_true rfl), (Nat.le_of_ble_eq_true rfl)⟩) hP hD hS hA (fun r28 u29 H locs hp9 hP hD hS => ?_)
              obtain ⟨y1, h9u⟩ : ∃ z9, z9 = u29 := ⟨_, rfl⟩
              subst h9u
              have hP : va_P D vwCl (VW dA h ad y1) H := hP
              have hD : va_D A (VW dA h ad y1) := hD
              obtain ⟨hp9, f_e_30⟩ := hp9
              replace hp9 : 0 = r28 := Eq.symm hp9
              subst hp9
              refine lv_pop hx hb d_Q_advance_147 rfl ?_
              exact rfV hx hb hr hlk hS y1 (f_e_30.trans (adv_bad ed (d := (nuK x.tape q k, q, q + k, nuV x.tape q k)) (tkD_d g2 g5 f_e_26) g27)) hP hD (Nat.le_of_ble_eq_true rfl) (Nat.le_of_ble_eq_true rfl) d_Q_advance_148
        · have g2 := (nI_eq (a := q) (b := x.qlen) (by omega) (by omega)).mp g2
          refine lv_aload_n hx hb d_Q_advance_43 rfl (lv_at hl 1 rfl) ?_
          refine lv_aload_n hx hb d_Q_advance_44 rfl (lv_at hl 1 rfl) ?_
          refine gF (v := .int (nI x.qlen)) hx hb hown hE hK hP 36 rfl rfl layQ 1 (by decide) w661 rfl d_Q_advance_45 ?_
          refine pF (v := .int (nI x.qlen)) hx hb hown hE hK hP hD hS 36 rfl rfl layQ tyQ tokQ nmQ 4 (by decide) w660 rfl rfl rfl (Nat.le_of_ble_eq_true rfl) d_Q_advance_48 (fun H locs hP hD hS => ?_)
          have hP : va_P D vwCl (VW dA h ad (VS.s_qen (VS.s_qst x q) x.qlen)) H := hP
          have hD : va_D A (VW dA h ad (VS.s_qen (VS.s_qst x q) x.qlen)) := hD
          refine lv_aload_n hx hb d_Q_advance_51 rfl (lv_at hl 1 rfl) ?_
          refine lv_sipush (v := 256) hx hb d_Q_advance_52 (by decide) ?_
          refine pF (v := .int 256) hx hb hown hE hK hP hD hS 36 rfl rfl layQ tyQ tokQ nmQ 2 (by decide) w663 rfl rfl rfl (Nat.le_of_ble_eq_true rfl) d_Q_advance_55 (fun H locs hP hD hS => ?_)
          have hP : va_P D vwCl (VW dA h ad (VS.s_qen (VS.s_qst (VS.s_qk x 256) q) x.qlen)) H := hP
          have hD : va_D A (VW dA h ad (VS.s_qen (VS.s_qst (VS.s_qk x 256) q) x.qlen)) := hD
          exact rfV hx hb hr hlk hS (VS.s_qen (VS.s_qst (VS.s_qk x 256) q) x.qlen) (adv_ok ed (d := (256, q, x.qlen, x.qnum)) (tkD_e g2) (show ¬ (256 : Int32) = 263 by decide)) hP hD (Nat.le_of_ble_eq_true rfl) (Nat.le_of_ble_eq_true rfl) d_Q_advance_58
      · have g1 := mt (nI_leI (a := x.qlen) (b := q) (by omega) (by omega)).mpr g1
        refine lv_aload_n hx hb d_Q_advance_13 rfl (lv_at hl 1 rfl) ?_
        refine gF (v := .ref x.qtp) hx hb hown hE hK hP 36 rfl rfl layQ 0 (by decide) w677 rfl d_Q_advance_14 ?_
        rw [hq]
        refine lv_iload_n hx hb d_Q_advance_17 rfl (lv_at hl 0 rfl) ?_
        refine nbld (f := x.tape) (n := x.tpN) hx hb hK hP (1) 0 rfl rfl (q) (by omega) (by omega) d_Q_advance_18 ?_
        refine lv_bipush (v := 32) hx hb d_Q_advance_19 (by decide) ?_
        refine lv_icmp_ne hx hb d_Q_advance_21 (tgt := 30) rfl (fun g31 => ?_) (fun g31 => ?_)
        · have g31 := g31
          have ed : whE isSp x.tape x.qlen x.qen = q := i2.symm.trans (whE_f (decide_eq_false g31))
          refine lv_aload_n hx hb d_Q_advance_30 rfl (lv_at hl 1 rfl) ?_
          refine lv_iload_n hx hb d_Q_advance_31 rfl (lv_at hl 0 rfl) ?_
          refine pF (v := .int (nI q)) hx hb hown hE hK hP hD hS 36 rfl rfl layQ tyQ tokQ nmQ 3 (by decide) w662 rfl rfl rfl (Nat.le_of_ble_eq_true rfl) d_Q_advance_32 (fun H locs hP hD hS => ?_)
          have hP : va_P D vwCl (VW dA h ad (VS.s_qst x q)) H := hP
          have hD : va_D A (VW dA h ad (VS.s_qst x q)) := hD
          refine lv_iload_n hx hb d_Q_advance_35 rfl (lv_at hl 0 rfl) ?_
          refine lv_aload_n hx hb d_Q_advance_36 rfl (lv_at hl 1 rfl) ?_
          refine gF (v := .int (nI x.qlen)) hx hb hown hE hK hP 36 rfl rfl layQ 1 (by decide) w661 rfl d_Q_advance_37 ?_
          refine lv_icmp_ne hx hb d_Q_advance_40 (tgt := 59) rfl (fun g32 => ?_) (fun g32 => ?_)
          · have g32 := mt (nI_eq (a := q) (b := x.qlen) (by omega) (by omega)).mpr g32
            refine lv_aload_n hx hb d_Q_advance_59 rfl (lv_at hl 1 rfl) ?_
            refine lv_iload_n hx hb d_Q_advance_60 rfl (lv_at hl 0 rfl) ?_
            refine lv_iconst (v := 1) hx hb d_Q_advance_61 (by decide) ?_
            refine lv_iadd hx hb d_Q_advance_62 (tpi (y := nI (q + 1)) (nI_add (q) (1)) ?_)
            refine pF (v := .int (nI (q + 1))) hx hb hown hE hK hP hD hS 36 rfl rfl layQ tyQ tokQ nmQ 4 (by decide) w660 rfl rfl rfl (Nat.le_of_ble_eq_true rfl) d_Q_advance_63 (fun H locs hP hD hS => ?_)
            have hP : va_P D vwCl (VW dA h ad (VS.s_qen (VS.s_qst x q) (q + 1))) H := hP
            have hD : va_D A (VW dA h ad (VS.s_qen (VS.s_qst x q) (q + 1))) := hD
            refine lv_aload_n hx hb d_Q_advance_66 rfl (lv_at hl 1 rfl) ?_
            refine gF (v := .ref x.qtp) hx hb hown hE hK hP 36 rfl rfl layQ 0 (by decide) w677 rfl d_Q_advance_67 ?_
            rw [hq]
            refine lv_iload_n hx hb d_Q_advance_70 rfl (lv_at hl 0 rfl) ?_
            refine nbld (f := x.tape) (n := x.tpN) hx hb hK hP (1) 0 rfl rfl (q) (by omega) (by omega) d_Q_advance_71 ?_
            refine lv_istore_n hx hb d_Q_advance_72 rfl hl (by decide) rfl (fun ls hl => ?_)
            have hl : lv_has ls 3 [(2, .int (x.tape q)), (1, .int (nI q)), (0, .ref (ad 22))] := hl
            refine lv_iload_n hx hb d_Q_advance_73 rfl (lv_at hl 0 rfl) ?_
            have hPc := hP.sub (ws' := []) [] rfl
            have hDc := hD.sub (ws' := []) [] (by decide) rfl
            refine jpI (rnS (As := [.int (x.tape q)]) (rest := []) hx hb hml hown hE hK (hN _ _ hS) hPc hDc (v_QisDigit l D dA H.size (x.tape q)) w1562 w1561 w1563 w665 rfl rfl ⟨⟨by decide, by decide⟩, rfl⟩ ⟨(Nat.le_of_ble_eq_true rfl), (Nat.le_of_ble_eq_true rfl)⟩ rfl hl.1 rfl (Nat.le_of_ble_eq_true rfl) d_Q_advance_74 ⟨(Nat.le_of_ble_eq_true rfl), (Nat.le_of_ble_eq_true rfl)⟩) hP hD hS hA (fun r33 u9 H locs hp9 hP hD hS => ?_)
            have hP : va_P D vwCl (VW dA h ad (VS.s_qen (VS.s_qst x q) (q + 1))) H := hP
            have hD : va_D A (VW dA h ad (VS.s_qen (VS.s_qst x q) (q + 1))) := hD
            replace hp9 : bI (isDg (x.tape q)) = r33 := Eq.symm hp9
            subst hp9
            refine lv_if_eq hx hb d_Q_advance_77 (tgt := 91) rfl (fun g35 => ?_) (fun g35 => ?_)
            · have g35 := bI_0 g35
              refine lv_iload_n hx hb d_Q_advance_91 rfl (lv_at hl 0 rfl) ?_
              have hPc := hP.sub (ws' := []) [] rfl
              have hDc := hD.sub (ws' := []) [] (by decide) rfl
              refine jpI (rnS (As := [.int (x.tape q)]) (rest := []) hx hb hml hown hE hK (hN _ _ hS) hPc hDc (v_QisOfName l D dA H.size (x.tape q)) w1558 w1557 w1559 w665 rfl rfl ⟨⟨by decide, by decide⟩, rfl⟩ ⟨(Nat.le_of_ble_eq_true rfl), (Nat.le_of_ble_eq_true rfl)⟩ rfl hl.1 rfl (Nat.le_of_ble_eq_true rfl) d_Q_advance_92 ⟨(Nat.le_of_ble_eq_true rfl), (Nat.le_of_ble_eq_true rfl)⟩) hP hD hS hA (fun r36 u9 H locs hp9 hP hD hS => ?_)
              have hP : va_P D vwCl (VW dA h ad (VS.s_qen (VS.s_qst x q) (q + 1))) H := hP
              have hD : va_D A (VW dA h ad (VS.s_qen (VS.s_qst x q) (q + 1))) := hD
              replace hp9 : bI (isNm (x.tape q)) = r36 := Eq.symm hp9
              subst hp9
              refine lv_if_eq hx hb d_Q_advance_95 (tgt := 109) rfl (fun g38 => ?_) (fun g38 => ?_)
              · have g38 := bI_0 g38
                refine lv_aload_n hx hb d_Q_advance_109 rfl (lv_at hl 2 rfl) ?_
                refine lv_iload_n hx hb d_Q_advance_110 rfl (lv_at hl 0 rfl) ?_
                refine lv_bipush (v := 34) hx hb d_Q_advance_111 (by decide) ?_
                refine lv_icmp_ne hx hb d_Q_advance_113 (tgt := 123) rfl (fun g39 => ?_) (fun g39 => ?_)
                · have g39 := g39
                  refine lv_aload_n hx hb d_Q_advance_123 rfl (lv_at hl 2 rfl) ?_
                  refine lv_iload_n hx hb d_Q_advance_124 rfl (lv_at hl 0 rfl) ?_
                  refine jkI (wr := []) (rnV (As := [.int (x.tape q)]) (rest := [.ref (ad 22)]) hx hb hml hown hE hK (hN _ _ hS) hP hD (v_QsignOf l D dA H.size h ad (VS.s_qen (VS.s_qst x q) (q + 1)) (x.tape q) hq (show x.qlen ≤ x.tpN from by omega) (show x.tpN ≤ 131072 from by omega) (show (q + 1) ≤ 131072 from by omega)) (q0 := 36) rfl rfl w1575 w1574 w1576 w1577 w665 rfl rfl ⟨⟨by decide, by decide⟩, rfl⟩ ⟨(Nat.le_of_ble_eq_true rfl), (Nat.le_of_ble_eq_true rfl)⟩ rfl hl.1 rfl (Nat.le_of_ble_eq_true rfl) d_Q_advance_125 ⟨(Nat.le_of_ble_eq_true rfl), (Nat.le_of_ble_eq_true rfl)⟩) hP hD hS hA (fun r40 u41 H locs hp9 hP hD hS => ?_)
                  have hP : va_P D vwCl (VW dA h ad (VS.s_qen (VS.s_qst x q) ((q + 1) + ((sgV (x.tape q) (atV x.tape x.qlen (q + 1))).2 - 1)))) H := hP
                  have hD : va_D A (VW dA h ad (VS.s_qen (VS.s_qst x q) ((q + 1) + ((sgV (x.tape q) (atV x.tape x.qlen (q + 1))).2 - 1)))) := hD
                  replace hp9 : (sgV (x.tape q) (atV x.tape x.qlen (q + 1))).1 = r40 := Eq.symm hp9
                  subst hp9
                  refine pF (v := .int ((sgV (x.tape q) (atV x.tape x.qlen (q + 1))).1)) hx hb hown hE hK hP hD hS 36 rfl rfl layQ tyQ tokQ nmQ 2 (by decide) w663 rfl rfl rfl (Nat.le_of_ble_eq_true rfl) d_Q_advance_128 (fun H locs hP hD hS => ?_)
                  have hP : va_P D vwCl (VW dA h ad (VS.s_qen (VS.s_qst (VS.s_qk x ((sgV (x.tape q) (atV x.tape x.qlen (q + 1))).1)) q) ((q + 1) + ((sgV (x.tape q) (atV x.tape x.qlen (q + 1))).2 - 1)))) H := hP
                  have hD : va_D A (VW dA h ad (VS.s_qen (VS.s_qst (VS.s_qk x ((sgV (x.tape q) (atV x.tape x.qlen (q + 1))).1)) q) ((q + 1) + ((sgV (x.tape q) (atV x.tape x.qlen (q + 1))).2 - 1)))) := hD
                  refine lv_aload_n hx hb d_Q_advance_131 rfl (lv_at hl 2 rfl) ?_
                  refine gF (v := .int ((sgV (x.tape q) (atV x.tape x.qlen (q + 1))).1)) hx hb hown hE hK hP 36 rfl rfl layQ 2 (by decide) w663 rfl d_Q_advance_132 ?_
                  refine lv_sipush (v := 263) hx hb d_Q_advance_135 (by decide) ?_
                  refine lv_icmp_ne hx hb d_Q_advance_138 (tgt := 148) rfl (fun g42 => ?_) (fun g42 => ?_)
                  · have g42 := g42
                    exact rfV hx hb hr hlk hS (VS.s_qen (VS.s_qst (VS.s_qk x ((sgV (x.tape q) (atV x.tape x.qlen (q + 1))).1)) q) ((q + 1) + ((sgV (x.tape q) (atV x.tape x.qlen (q + 1))).2 - 1))) (adv_ok ed (d := ((sgV (x.tape q) (atV x.tape x.qlen (q + 1))).1, q, q + 1 + ((sgV (x.tape q) (atV x.tape x.qlen (q + 1))).2 - 1), x.qnum)) (tkD_s g32 g35 g38 g39) g42) hP hD (Nat.le_of_ble_eq_true rfl) (Nat.le_of_ble_eq_true rfl) d_Q_advance_148
                  · have g42 := g42
                    refine lv_aload_n hx hb d_Q_advance_141 rfl (lv_at hl 2 rfl) ?_
                    refine lv_iconst (v := 1) hx hb d_Q_advance_142 (by decide) ?_
                    refine lv_iload_n hx hb d_Q_advance_143 rfl (lv_at hl 1 rfl) ?_
                    refine jkI (wr := []) (rnV (As := [.int 1, .int (nI q)]) (rest := []) hx hb hml hown hE hK (hN _ _ hS) hP hD (v_Qrefuse l D dA H.size h ad (VS.s_qen (VS.s_qst (VS.s_qk x ((sgV (x.tape q) (atV x.tape x.qlen (q + 1))).1)) q) ((q + 1) + ((sgV (x.tape q) (atV x.tape x.qlen (q + 1))).2 - 1))) 1 q) (q0 := 36) rfl rfl w666 w664 w667 w668 w665 rfl rfl ⟨⟨by decide, by decide⟩, rfl⟩ ⟨(Nat.le_of_ble_eq_true rfl), (Nat.le_of_ble_eq_true rfl)⟩ rfl hl.1 rfl (Nat.le_of_ble_eq_true rfl) d_Q_advance_144 ⟨(Nat.le_of_ble_eq_true rfl), (Nat.le_of_ble_eq_true rfl)⟩) hP hD hS hA (fun r43 u44 H locs hp9 hP hD hS => ?_)
                    obtain ⟨y1, h9u⟩ : ∃ z9, z9 = u44 := ⟨_, rfl⟩
                    subst h9u
                    have hP : va_P D vwCl (VW dA h ad y1) H := hP
                    have hD : va_D A (VW dA h ad y1) := hD
                    obtain ⟨hp9, f_e_45⟩ := hp9
                    replace hp9 : 0 = r43 := Eq.symm hp9
                    subst hp9
                    refine lv_pop hx hb d_Q_advance_147 rfl ?_
                    exact rfV hx hb hr hlk hS y1 (f_e_45.trans (adv_bad ed (d := ((sgV (x.tape q) (atV x.tape x.qlen (q + 1))).1, q, q + 1 + ((sgV (x.tape q) (atV x.tape x.qlen (q + 1))).2 - 1), x.qnum)) (tkD_s g32 g35 g38 g39) g42)) hP hD (Nat.le_of_ble_eq_true rfl) (Nat.le_of_ble_eq_true rfl) d_Q_advance_148
                · have g39 := g39
                  refine lv_aload_n hx hb d_Q_advance_116 rfl (lv_at hl 2 rfl) ?_
                  refine jkI (wr := []) (rnV (As := []) (rest := [.ref (ad 22)]) hx hb hml hown hE hK (hN _ _ hS) hP hD (v_QreadText l D dA H.size h ad (VS.s_qen (VS.s_qst x q) (q + 1)) hq (show x.qlen ≤ x.tpN from by omega) (show x.tpN ≤ 131072 from by omega) (show q < x.qlen from by omega)) (q0 := 36) rfl rfl w1579 w1578 w1580 w1581 w665 rfl rfl ⟨⟨by decide, by decide⟩, rfl⟩ ⟨(Nat.le_of_ble_eq_true rfl), (Nat.le_of_ble_eq_true rfl)⟩ rfl hl.1 rfl (Nat.le_of_ble_eq_true rfl) d_Q_advance_117 ⟨(Nat.le_of_ble_eq_true rfl), (Nat.le_of_ble_eq_true rfl)⟩) hP hD hS hA (fun r46 u47 H locs hp9 hP hD hS => ?_)
                  have hP : va_P D vwCl (VW dA h ad (VS.s_qen (VS.s_qst x q) (tvN x.tape x.qlen q (q + 1)))) H := hP
                  have hD : va_D A (VW dA h ad (VS.s_qen (VS.s_qst x q) (tvN x.tape x.qlen q (q + 1)))) := hD
                  replace hp9 : tvK x.tape x.qlen q = r46 := Eq.symm hp9
                  subst hp9
                  refine lv_goto hx hb d_Q_advance_120 (tgt := 128) rfl ?_
                  refine pF (v := .int (tvK x.tape x.qlen q)) hx hb hown hE hK hP hD hS 36 rfl rfl layQ tyQ tokQ nmQ 2 (by decide) w663 rfl rfl rfl (Nat.le_of_ble_eq_true rfl) d_Q_advance_128 (fun H locs hP hD hS => ?_)
                  have hP : va_P D vwCl (VW dA h ad (VS.s_qen (VS.s_qst (VS.s_qk x (tvK x.tape x.qlen q)) q) (tvN x.tape x.qlen q (q + 1)))) H := hP
                  have hD : va_D A (VW dA h ad (VS.s_qen (VS.s_qst (VS.s_qk x (tvK x.tape x.qlen q)) q) (tvN x.tape x.qlen q (q + 1)))) := hD
                  refine lv_aload_n hx hb d_Q_advance_131 rfl (lv_at hl 2 rfl) ?_
                  refine gF (v := .int (tvK x.tape x.qlen q)) hx hb hown hE hK hP 36 rfl rfl layQ 2 (by decide) w663 rfl d_Q_advance_132 ?_
                  refine lv_sipush (v := 263) hx hb d_Q_advance_135 (by decide) ?_
                  refine lv_icmp_ne hx hb d_Q_advance_138 (tgt := 148) rfl (fun g48 => ?_) (fun g48 => ?_)
                  · have g48 := g48
                    exact rfV hx hb hr hlk hS (VS.s_qen (VS.s_qst (VS.s_qk x (tvK x.tape x.qlen q)) q) (tvN x.tape x.qlen q (q + 1))) (adv_ok ed (d := (tvK x.tape x.qlen q, q, tvN x.tape x.qlen q (q + 1), x.qnum)) (tkD_t g32 g35 g38 g39) g48) hP hD (Nat.le_of_ble_eq_true rfl) (Nat.le_of_ble_eq_true rfl) d_Q_advance_148
                  · have g48 := g48
                    refine lv_aload_n hx hb d_Q_advance_141 rfl (lv_at hl 2 rfl) ?_
                    refine lv_iconst (v := 1) hx hb d_Q_advance_142 (by decide) ?_
                    refine lv_iload_n hx hb d_Q_advance_143 rfl (lv_at hl 1 rfl) ?_
                    refine jkI (wr := []) (rnV (As := [.int 1, .int (nI q)]) (rest := []) hx hb hml hown hE hK (hN _ _ hS) hP hD (v_Qrefuse l D dA H.size h ad (VS.s_qen (VS.s_qst (VS.s_qk x (tvK x.tape x.qlen q)) q) (tvN x.tape x.qlen q (q + 1))) 1 q) (q0 := 36) rfl rfl w666 w664 w667 w668 w665 rfl rfl ⟨⟨by decide, by decide⟩, rfl⟩ ⟨(Nat.le_of_ble_eq_true rfl), (Nat.le_of_ble_eq_true rfl)⟩ rfl hl.1 rfl (Nat.le_of_ble_eq_true rfl) d_Q_advance_144 ⟨(Nat.le_of_ble_eq_true rfl), (Nat.le_of_ble_eq_true rfl)⟩) hP hD hS hA (fun r49 u50 H locs hp9 hP hD hS => ?_)
                    obtain ⟨y1, h9u⟩ : ∃ z9, z9 = u50 := ⟨_, rfl⟩
                    subst h9u
                    have hP : va_P D vwCl (VW dA h ad y1) H := hP
                    have hD : va_D A (VW dA h ad y1) := hD
                    obtain ⟨hp9, f_e_51⟩ := hp9
                    replace hp9 : 0 = r49 := Eq.symm hp9
                    subst hp9
                    refine lv_pop hx hb d_Q_advance_147 rfl ?_
                    exact rfV hx hb hr hlk hS y1 (f_e_51.trans (adv_bad ed (d := (tvK x.tape x.qlen q, q, tvN x.tape x.qlen q (q + 1), x.qnum)) (tkD_t g32 g35 g38 g39) g48)) hP hD (Nat.le_of_ble_eq_true rfl) (Nat.le_of_ble_eq_true rfl) d_Q_advance_148
              · have g38 := bI_n0 g38
                refine lv_aload_n hx hb d_Q_advance_98 rfl (lv_at hl 2 rfl) ?_
                refine lv_aload_n hx hb d_Q_advance_99 rfl (lv_at hl 2 rfl) ?_
                refine jkI (wr := []) (rnV (As := []) (rest := [.ref (ad 22)]) hx hb hml hown hE hK (hN _ _ hS) hP hD (v_QreadName l D dA H.size h ad (VS.s_qen (VS.s_qst x q) (q + 1)) hq (show x.qlen ≤ x.tpN from by omega) (show x.tpN ≤ 131072 from by omega) (show (q + 1) ≤ x.qlen from by omega)) (q0 := 36) rfl rfl w1583 w1582 w1584 w1585 w665 rfl rfl ⟨⟨by decide, by decide⟩, rfl⟩ ⟨(Nat.le_of_ble_eq_true rfl), (Nat.le_of_ble_eq_true rfl)⟩ rfl hl.1 rfl (Nat.le_of_ble_eq_true rfl) d_Q_advance_100 ⟨(Nat.le_of_ble_eq_true rfl), (Nat.le_of_ble_eq_true rfl)⟩) hP hD hS hA (fun r52 u53 H locs hp9 hP hD hS => ?_)
                have hP : va_P D vwCl (VW dA h ad (VS.s_qen (VS.s_qst x q) (whE isNm x.tape x.qlen (q + 1)))) H := hP
                have hD : va_D A (VW dA h ad (VS.s_qen (VS.s_qst x q) (whE isNm x.tape x.qlen (q + 1)))) := hD
                replace hp9 : 258 = r52 := Eq.symm hp9
                subst hp9
                refine pF (v := .int 258) hx hb hown hE hK hP hD hS 36 rfl rfl layQ tyQ tokQ nmQ 2 (by decide) w663 rfl rfl rfl (Nat.le_of_ble_eq_true rfl) d_Q_advance_103 (fun H locs hP hD hS => ?_)
                have hP : va_P D vwCl (VW dA h ad (VS.s_qen (VS.s_qst (VS.s_qk x 258) q) (whE isNm x.tape x.qlen (q + 1)))) H := hP
                have hD : va_D A (VW dA h ad (VS.s_qen (VS.s_qst (VS.s_qk x 258) q) (whE isNm x.tape x.qlen (q + 1)))) := hD
                refine lv_goto hx hb d_Q_advance_106 (tgt := 131) rfl ?_
                refine lv_aload_n hx hb d_Q_advance_131 rfl (lv_at hl 2 rfl) ?_
                refine gF (v := .int 258) hx hb hown hE hK hP 36 rfl rfl layQ 2 (by decide) w663 rfl d_Q_advance_132 ?_
                refine lv_sipush (v := 263) hx hb d_Q_advance_135 (by decide) ?_
                refine lv_icmp_ne hx hb d_Q_advance_138 (tgt := 148) rfl (fun _ => ?_) (fun h9 => absurd h9 (by decide))
                exact rfV hx hb hr hlk hS (VS.s_qen (VS.s_qst (VS.s_qk x 258) q) (whE isNm x.tape x.qlen (q + 1))) (adv_ok ed (d := (258, q, whE isNm x.tape x.qlen (q + 1), x.qnum)) (tkD_n g32 g35 g38) (show ¬ (258 : Int32) = 263 by decide)) hP hD (Nat.le_of_ble_eq_true rfl) (Nat.le_of_ble_eq_true rfl) d_Q_advance_148
            · have g35 := bI_n0 g35
              refine lv_aload_n hx hb d_Q_advance_80 rfl (lv_at hl 2 rfl) ?_
              refine lv_aload_n hx hb d_Q_advance_81 rfl (lv_at hl 2 rfl) ?_
              refine jkI (wr := []) (rnV (As := []) (rest := [.ref (ad 22)]) hx hb hml hown hE hK (hN _ _ hS) hP hD (v_QreadNumber l D dA H.size h ad (VS.s_qen (VS.s_qst x q) (q + 1)) hq (show x.qlen ≤ x.tpN from by omega) (show x.tpN ≤ 131072 from by omega) (show q ≤ x.qlen from by omega)) (q0 := 36) rfl rfl w1587 w1586 w1588 w1589 w665 rfl rfl ⟨⟨by decide, by decide⟩, rfl⟩ ⟨(Nat.le_of_ble_eq_true rfl), (Nat.le_of_ble_eq_true rfl)⟩ rfl hl.1 rfl (Nat.le_of_ble_eq_true rfl) d_Q_advance_82 ⟨(Nat.le_of_ble_eq_true rfl), (Nat.le_of_ble_eq_true rfl)⟩) hP hD hS hA (fun r54 u55 H locs hp9 hP hD hS => ?_)
              obtain ⟨k, h9u⟩ : ∃ z9, z9 = u55 := ⟨_, rfl⟩
              subst h9u
              have hP : va_P D vwCl (VW dA h ad (VS.s_qnum (VS.s_qen (VS.s_qst x q) (q + k)) (nuV x.tape q k))) H := hP
              have hD : va_D A (VW dA h ad (VS.s_qnum (VS.s_qen (VS.s_qst x q) (q + k)) (nuV x.tape q k))) := hD
              obtain ⟨hp9, f_e_56⟩ := hp9
              replace hp9 : nuK x.tape q k = r54 := Eq.symm hp9
              subst hp9
              refine pF (v := .int (nuK x.tape q k)) hx hb hown hE hK hP hD hS 36 rfl rfl layQ tyQ tokQ nmQ 2 (by decide) w663 rfl rfl rfl (Nat.le_of_ble_eq_true rfl) d_Q_advance_85 (fun H locs hP hD hS => ?_)
              have hP : va_P D vwCl (VW dA h ad (VS.s_qnum (VS.s_qen (VS.s_qst (VS.s_qk x (nuK x.tape q k)) q) (q + k)) (nuV x.tape q k))) H := hP
              have hD : va_D A (VW dA h ad (VS.s_qnum (VS.s_qen (VS.s_qst (VS.s_qk x (nuK x.tape q k)) q) (q + k)) (nuV x.tape q k))) := hD
              refine lv_goto hx hb d_Q_advance_88 (tgt := 131) rfl ?_
              refine lv_aload_n hx hb d_Q_advance_131 rfl (lv_at hl 2 rfl) ?_
              refine gF (v := .int (nuK x.tape q k)) hx hb hown hE hK hP 36 rfl rfl layQ 2 (by decide) w663 rfl d_Q_advance_132 ?_
              refine lv_sipush (v := 263) hx hb d_Q_advance_135 (by decide) ?_
              refine lv_icmp_ne hx hb d_Q_advance_138 (tgt := 148) rfl (fun g57 => ?_) (fun g57 => ?_)
              · have g57 := g57
                exact rfV hx hb hr hlk hS (VS.s_qnum (VS.s_qen (VS.s_qst (VS.s_qk x (nuK x.tape q k)) q) (q + k)) (nuV x.tape q k)) (adv_ok ed (d := (nuK x.tape q k, q, q + k, nuV x.tape q k)) (tkD_d g32 g35 f_e_56) g57) hP hD (Nat.le_of_ble_eq_true rfl) (Nat.le_of_ble_eq_true rfl) d_Q_advance_148
              · have g57 := g57
                refine lv_aload_n hx hb d_Q_advance_141 rfl (lv_at hl 2 rfl) ?_
                refine lv_iconst (v := 1) hx hb d_Q_advance_142 (by decide) ?_
                refine lv_iload_n hx hb d_Q_advance_143 rfl (lv_at hl 1 rfl) ?_
                refine jkI (wr := []) (rnV (As := [.int 1, .int (nI q)]) (rest := []) hx hb hml hown hE hK (hN _ _ hS) hP hD (v_Qrefuse l D dA H.size h ad (VS.s_qnum (VS.s_qen (VS.s_qst (VS.s_qk x (nuK x.tape q k)) q) (q + k)) (nuV x.tape q k)) 1 q) (q0 := 36) rfl rfl w666 w664 w667 w668 w665 rfl rfl ⟨⟨by decide, by decide⟩, rfl⟩ ⟨(Nat.le_of_ble_eq_true rfl), (Nat.le_of_ble_eq_true rfl)⟩ rfl hl.1 rfl (Nat.le_of_ble_eq_true rfl) d_Q_advance_144 ⟨(Nat.le_of_ble_eq_true rfl), (Nat.le_of_ble_eq_true rfl)⟩) hP hD hS hA (fun r58 u59 H locs hp9 hP hD hS => ?_)
                obtain ⟨y1, h9u⟩ : ∃ z9, z9 = u59 := ⟨_, rfl⟩
                subst h9u
                have hP : va_P D vwCl (VW dA h ad y1) H := hP
                have hD : va_D A (VW dA h ad y1) := hD
                obtain ⟨hp9, f_e_60⟩ := hp9
                replace hp9 : 0 = r58 := Eq.symm hp9
                subst hp9
                refine lv_pop hx hb d_Q_advance_147 rfl ?_
                exact rfV hx hb hr hlk hS y1 (f_e_60.trans (adv_bad ed (d := (nuK x.tape q k, q, q + k, nuV x.tape q k)) (tkD_d g32 g35 f_e_56) g57)) hP hD (Nat.le_of_ble_eq_true rfl) (Nat.le_of_ble_eq_true rfl) d_Q_advance_148
          · have g32 := (nI_eq (a := q) (b := x.qlen) (by omega) (by omega)).mp g32
            refine lv_aload_n hx hb d_Q_advance_43 rfl (lv_at hl 1 rfl) ?_
            refine lv_aload_n hx hb d_Q_advance_44 rfl (lv_at hl 1 rfl) ?_
            refine gF (v := .int (nI x.qlen)) hx hb hown hE hK hP 36 rfl rfl layQ 1 (by decide) w661 rfl d_Q_advance_45 ?_
            refine pF (v := .int (nI x.qlen)) hx hb hown hE hK hP hD hS 36 rfl rfl layQ tyQ tokQ nmQ 4 (by decide) w660 rfl rfl rfl (Nat.le_of_ble_eq_true rfl) d_Q_advance_48 (fun H locs hP hD hS => ?_)
            have hP : va_P D vwCl (VW dA h ad (VS.s_qen (VS.s_qst x q) x.qlen)) H := hP
            have hD : va_D A (VW dA h ad (VS.s_qen (VS.s_qst x q) x.qlen)) := hD
            refine lv_aload_n hx hb d_Q_advance_51 rfl (lv_at hl 1 rfl) ?_
            refine lv_sipush (v := 256) hx hb d_Q_advance_52 (by decide) ?_
            refine pF (v := .int 256) hx hb hown hE hK hP hD hS 36 rfl rfl layQ tyQ tokQ nmQ 2 (by decide) w663 rfl rfl rfl (Nat.le_of_ble_eq_true rfl) d_Q_advance_55 (fun H locs hP hD hS => ?_)
            have hP : va_P D vwCl (VW dA h ad (VS.s_qen (VS.s_qst (VS.s_qk x 256) q) x.qlen)) H := hP
            have hD : va_D A (VW dA h ad (VS.s_qen (VS.s_qst (VS.s_qk x 256) q) x.qlen)) := hD
            exact rfV hx hb hr hlk hS (VS.s_qen (VS.s_qst (VS.s_qk x 256) q) x.qlen) (adv_ok ed (d := (256, q, x.qlen, x.qnum)) (tkD_e g32) (show ¬ (256 : Int32) = 263 by decide)) hP hD (Nat.le_of_ble_eq_true rfl) (Nat.le_of_ble_eq_true rfl) d_Q_advance_58
        · have g31 := g31
          refine lv_iinc (k := 0) (v := nI (q + 1)) hx hb d_Q_advance_24 hl rfl (iincN (q) 1 1 (by decide)) (by decide) rfl (fun ls hl => ?_)
          have hl : lv_has ls 3 [(1, .int (nI (q + 1))), (0, .ref (ad 22))] := hl
          refine lv_goto hx hb d_Q_advance_27 (tgt := 5) rfl ?_
          exact ih5 _ (by omega) (q + 1) (by omega) ((whE_t (by omega) (decide_eq_true g31)).symm.trans i2) rfl H _ ls hP hD hS (lv_sub hl [0, 1] rfl)
  exact L5 _ x.qen h1 rfl rfl H _ ls hP hD hS (lv_sub hl [0, 1] rfl)
theorem d_Q_take_0 : decode prog_6_method_9_code 0 = .ok (.aload_n 0, 1) := by decide +kernel
theorem d_Q_take_1 : decode prog_6_method_9_code 1 = .ok (.getfield 45, 3) := by decide +kernel
theorem d_Q_take_4 : decode prog_6_method_9_code 4 = .ok (.iload_n 1, 1) := by decide +kernel
theorem d_Q_take_5 : decode prog_6_method_9_code 5 = .ok (.if_icmp .eq 13, 3) := by decide +kernel
theorem d_Q_take_18 : decode prog_6_method_9_code 18 = .ok (.aload_n 0, 1) := by decide +kernel
theorem d_Q_take_19 : decode prog_6_method_9_code 19 = .ok (.invokevirtual 38, 3) := by decide +kernel
theorem d_Q_take_22 : decode prog_6_method_9_code 22 = .ok (.iconst 1, 1) := by decide +kernel
theorem d_Q_take_23 : decode prog_6_method_9_code 23 = .ok (.ireturn, 1) := by decide +kernel
theorem d_Q_take_8 : decode prog_6_method_9_code 8 = .ok (.aload_n 0, 1) := by decide +kernel
theorem d_Q_take_9 : decode prog_6_method_9_code 9 = .ok (.iconst 2, 1) := by decide +kernel
theorem d_Q_take_10 : decode prog_6_method_9_code 10 = .ok (.aload_n 0, 1) := by decide +kernel
theorem d_Q_take_11 : decode prog_6_method_9_code 11 = .ok (.getfield 48, 3) := by decide +kernel
theorem d_Q_take_14 : decode prog_6_method_9_code 14 = .ok (.invokevirtual 51, 3) := by decide +kernel
theorem d_Q_take_17 : decode prog_6_method_9_code 17 = .ok (.ireturn, 1) := by decide +kernel
set_option maxHeartbeats 4000000 in
set_option maxRecDepth 100000 in
theorem v_Qtake (l : Launch) (D : va_G) (dA : Nat → ClassId) (sz : Nat) (h : Nat) (ad : Nat → Nat) (x : VS) (z : Int32) (hq : x.qtp = x.tpA) (h2 : x.qlen ≤ x.tpN) (h3 : x.tpN ≤ 131072) (h1 : x.qen ≤ x.qlen) (h4 : x.qst ≤ x.qlen) : Met l ⟨"SeriesVault$Question", "take", "(I)Z"⟩ [Cond.code ⟨"SeriesVault$Question", "take", "(I)Z"⟩ prog_6_method_9_code 2 (some FieldType.boolean)] { frames := 4, cells := 0, slots := 0, locals := 65 } (pC D dA [.ref (ad 22), .int z] (VW dA h ad x) sz) (va_Qi (fun (r9 : Int32) (u9 : VS) => r9 = bI (decide (x.qk = z)) ∧ u9 = if x.qk = z then x.adv else x.rfq 2 x.qst) (fun (u9 : VS) t9 => bW D (va_A (VW dA h ad x) sz) (VW dA h ad u9) t9) (va_A (VW dA h ad x) sz)) 0 0 (va_A (VW dA h ad x) sz) := by
  refine mkC (y := ⟨"SeriesVault$Question", "take", "(I)Z"⟩) (cc := prog_6_method_9_code) (maxL := 2) (av := [.ref (ad 22), .int z]) (ws := VW dA h ad x) (sz := sz) (Qc := fun A => va_Qi (fun (r9 : Int32) (u9 : VS) => r9 = bI (decide (x.qk = z)) ∧ u9 = if x.qk = z then x.adv else x.rfq 2 x.qst) (fun (u9 : VS) t9 => bW D A (VW dA h ad u9) t9) A) (by decide) (Nat.le_of_ble_eq_true rfl) ?_
  intro A p e s m below meth c ls hsz hB
  obtain ⟨hx, hb, hr, hml, hown, hin, hlk, hE, hK, hP, hD, hS, hA, hN, hl⟩ := hB
  have hown : s.vm.findClass "SeriesVault$Question" = some m.cls := hown
  have hl : lv_has ls 2 [(0, .ref (ad 22)), (1, .int z)] := hl
  obtain ⟨H, hH⟩ : ∃ z, z = s.heap := ⟨_, rfl⟩
  have hP : va_P D vwCl (VW dA h ad x) H := by rw [hH]; exact hP
  have hS : va_S A s.heap H [] := by rw [hH]; exact hS
  rw [← hH]
  refine lv_aload_n hx hb d_Q_take_0 rfl (lv_at hl 0 rfl) ?_
  refine gF (v := .int x.qk) hx hb hown hE hK hP 36 rfl rfl layQ 2 (by decide) w663 rfl d_Q_take_1 ?_
  refine lv_iload_n hx hb d_Q_take_4 rfl (lv_at hl 1 rfl) ?_
  refine lv_icmp_eq hx hb d_Q_take_5 (tgt := 18) rfl (fun g1 => ?_) (fun g1 => ?_)
  · have g1 := g1
    refine lv_aload_n hx hb d_Q_take_18 rfl (lv_at hl 0 rfl) ?_
    refine jkV (wr := []) (rnV (As := []) (rest := []) hx hb hml hown hE hK (hN _ _ hS) hP hD (v_Qadvance l D dA H.size h ad x hq (show x.qlen ≤ x.tpN from by omega) (show x.tpN ≤ 131072 from by omega) (show x.qen ≤ x.qlen from by omega)) (q0 := 36) rfl rfl w685 w684 w686 w687 w665 rfl rfl ⟨⟨by decide, by decide⟩, rfl⟩ ⟨(Nat.le_of_ble_eq_true rfl), (Nat.le_of_ble_eq_true rfl)⟩ rfl hl.1 rfl (Nat.le_of_ble_eq_true rfl) d_Q_take_19 ⟨(Nat.le_of_ble_eq_true rfl), (Nat.le_of_ble_eq_true rfl)⟩) hP hD hS hA (fun u3 H locs hp9 hP hD hS => ?_)
    obtain ⟨y4, h9u⟩ : ∃ z9, z9 = u3 := ⟨_, rfl⟩
    subst h9u
    have hP : va_P D vwCl (VW dA h ad y4) H := hP
    have hD : va_D A (VW dA h ad y4) := hD
    have f_e_5 := hp9
    refine lv_iconst (v := 1) hx hb d_Q_take_22 (by decide) ?_
    exact rfZ hx hb hr (bI_nar true) hlk hS y4 ⟨by rw [decide_eq_true g1]; rfl, by rw [if_pos g1]; exact f_e_5⟩ hP hD (Nat.le_of_ble_eq_true rfl) (Nat.le_of_ble_eq_true rfl) d_Q_take_23
  · have g1 := g1
    refine lv_aload_n hx hb d_Q_take_8 rfl (lv_at hl 0 rfl) ?_
    refine lv_iconst (v := 2) hx hb d_Q_take_9 (by decide) ?_
    refine lv_aload_n hx hb d_Q_take_10 rfl (lv_at hl 0 rfl) ?_
    refine gF (v := .int (nI x.qst)) hx hb hown hE hK hP 36 rfl rfl layQ 3 (by decide) w662 rfl d_Q_take_11 ?_
    refine jkI (wr := []) (rnV (As := [.int 2, .int (nI x.qst)]) (rest := []) hx hb hml hown hE hK (hN _ _ hS) hP hD (v_Qrefuse l D dA H.size h ad x 2 x.qst) (q0 := 36) rfl rfl w666 w664 w667 w668 w665 rfl rfl ⟨⟨by decide, by decide⟩, rfl⟩ ⟨(Nat.le_of_ble_eq_true rfl), (Nat.le_of_ble_eq_true rfl)⟩ rfl hl.1 rfl (Nat.le_of_ble_eq_true rfl) d_Q_take_14 ⟨(Nat.le_of_ble_eq_true rfl), (Nat.le_of_ble_eq_true rfl)⟩) hP hD hS hA (fun r6 u7 H locs hp9 hP hD hS => ?_)
    obtain ⟨y8, h9u⟩ : ∃ z9, z9 = u7 := ⟨_, rfl⟩
    subst h9u
    have hP : va_P D vwCl (VW dA h ad y8) H := hP
    have hD : va_D A (VW dA h ad y8) := hD
    obtain ⟨hp9, f_e_9⟩ := hp9
    replace hp9 : 0 = r6 := Eq.symm hp9
    subst hp9
    exact rfZ hx hb hr (bI_nar false) hlk hS y8 ⟨by rw [decide_eq_false g1]; rfl, by rw [if_neg g1]; exact f_e_9⟩ hP hD (Nat.le_of_ble_eq_true rfl) (Nat.le_of_ble_eq_true rfl) d_Q_take_17
end
section
/-! Methods that read the question's string literals: they lie in the first heap, kA their objects, vA their arrays. -/
def qsIx : List Nat := [110, 112, 114, 116, 118, 120, 122, 95]
def qsTx : List String := ["sum", "count", "least", "most", "first", "latest", "growth", "by"]
def qsLen : List Nat := [3, 5, 5, 4, 5, 6, 6, 2]
def qsByt : List (List Int32) := [[115, 117, 109], [99, 111, 117, 110, 116], [108, 101, 97, 115, 116], [109, 111, 115, 116], [102, 105, 114, 115, 116], [108, 97, 116, 101, 115, 116], [103, 114, 111, 119, 116, 104], [98, 121]]
/-- the letters of literal i -/
def qsW (i : Nat) : List Int32 := qsByt.getD i []
theorem qs_all : ∀ i, i < 8 → (qsLen.getD i 0 = (qsW i).length ∧ (qsW i).length ≤ 6 ∧ ∀ b ∈ qsW i, ((b &&& 255).toUInt32 % 65536).toInt32 = b ∧ narrow .char (.int b) = .int b) := by decide
/-- the formatter's value: null or some object -/
def fmV : Nat → Value
  | 0 => .null
  | k + 1 => .ref k
def qS (kA vA : Nat → Nat) (fm : Nat) (A : Nat → Prop) (U : State) (H : Heap) : Prop :=
  vk_S 8 qsLen qsByt kA vA A U H ∧ va_Z "java/lang/String" "COMPACT_STRINGS" "Z" (.int 1) A U H ∧ va_Z "jdk/internal/util/Preconditions" "SIOOBE_FORMATTER" "Ljava/util/function/BiFunction;" (fmV fm) A U H ∧ ∀ i, i < 8 → vk_R "SeriesVault$Question" (qsIx.getD i 0) (qsTx.getD i "") (kA i) U
def pCs (D : va_G) (dA : Nat → ClassId) (e0 mi : Nat) (kA vA : Nat → Nat) (fm : Nat) (av : List Value) (ws : va_W) (sz : Nat) : Array Value → State → Prop := fun a U => pCy D dA e0 mi av ws sz a U ∧ qS kA vA fm (fun _ => False) U U.heap ∧ ∀ i, i < 8 → ¬ va_A ws sz (kA i) ∧ ¬ va_A ws sz (vA i)
theorem pCs_blind {D : va_G} {dA : Nat → ClassId} {e0 mi : Nat} {kA vA : Nat → Nat} {fm : Nat} {av : List Value} {ws : va_W} {sz : Nat} : FrameBlind (pCs D dA e0 mi kA vA fm av ws sz) := by
  intro a U g mk q
  obtain ⟨q0, ⟨q1, q2, q3, q4⟩, q5⟩ := q
  exact ⟨pCy_blind a U g mk q0, ⟨vk_S.moved (u := U) (U := U.calling g mk a) (Vm.Alike.refl U.vm) q1, va_Z.moved (u := U) (U := U.calling g mk a) (Vm.Alike.refl U.vm) q2, va_Z.moved (u := U) (U := U.calling g mk a) (Vm.Alike.refl U.vm) q3, fun i hi => vk_R.same (u := U) (U := U.calling g mk a) rfl (q4 i hi)⟩, q5⟩
theorem Z_in {C n d : String} {v : Value} {D : va_G} {ws : va_W} {sz : Nat} {s : State} (hP : va_P D vwCl ws s.heap) (hsz : s.heap.size = sz) (h : va_Z C n d v (fun _ => False) s s.heap) : va_Z C n d v (va_A ws sz) s s.heap := by
  obtain ⟨cf, kf, fi, f, a, cell, h1, h2, h3, h4, h5, h6, h7, -⟩ := h
  refine ⟨cf, kf, fi, f, a, cell, h1, h2, h3, h4, h5, h6, h7, fun hq => ?_⟩
  subst hsz
  have h8 := ns_A hP hq h5
  rw [h6] at h8
  cases h8
theorem S_in {ws : va_W} {sz : Nat} {kA vA : Nat → Nat} {s : State} (hn : ∀ i, i < 8 → ¬ va_A ws sz (kA i) ∧ ¬ va_A ws sz (vA i)) (h : vk_S 8 qsLen qsByt kA vA (fun _ => False) s s.heap) : vk_S 8 qsLen qsByt kA vA (va_A ws sz) s s.heap := by
  refine ⟨fun i hi => ?_, h.2⟩
  obtain ⟨⟨c1, a1, a2, a3, -⟩, ⟨cf, k, j, f, c2, b1, b2, b3, b4, b5, -⟩, ⟨cg, k', j', f', c3, d1, d2, d3, d4, d5, -⟩, c4, e1, e2, e3, e4, e5, e6, -⟩ := h.1 i hi
  obtain ⟨n1, n2⟩ := hn i hi
  exact ⟨⟨c1, a1, a2, a3, n1⟩, ⟨cf, k, j, f, c2, b1, b2, b3, b4, b5, n1⟩, ⟨cg, k', j', f', c3, d1, d2, d3, d4, d5, n1⟩, c4, e1, e2, e3, e4, e5, e6, n2⟩
section RS
variable {p : Program} {l : Launch} {e : Env} {R : Room} {s : State} {m : MethodId} {args : Array Value} {below : List Frame} {meth : Method} {c : Code} {H : Heap} {locs : List Loc} {cells slots : Nat} {Q : State → Prop}
variable {D : va_G} {dA : Nat → ClassId} {A : Nat → Prop} {cc : ByteArray} {pc : Nat} {ls : Array Slot} {rest st0 : List Value} {ws wc wr : va_W} {e0 mi a : Nat} {kA vA : Nat → Nat} {fm : Nat}
theorem pre_s {av : List Value} (hE : eV s) (hK : va_K D vwCl (arT dA) s) (hZ : zZ e0 A s s.heap) (hT : zT e0 A s s.heap) (hMi : va_Mi "[Ljava/lang/Object;" mi s) (hQ : qS kA vA fm A s s.heap) (hS : va_S A s.heap H locs) (hN : sK s.heap H) (hP : va_P D vwCl wc H) (hD : va_D A wc) : ∀ U : State, U.heap = H → s.WarmedH U.vm → pCs D dA e0 mi kA vA fm av wc H.size av.toArray U := by
  intro U hU hW
  have hk : ∀ a : Nat, a < s.heap.size → ¬ A a → U.heap[a]? = s.heap[a]? := fun a h1 h2 => by rw [hU]; exact hS.2.1 a h1 h2
  refine ⟨pre_y hE hK hZ hT hMi hS hN hP hD U hU hW, ⟨?_, ?_, ?_, ?_⟩, ?_⟩
  · exact vk_S.moved (u := s) (U := U) hW.alike (vk_S.narrow (vk_S.kept hQ.1 hk) (fun _ h => h.elim))
  · exact va_Z.moved (u := s) (U := U) hW.alike (va_Z.narrow (va_Z.kept hQ.2.1 hk) (fun _ h => h.elim))
  · exact va_Z.moved (u := s) (U := U) hW.alike (va_Z.narrow (va_Z.kept hQ.2.2.1 hk) (fun _ h => h.elim))
  · exact fun i hi => vk_R.warm hW (hQ.2.2.2 i hi)
  · intro i hi
    obtain ⟨⟨c1, a1, -, -, a4⟩, -, -, c4, e1, -, -, -, -, -, e7⟩ := hQ.1.1 i hi
    have h3 := hS.1
    refine ⟨fun hq => ?_, fun hq => ?_⟩
    · have h2 := (Array.getElem?_eq_some_iff.mp a1).1
      rcases hq with ⟨k, q, h⟩ | h
      · exact a4 (hD.2 k _ h)
      · omega
    · have h2 := (Array.getElem?_eq_some_iff.mp e1).1
      rcases hq with ⟨k, q, h⟩ | h
      · exact e7 (hD.2 k _ h)
      · omega
theorem rnVs {y : MethodName} {bytes : ByteArray} {maxL mc ms n index nL : Nat} {ret : Option FieldType} {rm : Room} {Qc : Array Value → State → Outcome → State → Prop} {free : Addr → Prop} {own C : String} {T : u_T} {N ci q0 : Nat} {fs : List Value} {b : Nat} {As : List Value}
    (hx : p.tables.exec = Jvm.exec) (hb : c.code = cc) (hml : c.maxLocals = nL) (hown : s.vm.findClass own = some m.cls) (hE : eV s) (hK : va_K D vwCl (arT dA) s) (hZ : zZ e0 A s s.heap) (hT : zT e0 A s s.heap) (hMi : va_Mi "[Ljava/lang/Object;" mi s) (hQ : qS kA vA fm A s s.heap) (hS : va_S A s.heap H locs) (hN : sK s.heap H) (hP : va_P D vwCl wc H) (hD : va_D A wc)
    (hM : Met l y [Cond.code y bytes maxL ret] rm (pCs D dA e0 mi kA vA fm (.ref b :: As) wc H.size) Qc mc ms free) (he : wc[q0]? = some (b, .inr (ci, fs))) (hcl : vwCl[ci]? = some (C, T, N))
    (hc : Cond.code y bytes maxL ret ∈ aW) (hl : Cond.methodLink own index y ∈ aW) (hi : Cond.instanceMethod y ∈ aW) (hse : Cond.selects C y y ∈ aW) (hini : Cond.initialized y.cls ∈ aW) (hrc : rm.cells = mc) (hrs : rm.slots = ms)
    (hd : (y.cls ≠ "java/lang/invoke/MethodHandle" ∧ y.cls ≠ "java/lang/invoke/VarHandle") ∧ (parseMethodDescriptor y.desc).map (fun d => d.parameters.length) = some n) (hR : rm.frames + 1 ≤ R.frames ∧ 8 + (maxL + 11) + rm.locals ≤ R.locals)
    (hn : As.length = n) (hsize : ls.size = nL) (hst : st0 = As.reverse ++ .ref b :: rest) (hW : (rest.map fun v => v.category).sum ≤ 8) (hdg : decode cc pc = .ok (.invokevirtual index, 3)) (hf : cells + mc ≤ R.cells ∧ slots + ms ≤ R.slots) :
    va_Run p l e R s m args below meth c H locs cells slots mc ms (F0 m pc ls st0) rest (Qc (Value.ref b :: As).toArray) free :=
  va_runV (Ts := []) ⟨hx, hb, hml, hown, fun _ h => nomatch h⟩ hM ⟨cB_1 hE hc hl hini hrc hrs hd hR, hE.t hi rfl, hE.t hse rfl⟩ ⟨pCs_blind, va_recv hK hP hcl he, pre_s hE hK hZ hT hMi hQ hS hN hP hD⟩ rfl hn hsize hst (lv_room hW) hdg hf
/-- of a literal -/
theorem rnVq {y : MethodName} {bytes : ByteArray} {maxL mc ms n index nL i : Nat} {ret : Option FieldType} {rm : Room} {Qc : Array Value → State → Outcome → State → Prop} {free : Addr → Prop} {own : String} {As : List Value}
    (hx : p.tables.exec = Jvm.exec) (hb : c.code = cc) (hml : c.maxLocals = nL) (hown : s.vm.findClass own = some m.cls) (hE : eV s) (hK : va_K D vwCl (arT dA) s) (hZ : zZ e0 A s s.heap) (hT : zT e0 A s s.heap) (hMi : va_Mi "[Ljava/lang/Object;" mi s) (hQ : qS kA vA fm A s s.heap) (hS : va_S A s.heap H locs) (hN : sK s.heap H) (hP : va_P D vwCl wc H) (hD : va_D A wc)
    (hM : Met l y [Cond.code y bytes maxL ret] rm (pCs D dA e0 mi kA vA fm (.ref (kA i) :: As) wc H.size) Qc mc ms free) (hi8 : i < 8)
    (hc : Cond.code y bytes maxL ret ∈ aW) (hl : Cond.methodLink own index y ∈ aW) (hi : Cond.instanceMethod y ∈ aW) (hse : Cond.selects "java/lang/String" y y ∈ aW) (hini : Cond.initialized y.cls ∈ aW) (hrc : rm.cells = mc) (hrs : rm.slots = ms)
    (hd : (y.cls ≠ "java/lang/invoke/MethodHandle" ∧ y.cls ≠ "java/lang/invoke/VarHandle") ∧ (parseMethodDescriptor y.desc).map (fun d => d.parameters.length) = some n) (hR : rm.frames + 1 ≤ R.frames ∧ 8 + (maxL + 11) + rm.locals ≤ R.locals)
    (hn : As.length = n) (hsize : ls.size = nL) (hst : st0 = As.reverse ++ .ref (kA i) :: rest) (hW : (rest.map fun v => v.category).sum ≤ 8) (hdg : decode cc pc = .ok (.invokevirtual index, 3)) (hf : cells + mc ≤ R.cells ∧ slots + ms ≤ R.slots) :
    va_Run p l e R s m args below meth c H locs cells slots mc ms (F0 m pc ls st0) rest (Qc (Value.ref (kA i) :: As).toArray) free :=
  va_runV (Ts := []) ⟨hx, hb, hml, hown, fun _ h => nomatch h⟩ hM ⟨cB_1 hE hc hl hini hrc hrs hd hR, hE.t hi rfl, hE.t hse rfl⟩ ⟨pCs_blind, vk_recv hQ.1 hi8 hS, pre_s hE hK hZ hT hMi hQ hS hN hP hD⟩ rfl hn hsize hst (lv_room hW) hdg hf
theorem rnIs {y : MethodName} {bytes : ByteArray} {maxL mc ms n index nL : Nat} {rm : Room} {Qc : Array Value → State → Outcome → State → Prop} {free : Addr → Prop} {own : String} {b : Nat} {As : List Value}
    (hx : p.tables.exec = Jvm.exec) (hb : c.code = cc) (hml : c.maxLocals = nL) (hown : s.vm.findClass own = some m.cls) (hE : eV s) (hK : va_K D vwCl (arT dA) s) (hZ : zZ e0 A s s.heap) (hT : zT e0 A s s.heap) (hMi : va_Mi "[Ljava/lang/Object;" mi s) (hQ : qS kA vA fm A s s.heap) (hS : va_S A s.heap H locs) (hN : sK s.heap H) (hP : va_P D vwCl wc H) (hD : va_D A wc)
    (hM : Met l y [Cond.code y bytes maxL none] rm (pCs D dA e0 mi kA vA fm (.ref b :: As) wc H.size) Qc mc ms free)
    (hc : Cond.code y bytes maxL none ∈ aW) (hl : Cond.methodLink own index y ∈ aW) (hi : Cond.instanceMethod y ∈ aW) (hini : Cond.initialized y.cls ∈ aW) (hy : y.name = "<init>") (hrc : rm.cells = mc) (hrs : rm.slots = ms)
    (hd : (y.cls ≠ "java/lang/invoke/MethodHandle" ∧ y.cls ≠ "java/lang/invoke/VarHandle") ∧ (parseMethodDescriptor y.desc).map (fun d => d.parameters.length) = some n) (hR : rm.frames + 1 ≤ R.frames ∧ 8 + (maxL + 11) + rm.locals ≤ R.locals)
    (hn : As.length = n) (hsize : ls.size = nL) (hst : st0 = As.reverse ++ .ref b :: rest) (hW : (rest.map fun v => v.category).sum ≤ 8) (hdg : decode cc pc = .ok (.invokespecial index, 3)) (hf : cells + mc ≤ R.cells ∧ slots + ms ≤ R.slots) :
    va_Run p l e R s m args below meth c H locs cells slots mc ms (F0 m pc ls st0) rest (Qc (Value.ref b :: As).toArray) free :=
  va_runI (Ts := []) ⟨hx, hb, hml, hown, fun _ h => nomatch h⟩ hM ⟨cB_1 hE hc hl hini hrc hrs hd hR, hy, hE.t hi rfl⟩ ⟨pCs_blind, pre_s hE hK hZ hT hMi hQ hS hN hP hD⟩ rfl hn hsize hst (lv_room hW) hdg hf
theorem rnSs {y : MethodName} {bytes : ByteArray} {maxL mc ms n index nL : Nat} {ret : Option FieldType} {rm : Room} {Qc : Array Value → State → Outcome → State → Prop} {free : Addr → Prop} {own : String} {As : List Value}
    (hx : p.tables.exec = Jvm.exec) (hb : c.code = cc) (hml : c.maxLocals = nL) (hown : s.vm.findClass own = some m.cls) (hE : eV s) (hK : va_K D vwCl (arT dA) s) (hZ : zZ e0 A s s.heap) (hT : zT e0 A s s.heap) (hMi : va_Mi "[Ljava/lang/Object;" mi s) (hQ : qS kA vA fm A s s.heap) (hS : va_S A s.heap H locs) (hN : sK s.heap H) (hP : va_P D vwCl wc H) (hD : va_D A wc)
    (hM : Met l y [Cond.code y bytes maxL ret] rm (pCs D dA e0 mi kA vA fm As wc H.size) Qc mc ms free)
    (hc : Cond.code y bytes maxL ret ∈ aW) (hl : Cond.methodLink own index y ∈ aW) (hstat : Cond.static y ∈ aW) (hini : Cond.initialized y.cls ∈ aW) (hrc : rm.cells = mc) (hrs : rm.slots = ms)
    (hd : (y.cls ≠ "java/lang/invoke/MethodHandle" ∧ y.cls ≠ "java/lang/invoke/VarHandle") ∧ (parseMethodDescriptor y.desc).map (fun d => d.parameters.length) = some n) (hR : rm.frames + 1 ≤ R.frames ∧ 8 + (maxL + 11) + rm.locals ≤ R.locals)
    (hn : As.length = n) (hsize : ls.size = nL) (hst : st0 = As.reverse ++ rest) (hW : (rest.map fun v => v.category).sum ≤ 8) (hdg : decode cc pc = .ok (.invokestatic index, 3)) (hf : cells + mc ≤ R.cells ∧ slots + ms ≤ R.slots) :
    va_Run p l e R s m args below meth c H locs cells slots mc ms (F0 m pc ls st0) rest (Qc As.toArray) free :=
  va_runS (Ts := []) ⟨hx, hb, hml, hown, fun _ h => nomatch h⟩ hM ⟨cB_1 hE hc hl hini hrc hrs hd hR, hE.t hstat rfl⟩ ⟨pCs_blind, pre_s hE hK hZ hT hMi hQ hS hN hP hD⟩ rfl hn hsize hst (lv_room hW) hdg hf
/-- a byte or a char given back -/
theorem rfN {S : Type} {ty : FieldType} {post : Int32 → S → Prop} {w1 : S → va_W} {mc ms : Nat} {x : Int32} (hx : p.tables.exec = Jvm.exec) (hb : c.code = cc) (hr : meth.sig.returnType = some ty) (hz : narrow ty (.int x) = .int x) (hlk : meth.locks = false) (hS : va_S A s.heap H locs) (u : S) (hp : post x u) (hP : va_P D vwCl (w1 u) H) (hD : va_D A (w1 u)) (hc : cells ≤ mc) (hsl : slots ≤ ms) (hdg : decode cc pc = .ok (.ireturn, 1)) :
    W p l e R s m args below meth c H locs cells slots (MQ below (va_Qi post (fun u t => bW D A (w1 u) t) A) args s mc ms A) (F0 m pc ls [.int x]) :=
  W.widen hc hsl (W.zret hx hb hr hz (fun t ht _ => ⟨⟨x, u, rfl, hp, by rw [ht]; exact hP, hD⟩, hS.F ht⟩) hS.2.2 hdg hlk)
end RS
theorem mkS {l : Launch} {y : MethodName} {cc : ByteArray} {maxL : Nat} {ret : Option FieldType} {rm : Room} {D : va_G} {dA : Nat → ClassId} {e0 mi : Nat} {kA vA : Nat → Nat} {fm : Nat} {av : List Value} {ws : va_W} {sz mc ms : Nat} {Qc : (Nat → Prop) → Array Value → State → Outcome → State → Prop}
    (hy : plainName y.cls = true) (hlen : (lg_sl av).length ≤ maxL)
    (body : ∀ (A : Nat → Prop) (p : Program) (e : Env) (s : State) (m : MethodId) (below : List Frame) (meth : Method) (c : Code) (ls : Array Slot), s.heap.size = sz → zZ e0 A s s.heap → zT e0 A s s.heap → va_Mi "[Ljava/lang/Object;" mi s → qS kA vA fm A s s.heap → bS p s m meth c cc ret maxL y D dA ws A av ls →
      W p l e rm s m av.toArray below meth c s.heap [] 0 0 (MQ below (Qc A) av.toArray s mc ms A) (F0 m 0 ls [])) :
    Met l y [Cond.code y cc maxL ret] rm (pCs D dA e0 mi kA vA fm av ws sz) (Qc (va_A ws sz)) mc ms (va_A ws sz) := by
  refine Met.ofW (cc := cc) (maxL := maxL) (ret := ret) hy rfl ?_
  intro p e s m args below meth c s₁ B hml hv
  obtain ⟨⟨⟨⟨rfl, hsz, hP, hK, hD0, hE⟩, hZ, hT, hn⟩, hMi⟩, hQ, hn2⟩ := hv
  have hA : ∀ q : Nat, s.heap.size ≤ q → va_A ws sz q := fun q h => by rw [← hsz]; exact Or.inr h
  have hl := lv_entry av (n := maxL) hlen
  rw [lg_entry_eq]
  exact body (va_A ws sz) p e s m below meth c _ hsz (zZ_in hP hsz hZ) (zT_in hn hT) hMi ⟨S_in hn2 hQ.1, Z_in hP hsz hQ.2.1, Z_in hP hsz hQ.2.2.1, hQ.2.2.2⟩ ⟨B.exec, B.bytes, B.returns, hml, findClass_of_methodNamed B.named, (name_of_methodNamed B.named B.method).1, B.notSynchronized, hE, hK, hP, hD0.self, va_S.rf, hA, fun H L h => by subst hsz; exact sK_of hP h, hl⟩
theorem sc_shr00 {a : Nat} (h : a < 2 ^ 31) : nI a >>> ((0 : Int32) &&& 31) = nI a := by
  rw [show ((0 : Int32) &&& 31) = 0 by decide]
  apply Int32.toBitVec_inj.mp
  rw [Int32.toBitVec_shiftRight]
  show (BitVec.ofNat 32 a).sshiftRight' ((0#32).smod 32#32) = BitVec.ofNat 32 a
  rw [show (0#32).smod 32#32 = 0#32 by decide]
  show (BitVec.ofNat 32 a).sshiftRight 0 = _
  exact BitVec.sshiftRight_zero
theorem qs_at {i k : Nat} (hi : i < 8) (hk : k < (qsW i).length) : ((((qsW i).getD k 0) &&& 255).toUInt32 % 65536).toInt32 = (qsW i).getD k 0 ∧ narrow .char (.int ((qsW i).getD k 0)) = .int ((qsW i).getD k 0) := by
  have h := (qs_all i hi).2.2 ((qsW i).getD k 0) (by rw [List.getD_eq_getElem?_getD, List.getElem?_eq_getElem hk]; exact List.getElem_mem hk)
  exact h
set_option maxHeartbeats 4000000 in
set_option maxRecDepth 100000 in
theorem v_preIndexR (l : Launch) (D : va_G) (dA : Nat → ClassId) (sz : Nat) (a : Nat) (n : Nat) (fq : Nat) (h1 : a < n) (h2 : n ≤ 65536) : Met l ⟨"jdk/internal/util/Preconditions", "checkIndex", "(IILjava/util/function/BiFunction;)I"⟩ [Cond.code ⟨"jdk/internal/util/Preconditions", "checkIndex", "(IILjava/util/function/BiFunction;)I"⟩ prog_45_method_11_code 3 (some FieldType.int)] { frames := 1, cells := 0, slots := 0, locals := 0 } (pC D dA [.int (nI a), .int (nI n), .ref fq] ([]) sz) (va_Qi (fun (r9 : Int32) (u9 : Unit) => r9 = nI a) (fun (u9 : Unit) t9 => bW D (va_A ([]) sz) ([]) t9) (va_A ([]) sz)) 0 0 (va_A ([]) sz) := by
  refine mkC (y := ⟨"jdk/internal/util/Preconditions", "checkIndex", "(IILjava/util/function/BiFunction;)I"⟩) (cc := prog_45_method_11_code) (maxL := 3) (av := [.int (nI a), .int (nI n), .ref fq]) (ws := []) (sz := sz) (Qc := fun A => va_Qi (fun (r9 : Int32) (u9 : Unit) => r9 = nI a) (fun (u9 : Unit) t9 => bW D A ([]) t9) A) (by decide) (Nat.le_of_ble_eq_true rfl) ?_
  intro A p e s m below meth c ls hsz hB
  obtain ⟨hx, hb, hr, hml, hown, hin, hlk, hE, hK, hP, hD, hS, hA, hN, hl⟩ := hB
  have hown : s.vm.findClass "jdk/internal/util/Preconditions" = some m.cls := hown
  have hl : lv_has ls 3 [(0, .int (nI a)), (1, .int (nI n)), (2, .ref fq)] := hl
  obtain ⟨H, hH⟩ : ∃ z, z = s.heap := ⟨_, rfl⟩
  have hP : va_P D vwCl ([]) H := by rw [hH]; exact hP
  have hS : va_S A s.heap H [] := by rw [hH]; exact hS
  rw [← hH]
  refine lv_iload_n hx hb d_Preconditions_checkIndex_0 rfl (lv_at hl 0 rfl) ?_
  refine lv_if_lt hx hb d_Preconditions_checkIndex_1 (tgt := 9) rfl (fun h9 => absurd h9 (nI_pos (n := a) (by omega))) (fun _ => ?_)
  refine lv_iload_n hx hb d_Preconditions_checkIndex_4 rfl (lv_at hl 0 rfl) ?_
  refine lv_iload_n hx hb d_Preconditions_checkIndex_5 rfl (lv_at hl 1 rfl) ?_
  refine lv_icmp_lt hx hb d_Preconditions_checkIndex_6 (tgt := 16) rfl (fun _ => ?_) (fun h9 => absurd ((nI_ltI (a := a) (b := n) (by omega) (by omega)).mpr h1) h9)
  refine lv_iload_n hx hb d_Preconditions_checkIndex_16 rfl (lv_at hl 0 rfl) ?_
  exact rfI hx hb hr hlk hS () rfl hP hD (Nat.le_of_ble_eq_true rfl) (Nat.le_of_ble_eq_true rfl) d_Preconditions_checkIndex_17
theorem d_String_checkIndex_0 : decode prog_28_method_155_code 0 = .ok (.iload_n 0, 1) := by decide +kernel
theorem d_String_checkIndex_1 : decode prog_28_method_155_code 1 = .ok (.iload_n 1, 1) := by decide +kernel
theorem d_String_checkIndex_2 : decode prog_28_method_155_code 2 = .ok (.getstatic 1053, 3) := by decide +kernel
theorem d_String_checkIndex_5 : decode prog_28_method_155_code 5 = .ok (.invokestatic 1059, 3) := by decide +kernel
theorem d_String_checkIndex_8 : decode prog_28_method_155_code 8 = .ok (.pop, 1) := by decide +kernel
theorem d_String_checkIndex_9 : decode prog_28_method_155_code 9 = .ok (.return_, 1) := by decide +kernel
theorem w1590 : Cond.fieldLink "java/lang/String" 1053 "jdk/internal/util/Preconditions" "SIOOBE_FORMATTER" "Ljava/util/function/BiFunction;" ∈ aW := aw_of (tb_4 (List.mem_of_getElem? (i := 78) rfl)) rfl
theorem w1591 : Cond.methodLink "java/lang/String" 1059 ⟨"jdk/internal/util/Preconditions", "checkIndex", "(IILjava/util/function/BiFunction;)I"⟩ ∈ aW := aw_of (tb_7 (List.mem_of_getElem? (i := 74) rfl)) rfl
set_option maxHeartbeats 4000000 in
set_option maxRecDepth 100000 in
theorem v_Sindex (l : Launch) (D : va_G) (dA : Nat → ClassId) (sz : Nat) (e0 mi : Nat) (kA vA : Nat → Nat) (fm : Nat) (ws : va_W) (a : Nat) (n : Nat) (h1 : a < n) (h2 : n ≤ 65536) : Met l ⟨"java/lang/String", "checkIndex", "(II)V"⟩ [Cond.code ⟨"java/lang/String", "checkIndex", "(II)V"⟩ prog_28_method_155_code 2 none] { frames := 2, cells := 0, slots := 0, locals := 22 } (pCs D dA e0 mi kA vA fm [.int (nI a), .int (nI n)] (ws) sz) (va_Qv (fun (u9 : Unit) => True) (fun (u9 : Unit) t9 => bW D (va_A (ws) sz) (ws) t9) (va_A (ws) sz)) 0 0 (va_A (ws) sz) := by
  cases fm with
  | zero =>
    refine mkS (y := ⟨"java/lang/String", "checkIndex", "(II)V"⟩) (cc := prog_28_method_155_code) (maxL := 2) (av := [.int (nI a), .int (nI n)]) (ws := ws) (sz := sz) (Qc := fun A => va_Qv (fun (u9 : Unit) => True) (fun (u9 : Unit) t9 => bW D A (ws) t9) A) (by decide) (Nat.le_of_ble_eq_true rfl) ?_
    intro A p e s m below meth c ls hsz hZ hT hM hQ hB
    obtain ⟨hx, hb, hr, hml, hown, hin, hlk, hE, hK, hP, hD, hS, hA, hN, hl⟩ := hB
    have hown : s.vm.findClass "java/lang/String" = some m.cls := hown
    have hl : lv_has ls 2 [(0, .int (nI a)), (1, .int (nI n))] := hl
    obtain ⟨H, hH⟩ : ∃ z, z = s.heap := ⟨_, rfl⟩
    have hP : va_P D vwCl (ws) H := by rw [hH]; exact hP
    have hS : va_S A s.heap H [] := by rw [hH]; exact hS
    rw [← hH]
    refine lv_iload_n hx hb d_String_checkIndex_0 rfl (lv_at hl 0 rfl) ?_
    refine lv_iload_n hx hb d_String_checkIndex_1 rfl (lv_at hl 1 rfl) ?_
    refine va_gets hx hb (show va_Z "jdk/internal/util/Preconditions" "SIOOBE_FORMATTER" "Ljava/util/function/BiFunction;" (.null) A s s.heap from hQ.2.2.1) hS hown (hE.t w1590 rfl) (fun _ h => h) d_String_checkIndex_2 ?_
    have hPc := hP.sub (ws' := []) [] rfl
    have hDc := hD.sub (ws' := []) [] (by decide) rfl
    refine jpI (rnS (As := [.int (nI a), .int (nI n), .null]) (rest := []) hx hb hml hown hE hK (hN _ _ hS) hPc hDc (v_preIndex l D dA H.size a n (show a < n from by omega) (show n ≤ 65536 from by omega)) w1446 w1591 w1447 w1445 rfl rfl ⟨⟨by decide, by decide⟩, rfl⟩ ⟨(Nat.le_of_ble_eq_true rfl), (Nat.le_of_ble_eq_true rfl)⟩ rfl hl.1 rfl (Nat.le_of_ble_eq_true rfl) d_String_checkIndex_5 ⟨(Nat.le_of_ble_eq_true rfl), (Nat.le_of_ble_eq_true rfl)⟩) hP hD hS hA (fun r1 u9 H locs hp9 hP hD hS => ?_)
    have hP : va_P D vwCl (ws) H := hP
    have hD : va_D A (ws) := hD
    replace hp9 : nI a = r1 := Eq.symm hp9
    subst hp9
    refine lv_pop hx hb d_String_checkIndex_8 rfl ?_
    exact rfV hx hb hr hlk hS () trivial hP hD (Nat.le_of_ble_eq_true rfl) (Nat.le_of_ble_eq_true rfl) d_String_checkIndex_9
  | succ fm =>
    refine mkS (y := ⟨"java/lang/String", "checkIndex", "(II)V"⟩) (cc := prog_28_method_155_code) (maxL := 2) (av := [.int (nI a), .int (nI n)]) (ws := ws) (sz := sz) (Qc := fun A => va_Qv (fun (u9 : Unit) => True) (fun (u9 : Unit) t9 => bW D A (ws) t9) A) (by decide) (Nat.le_of_ble_eq_true rfl) ?_
    intro A p e s m below meth c ls hsz hZ hT hM hQ hB
    obtain ⟨hx, hb, hr, hml, hown, hin, hlk, hE, hK, hP, hD, hS, hA, hN, hl⟩ := hB
    have hown : s.vm.findClass "java/lang/String" = some m.cls := hown
    have hl : lv_has ls 2 [(0, .int (nI a)), (1, .int (nI n))] := hl
    obtain ⟨H, hH⟩ : ∃ z, z = s.heap := ⟨_, rfl⟩
    have hP : va_P D vwCl (ws) H := by rw [hH]; exact hP
    have hS : va_S A s.heap H [] := by rw [hH]; exact hS
    rw [← hH]
    refine lv_iload_n hx hb d_String_checkIndex_0 rfl (lv_at hl 0 rfl) ?_
    refine lv_iload_n hx hb d_String_checkIndex_1 rfl (lv_at hl 1 rfl) ?_
    refine va_gets hx hb (show va_Z "jdk/internal/util/Preconditions" "SIOOBE_FORMATTER" "Ljava/util/function/BiFunction;" (.ref fm) A s s.heap from hQ.2.2.1) hS hown (hE.t w1590 rfl) (fun _ h => h) d_String_checkIndex_2 ?_
    have hPc := hP.sub (ws' := []) [] rfl
    have hDc := hD.sub (ws' := []) [] (by decide) rfl
    refine jpI (rnS (As := [.int (nI a), .int (nI n), .ref fm]) (rest := []) hx hb hml hown hE hK (hN _ _ hS) hPc hDc (v_preIndexR l D dA H.size a n fm (show a < n from by omega) (show n ≤ 65536 from by omega)) w1446 w1591 w1447 w1445 rfl rfl ⟨⟨by decide, by decide⟩, rfl⟩ ⟨(Nat.le_of_ble_eq_true rfl), (Nat.le_of_ble_eq_true rfl)⟩ rfl hl.1 rfl (Nat.le_of_ble_eq_true rfl) d_String_checkIndex_5 ⟨(Nat.le_of_ble_eq_true rfl), (Nat.le_of_ble_eq_true rfl)⟩) hP hD hS hA (fun r1 u9 H locs hp9 hP hD hS => ?_)
    have hP : va_P D vwCl (ws) H := hP
    have hD : va_D A (ws) := hD
    replace hp9 : nI a = r1 := Eq.symm hp9
    subst hp9
    refine lv_pop hx hb d_String_checkIndex_8 rfl ?_
    exact rfV hx hb hr hlk hS () trivial hP hD (Nat.le_of_ble_eq_true rfl) (Nat.le_of_ble_eq_true rfl) d_String_checkIndex_9
theorem d_String_coder_0 : decode prog_28_method_152_code 0 = .ok (.getstatic 38, 3) := by decide +kernel
theorem d_String_coder_3 : decode prog_28_method_152_code 3 = .ok (.ifCond .eq 10, 3) := by decide +kernel
theorem d_String_coder_6 : decode prog_28_method_152_code 6 = .ok (.aload_n 0, 1) := by decide +kernel
theorem d_String_coder_7 : decode prog_28_method_152_code 7 = .ok (.getfield 15, 3) := by decide +kernel
theorem d_String_coder_10 : decode prog_28_method_152_code 10 = .ok (.goto 4, 3) := by decide +kernel
theorem d_String_coder_14 : decode prog_28_method_152_code 14 = .ok (.ireturn, 1) := by decide +kernel
theorem w1592 : Cond.fieldLink "java/lang/String" 38 "java/lang/String" "COMPACT_STRINGS" "Z" ∈ aW := aw_of (tb_4 (List.mem_of_getElem? (i := 120) rfl)) rfl
theorem w1593 : Cond.fieldLink "java/lang/String" 15 "java/lang/String" "coder" "B" ∈ aW := aw_of (tb_4 (List.mem_of_getElem? (i := 197) rfl)) rfl
set_option maxHeartbeats 4000000 in
set_option maxRecDepth 100000 in
theorem v_Scoder (l : Launch) (D : va_G) (dA : Nat → ClassId) (sz : Nat) (e0 mi : Nat) (kA vA : Nat → Nat) (fm : Nat) (ws : va_W) (i : Nat) (hi : i < 8) : Met l ⟨"java/lang/String", "coder", "()B"⟩ [Cond.code ⟨"java/lang/String", "coder", "()B"⟩ prog_28_method_152_code 1 (some FieldType.byte)] { frames := 1, cells := 0, slots := 0, locals := 0 } (pCs D dA e0 mi kA vA fm [.ref (kA i)] (ws) sz) (va_Qi (fun (r9 : Int32) (u9 : Unit) => r9 = 0) (fun (u9 : Unit) t9 => bW D (va_A (ws) sz) (ws) t9) (va_A (ws) sz)) 0 0 (va_A (ws) sz) := by
  refine mkS (y := ⟨"java/lang/String", "coder", "()B"⟩) (cc := prog_28_method_152_code) (maxL := 1) (av := [.ref (kA i)]) (ws := ws) (sz := sz) (Qc := fun A => va_Qi (fun (r9 : Int32) (u9 : Unit) => r9 = 0) (fun (u9 : Unit) t9 => bW D A (ws) t9) A) (by decide) (Nat.le_of_ble_eq_true rfl) ?_
  intro A p e s m below meth c ls hsz hZ hT hM hQ hB
  obtain ⟨hx, hb, hr, hml, hown, hin, hlk, hE, hK, hP, hD, hS, hA, hN, hl⟩ := hB
  have hown : s.vm.findClass "java/lang/String" = some m.cls := hown
  have hl : lv_has ls 1 [(0, .ref (kA i))] := hl
  obtain ⟨H, hH⟩ : ∃ z, z = s.heap := ⟨_, rfl⟩
  have hP : va_P D vwCl (ws) H := by rw [hH]; exact hP
  have hS : va_S A s.heap H [] := by rw [hH]; exact hS
  rw [← hH]
  refine va_gets hx hb hQ.2.1 hS hown (hE.t w1592 rfl) (fun _ h => h) d_String_coder_0 ?_
  refine lv_if_eq hx hb d_String_coder_3 (tgt := 13) rfl (fun h9 => absurd h9 (by decide)) (fun _ => ?_)
  refine lv_aload_n hx hb d_String_coder_6 rfl (lv_at hl 0 rfl) ?_
  refine vk_getf hx hb (hQ.1.1 i hi).2.1 hS hown (hE.t w1593 rfl) (fun _ h => h) d_String_coder_7 ?_
  refine lv_goto hx hb d_String_coder_10 (tgt := 14) rfl ?_
  exact rfN hx hb hr (by decide) hlk hS () rfl hP hD (Nat.le_of_ble_eq_true rfl) (Nat.le_of_ble_eq_true rfl) d_String_coder_14
theorem d_String_isLatin1_0 : decode prog_28_method_154_code 0 = .ok (.getstatic 38, 3) := by decide +kernel
theorem d_String_isLatin1_3 : decode prog_28_method_154_code 3 = .ok (.ifCond .eq 14, 3) := by decide +kernel
theorem d_String_isLatin1_6 : decode prog_28_method_154_code 6 = .ok (.aload_n 0, 1) := by decide +kernel
theorem d_String_isLatin1_7 : decode prog_28_method_154_code 7 = .ok (.getfield 15, 3) := by decide +kernel
theorem d_String_isLatin1_10 : decode prog_28_method_154_code 10 = .ok (.ifCond .ne 7, 3) := by decide +kernel
theorem d_String_isLatin1_13 : decode prog_28_method_154_code 13 = .ok (.iconst 1, 1) := by decide +kernel
theorem d_String_isLatin1_14 : decode prog_28_method_154_code 14 = .ok (.goto 4, 3) := by decide +kernel
theorem d_String_isLatin1_18 : decode prog_28_method_154_code 18 = .ok (.ireturn, 1) := by decide +kernel
set_option maxHeartbeats 4000000 in
set_option maxRecDepth 100000 in
theorem v_Slat (l : Launch) (D : va_G) (dA : Nat → ClassId) (sz : Nat) (e0 mi : Nat) (kA vA : Nat → Nat) (fm : Nat) (ws : va_W) (i : Nat) (hi : i < 8) : Met l ⟨"java/lang/String", "isLatin1", "()Z"⟩ [Cond.code ⟨"java/lang/String", "isLatin1", "()Z"⟩ prog_28_method_154_code 1 (some FieldType.boolean)] { frames := 1, cells := 0, slots := 0, locals := 0 } (pCs D dA e0 mi kA vA fm [.ref (kA i)] (ws) sz) (va_Qi (fun (r9 : Int32) (u9 : Unit) => r9 = 1) (fun (u9 : Unit) t9 => bW D (va_A (ws) sz) (ws) t9) (va_A (ws) sz)) 0 0 (va_A (ws) sz) := by
  refine mkS (y := ⟨"java/lang/String", "isLatin1", "()Z"⟩) (cc := prog_28_method_154_code) (maxL := 1) (av := [.ref (kA i)]) (ws := ws) (sz := sz) (Qc := fun A => va_Qi (fun (r9 : Int32) (u9 : Unit) => r9 = 1) (fun (u9 : Unit) t9 => bW D A (ws) t9) A) (by decide) (Nat.le_of_ble_eq_true rfl) ?_
  intro A p e s m below meth c ls hsz hZ hT hM hQ hB
  obtain ⟨hx, hb, hr, hml, hown, hin, hlk, hE, hK, hP, hD, hS, hA, hN, hl⟩ := hB
  have hown : s.vm.findClass "java/lang/String" = some m.cls := hown
  have hl : lv_has ls 1 [(0, .ref (kA i))] := hl
  obtain ⟨H, hH⟩ : ∃ z, z = s.heap := ⟨_, rfl⟩
  have hP : va_P D vwCl (ws) H := by rw [hH]; exact hP
  have hS : va_S A s.heap H [] := by rw [hH]; exact hS
  rw [← hH]
  refine va_gets hx hb hQ.2.1 hS hown (hE.t w1592 rfl) (fun _ h => h) d_String_isLatin1_0 ?_
  refine lv_if_eq hx hb d_String_isLatin1_3 (tgt := 17) rfl (fun h9 => absurd h9 (by decide)) (fun _ => ?_)
  refine lv_aload_n hx hb d_String_isLatin1_6 rfl (lv_at hl 0 rfl) ?_
  refine vk_getf hx hb (hQ.1.1 i hi).2.1 hS hown (hE.t w1593 rfl) (fun _ h => h) d_String_isLatin1_7 ?_
  refine lv_if_ne hx hb d_String_isLatin1_10 (tgt := 17) rfl (fun h9 => absurd (by decide) h9) (fun _ => ?_)
  refine lv_iconst (v := 1) hx hb d_String_isLatin1_13 (by decide) ?_
  refine lv_goto hx hb d_String_isLatin1_14 (tgt := 18) rfl ?_
  exact rfZ hx hb hr (bI_nar true) hlk hS () rfl hP hD (Nat.le_of_ble_eq_true rfl) (Nat.le_of_ble_eq_true rfl) d_String_isLatin1_18
theorem d_String_length_0 : decode prog_28_method_54_code 0 = .ok (.aload_n 0, 1) := by decide +kernel
theorem d_String_length_1 : decode prog_28_method_54_code 1 = .ok (.getfield 9, 3) := by decide +kernel
theorem d_String_length_4 : decode prog_28_method_54_code 4 = .ok (.arraylength, 1) := by decide +kernel
theorem d_String_length_5 : decode prog_28_method_54_code 5 = .ok (.aload_n 0, 1) := by decide +kernel
theorem d_String_length_6 : decode prog_28_method_54_code 6 = .ok (.invokevirtual 335, 3) := by decide +kernel
theorem d_String_length_9 : decode prog_28_method_54_code 9 = .ok (.ishr, 1) := by decide +kernel
theorem d_String_length_10 : decode prog_28_method_54_code 10 = .ok (.ireturn, 1) := by decide +kernel
theorem w1594 : Cond.fieldLink "java/lang/String" 9 "java/lang/String" "value" "[B" ∈ aW := aw_of (tb_4 (List.mem_of_getElem? (i := 196) rfl)) rfl
theorem w1595 : Cond.methodLink "java/lang/String" 335 ⟨"java/lang/String", "coder", "()B"⟩ ∈ aW := aw_of (tb_4 (List.mem_of_getElem? (i := 116) rfl)) rfl
theorem w1596 : Cond.initialized "java/lang/String" ∈ aW := aw_of (tb_1 (List.mem_of_getElem? (i := 26) rfl)) rfl
theorem w1597 : Cond.code ⟨"java/lang/String", "coder", "()B"⟩ prog_28_method_152_code 1 (some FieldType.byte) ∈ aW := aw_of (tb_4 (List.mem_of_getElem? (i := 119) rfl)) rfl
theorem w1598 : Cond.instanceMethod ⟨"java/lang/String", "coder", "()B"⟩ ∈ aW := aw_of (tb_4 (List.mem_of_getElem? (i := 117) rfl)) rfl
theorem w1599 : Cond.selects "java/lang/String" ⟨"java/lang/String", "coder", "()B"⟩ ⟨"java/lang/String", "coder", "()B"⟩ ∈ aW := aw_of (tb_4 (List.mem_of_getElem? (i := 118) rfl)) rfl
set_option maxHeartbeats 4000000 in
set_option maxRecDepth 100000 in
theorem v_Slength (l : Launch) (D : va_G) (dA : Nat → ClassId) (sz : Nat) (e0 mi : Nat) (kA vA : Nat → Nat) (fm : Nat) (ws : va_W) (i : Nat) (hi : i < 8) : Met l ⟨"java/lang/String", "length", "()I"⟩ [Cond.code ⟨"java/lang/String", "length", "()I"⟩ prog_28_method_54_code 1 (some FieldType.int)] { frames := 2, cells := 0, slots := 0, locals := 20 } (pCs D dA e0 mi kA vA fm [.ref (kA i)] (ws) sz) (va_Qi (fun (r9 : Int32) (u9 : Unit) => r9 = nI (qsW i).length) (fun (u9 : Unit) t9 => bW D (va_A (ws) sz) (ws) t9) (va_A (ws) sz)) 0 0 (va_A (ws) sz) := by
  refine mkS (y := ⟨"java/lang/String", "length", "()I"⟩) (cc := prog_28_method_54_code) (maxL := 1) (av := [.ref (kA i)]) (ws := ws) (sz := sz) (Qc := fun A => va_Qi (fun (r9 : Int32) (u9 : Unit) => r9 = nI (qsW i).length) (fun (u9 : Unit) t9 => bW D A (ws) t9) A) (by decide) (Nat.le_of_ble_eq_true rfl) ?_
  intro A p e s m below meth c ls hsz hZ hT hM hQ hB
  obtain ⟨hx, hb, hr, hml, hown, hin, hlk, hE, hK, hP, hD, hS, hA, hN, hl⟩ := hB
  have hown : s.vm.findClass "java/lang/String" = some m.cls := hown
  have hl : lv_has ls 1 [(0, .ref (kA i))] := hl
  obtain ⟨H, hH⟩ : ∃ z, z = s.heap := ⟨_, rfl⟩
  have hP : va_P D vwCl (ws) H := by rw [hH]; exact hP
  have hS : va_S A s.heap H [] := by rw [hH]; exact hS
  rw [← hH]
  refine lv_aload_n hx hb d_String_length_0 rfl (lv_at hl 0 rfl) ?_
  refine vk_getf hx hb (hQ.1.1 i hi).2.2.1 hS hown (hE.t w1594 rfl) (fun _ h => h) d_String_length_1 ?_
  refine va_tlen (v := nI (qsW i).length) hx hb (hQ.1.1 i hi).2.2.2 hS (by rw [(qs_all i hi).1]; rfl) d_String_length_4 ?_
  refine lv_aload_n hx hb d_String_length_5 rfl (lv_at hl 0 rfl) ?_
  refine jkI (wr := []) (rnVq (As := []) (rest := [.int (nI (qsW i).length)]) hx hb hml hown hE hK hZ hT hM hQ hS (hN _ _ hS) hP hD (v_Scoder l D dA H.size e0 mi kA vA fm ws i (show i < 8 from by omega)) (i := i) hi w1597 w1595 w1598 w1599 w1596 rfl rfl ⟨⟨by decide, by decide⟩, rfl⟩ ⟨(Nat.le_of_ble_eq_true rfl), (Nat.le_of_ble_eq_true rfl)⟩ rfl hl.1 rfl (Nat.le_of_ble_eq_true rfl) d_String_length_6 ⟨(Nat.le_of_ble_eq_true rfl), (Nat.le_of_ble_eq_true rfl)⟩) hP hD hS hA (fun r1 u2 H locs hp9 hP hD hS => ?_)
  have hP : va_P D vwCl (ws) H := hP
  have hD : va_D A (ws) := hD
  replace hp9 : 0 = r1 := Eq.symm hp9
  subst hp9
  refine lv_ishr hx hb d_String_length_9 (tpi (y := nI (qsW i).length) (sc_shr00 (by have := (qs_all i hi).2.1; omega)) ?_)
  exact rfI hx hb hr hlk hS () rfl hP hD (Nat.le_of_ble_eq_true rfl) (Nat.le_of_ble_eq_true rfl) d_String_length_10
theorem d_StringLatin1_charAt_0 : decode prog_30_method_2_code 0 = .ok (.iload_n 1, 1) := by decide +kernel
theorem d_StringLatin1_charAt_1 : decode prog_30_method_2_code 1 = .ok (.aload_n 0, 1) := by decide +kernel
theorem d_StringLatin1_charAt_2 : decode prog_30_method_2_code 2 = .ok (.arraylength, 1) := by decide +kernel
theorem d_StringLatin1_charAt_3 : decode prog_30_method_2_code 3 = .ok (.invokestatic 9, 3) := by decide +kernel
theorem d_StringLatin1_charAt_6 : decode prog_30_method_2_code 6 = .ok (.aload_n 0, 1) := by decide +kernel
theorem d_StringLatin1_charAt_7 : decode prog_30_method_2_code 7 = .ok (.iload_n 1, 1) := by decide +kernel
theorem d_StringLatin1_charAt_8 : decode prog_30_method_2_code 8 = .ok (.baload, 1) := by decide +kernel
theorem d_StringLatin1_charAt_9 : decode prog_30_method_2_code 9 = .ok (.sipush 255, 3) := by decide +kernel
theorem d_StringLatin1_charAt_12 : decode prog_30_method_2_code 12 = .ok (.iand, 1) := by decide +kernel
theorem d_StringLatin1_charAt_13 : decode prog_30_method_2_code 13 = .ok (.i2c, 1) := by decide +kernel
theorem d_StringLatin1_charAt_14 : decode prog_30_method_2_code 14 = .ok (.ireturn, 1) := by decide +kernel
theorem w1600 : Cond.methodLink "java/lang/StringLatin1" 9 ⟨"java/lang/String", "checkIndex", "(II)V"⟩ ∈ aW := aw_of (tb_7 (List.mem_of_getElem? (i := 71) rfl)) rfl
theorem w1601 : Cond.code ⟨"java/lang/String", "checkIndex", "(II)V"⟩ prog_28_method_155_code 2 none ∈ aW := aw_of (tb_7 (List.mem_of_getElem? (i := 73) rfl)) rfl
theorem w1602 : Cond.static ⟨"java/lang/String", "checkIndex", "(II)V"⟩ ∈ aW := aw_of (tb_7 (List.mem_of_getElem? (i := 72) rfl)) rfl
set_option maxHeartbeats 4000000 in
set_option maxRecDepth 100000 in
theorem v_SLchar (l : Launch) (D : va_G) (dA : Nat → ClassId) (sz : Nat) (e0 mi : Nat) (kA vA : Nat → Nat) (fm : Nat) (ws : va_W) (i : Nat) (k : Nat) (hi : i < 8) (hk : k < (qsW i).length) : Met l ⟨"java/lang/StringLatin1", "charAt", "([BI)C"⟩ [Cond.code ⟨"java/lang/StringLatin1", "charAt", "([BI)C"⟩ prog_30_method_2_code 2 (some FieldType.char)] { frames := 3, cells := 0, slots := 0, locals := 43 } (pCs D dA e0 mi kA vA fm [.ref (vA i), .int (nI k)] (ws) sz) (va_Qi (fun (r9 : Int32) (u9 : Unit) => r9 = (qsW i).getD k 0) (fun (u9 : Unit) t9 => bW D (va_A (ws) sz) (ws) t9) (va_A (ws) sz)) 0 0 (va_A (ws) sz) := by
  refine mkS (y := ⟨"java/lang/StringLatin1", "charAt", "([BI)C"⟩) (cc := prog_30_method_2_code) (maxL := 2) (av := [.ref (vA i), .int (nI k)]) (ws := ws) (sz := sz) (Qc := fun A => va_Qi (fun (r9 : Int32) (u9 : Unit) => r9 = (qsW i).getD k 0) (fun (u9 : Unit) t9 => bW D A (ws) t9) A) (by decide) (Nat.le_of_ble_eq_true rfl) ?_
  intro A p e s m below meth c ls hsz hZ hT hM hQ hB
  obtain ⟨hx, hb, hr, hml, hown, hin, hlk, hE, hK, hP, hD, hS, hA, hN, hl⟩ := hB
  have hown : s.vm.findClass "java/lang/StringLatin1" = some m.cls := hown
  have hl : lv_has ls 2 [(0, .ref (vA i)), (1, .int (nI k))] := hl
  obtain ⟨H, hH⟩ : ∃ z, z = s.heap := ⟨_, rfl⟩
  have hP : va_P D vwCl (ws) H := by rw [hH]; exact hP
  have hS : va_S A s.heap H [] := by rw [hH]; exact hS
  rw [← hH]
  have h6 := (qs_all i hi).2.1
  refine lv_iload_n hx hb d_StringLatin1_charAt_0 rfl (lv_at hl 1 rfl) ?_
  refine lv_aload_n hx hb d_StringLatin1_charAt_1 rfl (lv_at hl 0 rfl) ?_
  refine va_tlen (v := nI (qsW i).length) hx hb (hQ.1.1 i hi).2.2.2 hS (by rw [(qs_all i hi).1]; rfl) d_StringLatin1_charAt_2 ?_
  refine jkV (wr := []) (rnSs (As := [.int (nI k), .int (nI (qsW i).length)]) (rest := []) hx hb hml hown hE hK hZ hT hM hQ hS (hN _ _ hS) hP hD (v_Sindex l D dA H.size e0 mi kA vA fm ws k ((qsW i).length) (show k < ((qsW i).length) from by omega) (show ((qsW i).length) ≤ 65536 from by omega)) w1601 w1600 w1602 w1596 rfl rfl ⟨⟨by decide, by decide⟩, rfl⟩ ⟨(Nat.le_of_ble_eq_true rfl), (Nat.le_of_ble_eq_true rfl)⟩ rfl hl.1 rfl (Nat.le_of_ble_eq_true rfl) d_StringLatin1_charAt_3 ⟨(Nat.le_of_ble_eq_true rfl), (Nat.le_of_ble_eq_true rfl)⟩) hP hD hS hA (fun u2 H locs hp9 hP hD hS => ?_)
  have hP : va_P D vwCl (ws) H := hP
  have hD : va_D A (ws) := hD
  refine lv_aload_n hx hb d_StringLatin1_charAt_6 rfl (lv_at hl 0 rfl) ?_
  refine lv_iload_n hx hb d_StringLatin1_charAt_7 rfl (lv_at hl 1 rfl) ?_
  refine va_tb (v := .int ((qsW i).getD k 0)) hx hb (hQ.1.1 i hi).2.2.2 hS (vp_in_nI (by rw [(qs_all i hi).1]; omega) (by have := (qs_all i hi).2.1; rw [(qs_all i hi).1]; omega)) (by rw [nI_clamp (by omega)]; rfl) d_StringLatin1_charAt_8 ?_
  refine lv_sipush (v := 255) hx hb d_StringLatin1_charAt_9 (by decide) ?_
  refine lv_iand hx hb d_StringLatin1_charAt_12 ?_
  refine lv_i2c hx hb (v := (qsW i).getD k 0) d_StringLatin1_charAt_13 (qs_at hi hk).1 ?_
  exact rfN hx hb hr (qs_at hi hk).2 hlk hS () rfl hP hD (Nat.le_of_ble_eq_true rfl) (Nat.le_of_ble_eq_true rfl) d_StringLatin1_charAt_14
theorem d_String_charAt_0 : decode prog_28_method_56_code 0 = .ok (.aload_n 0, 1) := by decide +kernel
theorem d_String_charAt_1 : decode prog_28_method_56_code 1 = .ok (.invokevirtual 492, 3) := by decide +kernel
theorem d_String_charAt_4 : decode prog_28_method_56_code 4 = .ok (.ifCond .eq 12, 3) := by decide +kernel
theorem d_String_charAt_7 : decode prog_28_method_56_code 7 = .ok (.aload_n 0, 1) := by decide +kernel
theorem d_String_charAt_8 : decode prog_28_method_56_code 8 = .ok (.getfield 9, 3) := by decide +kernel
theorem d_String_charAt_11 : decode prog_28_method_56_code 11 = .ok (.iload_n 1, 1) := by decide +kernel
theorem d_String_charAt_12 : decode prog_28_method_56_code 12 = .ok (.invokestatic 495, 3) := by decide +kernel
theorem d_String_charAt_15 : decode prog_28_method_56_code 15 = .ok (.ireturn, 1) := by decide +kernel
theorem w1603 : Cond.methodLink "java/lang/String" 492 ⟨"java/lang/String", "isLatin1", "()Z"⟩ ∈ aW := aw_of (tb_7 (List.mem_of_getElem? (i := 64) rfl)) rfl
theorem w1604 : Cond.code ⟨"java/lang/String", "isLatin1", "()Z"⟩ prog_28_method_154_code 1 (some FieldType.boolean) ∈ aW := aw_of (tb_7 (List.mem_of_getElem? (i := 67) rfl)) rfl
theorem w1605 : Cond.instanceMethod ⟨"java/lang/String", "isLatin1", "()Z"⟩ ∈ aW := aw_of (tb_7 (List.mem_of_getElem? (i := 65) rfl)) rfl
theorem w1606 : Cond.selects "java/lang/String" ⟨"java/lang/String", "isLatin1", "()Z"⟩ ⟨"java/lang/String", "isLatin1", "()Z"⟩ ∈ aW := aw_of (tb_7 (List.mem_of_getElem? (i := 66) rfl)) rfl
theorem w1607 : Cond.methodLink "java/lang/String" 495 ⟨"java/lang/StringLatin1", "charAt", "([BI)C"⟩ ∈ aW := aw_of (tb_7 (List.mem_of_getElem? (i := 68) rfl)) rfl
theorem w1608 : Cond.initialized "java/lang/StringLatin1" ∈ aW := aw_of (tb_1 (List.mem_of_getElem? (i := 30) rfl)) rfl
theorem w1609 : Cond.code ⟨"java/lang/StringLatin1", "charAt", "([BI)C"⟩ prog_30_method_2_code 2 (some FieldType.char) ∈ aW := aw_of (tb_7 (List.mem_of_getElem? (i := 70) rfl)) rfl
theorem w1610 : Cond.static ⟨"java/lang/StringLatin1", "charAt", "([BI)C"⟩ ∈ aW := aw_of (tb_7 (List.mem_of_getElem? (i := 69) rfl)) rfl
set_option maxHeartbeats 4000000 in
set_option maxRecDepth 100000 in
theorem v_Schar (l : Launch) (D : va_G) (dA : Nat → ClassId) (sz : Nat) (e0 mi : Nat) (kA vA : Nat → Nat) (fm : Nat) (ws : va_W) (i : Nat) (k : Nat) (hi : i < 8) (hk : k < (qsW i).length) : Met l ⟨"java/lang/String", "charAt", "(I)C"⟩ [Cond.code ⟨"java/lang/String", "charAt", "(I)C"⟩ prog_28_method_56_code 2 (some FieldType.char)] { frames := 4, cells := 0, slots := 0, locals := 64 } (pCs D dA e0 mi kA vA fm [.ref (kA i), .int (nI k)] (ws) sz) (va_Qi (fun (r9 : Int32) (u9 : Unit) => r9 = (qsW i).getD k 0) (fun (u9 : Unit) t9 => bW D (va_A (ws) sz) (ws) t9) (va_A (ws) sz)) 0 0 (va_A (ws) sz) := by
  refine mkS (y := ⟨"java/lang/String", "charAt", "(I)C"⟩) (cc := prog_28_method_56_code) (maxL := 2) (av := [.ref (kA i), .int (nI k)]) (ws := ws) (sz := sz) (Qc := fun A => va_Qi (fun (r9 : Int32) (u9 : Unit) => r9 = (qsW i).getD k 0) (fun (u9 : Unit) t9 => bW D A (ws) t9) A) (by decide) (Nat.le_of_ble_eq_true rfl) ?_
  intro A p e s m below meth c ls hsz hZ hT hM hQ hB
  obtain ⟨hx, hb, hr, hml, hown, hin, hlk, hE, hK, hP, hD, hS, hA, hN, hl⟩ := hB
  have hown : s.vm.findClass "java/lang/String" = some m.cls := hown
  have hl : lv_has ls 2 [(0, .ref (kA i)), (1, .int (nI k))] := hl
  obtain ⟨H, hH⟩ : ∃ z, z = s.heap := ⟨_, rfl⟩
  have hP : va_P D vwCl (ws) H := by rw [hH]; exact hP
  have hS : va_S A s.heap H [] := by rw [hH]; exact hS
  rw [← hH]
  have h6 := (qs_all i hi).2.1
  refine lv_aload_n hx hb d_String_charAt_0 rfl (lv_at hl 0 rfl) ?_
  refine jkI (wr := []) (rnVq (As := []) (rest := []) hx hb hml hown hE hK hZ hT hM hQ hS (hN _ _ hS) hP hD (v_Slat l D dA H.size e0 mi kA vA fm ws i (show i < 8 from by omega)) (i := i) hi w1604 w1603 w1605 w1606 w1596 rfl rfl ⟨⟨by decide, by decide⟩, rfl⟩ ⟨(Nat.le_of_ble_eq_true rfl), (Nat.le_of_ble_eq_true rfl)⟩ rfl hl.1 rfl (Nat.le_of_ble_eq_true rfl) d_String_charAt_1 ⟨(Nat.le_of_ble_eq_true rfl), (Nat.le_of_ble_eq_true rfl)⟩) hP hD hS hA (fun r1 u2 H locs hp9 hP hD hS => ?_)
  have hP : va_P D vwCl (ws) H := hP
  have hD : va_D A (ws) := hD
  replace hp9 : 1 = r1 := Eq.symm hp9
  subst hp9
  refine lv_if_eq hx hb d_String_charAt_4 (tgt := 16) rfl (fun h9 => absurd h9 (by decide)) (fun _ => ?_)
  refine lv_aload_n hx hb d_String_charAt_7 rfl (lv_at hl 0 rfl) ?_
  refine vk_getf hx hb (hQ.1.1 i hi).2.2.1 hS hown (hE.t w1594 rfl) (fun _ h => h) d_String_charAt_8 ?_
  refine lv_iload_n hx hb d_String_charAt_11 rfl (lv_at hl 1 rfl) ?_
  refine jkI (wr := []) (rnSs (As := [.ref (vA i), .int (nI k)]) (rest := []) hx hb hml hown hE hK hZ hT hM hQ hS (hN _ _ hS) hP hD (v_SLchar l D dA H.size e0 mi kA vA fm ws i k (show i < 8 from by omega) (show k < (qsW i).length from by omega)) w1609 w1607 w1610 w1608 rfl rfl ⟨⟨by decide, by decide⟩, rfl⟩ ⟨(Nat.le_of_ble_eq_true rfl), (Nat.le_of_ble_eq_true rfl)⟩ rfl hl.1 rfl (Nat.le_of_ble_eq_true rfl) d_String_charAt_12 ⟨(Nat.le_of_ble_eq_true rfl), (Nat.le_of_ble_eq_true rfl)⟩) hP hD hS hA (fun r3 u4 H locs hp9 hP hD hS => ?_)
  have hP : va_P D vwCl (ws) H := hP
  have hD : va_D A (ws) := hD
  replace hp9 : (qsW i).getD k 0 = r3 := Eq.symm hp9
  subst hp9
  exact rfN hx hb hr (qs_at hi hk).2 hlk hS () rfl hP hD (Nat.le_of_ble_eq_true rfl) (Nat.le_of_ble_eq_true rfl) d_String_charAt_15
theorem d_W_spells_0 : decode prog_12_method_6_code 0 = .ok (.aload_n 1, 1) := by decide +kernel
theorem d_W_spells_1 : decode prog_12_method_6_code 1 = .ok (.invokevirtual 27, 3) := by decide +kernel
theorem d_W_spells_4 : decode prog_12_method_6_code 4 = .ok (.aload_n 0, 1) := by decide +kernel
theorem d_W_spells_5 : decode prog_12_method_6_code 5 = .ok (.getfield 15, 3) := by decide +kernel
theorem d_W_spells_8 : decode prog_12_method_6_code 8 = .ok (.arraylength, 1) := by decide +kernel
theorem d_W_spells_9 : decode prog_12_method_6_code 9 = .ok (.if_icmp .eq 5, 3) := by decide +kernel
theorem d_W_spells_14 : decode prog_12_method_6_code 14 = .ok (.iconst 0, 1) := by decide +kernel
theorem d_W_spells_15 : decode prog_12_method_6_code 15 = .ok (.istore_n 2, 1) := by decide +kernel
theorem d_W_spells_16 : decode prog_12_method_6_code 16 = .ok (.iload_n 2, 1) := by decide +kernel
theorem d_W_spells_17 : decode prog_12_method_6_code 17 = .ok (.aload_n 0, 1) := by decide +kernel
theorem d_W_spells_18 : decode prog_12_method_6_code 18 = .ok (.getfield 15, 3) := by decide +kernel
theorem d_W_spells_21 : decode prog_12_method_6_code 21 = .ok (.arraylength, 1) := by decide +kernel
theorem d_W_spells_22 : decode prog_12_method_6_code 22 = .ok (.if_icmp .ge 25, 3) := by decide +kernel
theorem d_W_spells_47 : decode prog_12_method_6_code 47 = .ok (.iconst 1, 1) := by decide +kernel
theorem d_W_spells_48 : decode prog_12_method_6_code 48 = .ok (.ireturn, 1) := by decide +kernel
theorem d_W_spells_25 : decode prog_12_method_6_code 25 = .ok (.aload_n 0, 1) := by decide +kernel
theorem d_W_spells_26 : decode prog_12_method_6_code 26 = .ok (.getfield 15, 3) := by decide +kernel
theorem d_W_spells_29 : decode prog_12_method_6_code 29 = .ok (.iload_n 2, 1) := by decide +kernel
theorem d_W_spells_30 : decode prog_12_method_6_code 30 = .ok (.baload, 1) := by decide +kernel
theorem d_W_spells_31 : decode prog_12_method_6_code 31 = .ok (.aload_n 1, 1) := by decide +kernel
theorem d_W_spells_32 : decode prog_12_method_6_code 32 = .ok (.iload_n 2, 1) := by decide +kernel
theorem d_W_spells_33 : decode prog_12_method_6_code 33 = .ok (.invokevirtual 33, 3) := by decide +kernel
theorem d_W_spells_36 : decode prog_12_method_6_code 36 = .ok (.if_icmp .eq 5, 3) := by decide +kernel
theorem d_W_spells_41 : decode prog_12_method_6_code 41 = .ok (.iinc 2 1, 3) := by decide +kernel
theorem d_W_spells_44 : decode prog_12_method_6_code 44 = .ok (.goto (-28), 3) := by decide +kernel
theorem d_W_spells_39 : decode prog_12_method_6_code 39 = .ok (.iconst 0, 1) := by decide +kernel
theorem d_W_spells_40 : decode prog_12_method_6_code 40 = .ok (.ireturn, 1) := by decide +kernel
theorem d_W_spells_12 : decode prog_12_method_6_code 12 = .ok (.iconst 0, 1) := by decide +kernel
theorem d_W_spells_13 : decode prog_12_method_6_code 13 = .ok (.ireturn, 1) := by decide +kernel
theorem w1611 : Cond.methodLink "SeriesVault$Word" 27 ⟨"java/lang/String", "length", "()I"⟩ ∈ aW := aw_of (tb_7 (List.mem_of_getElem? (i := 59) rfl)) rfl
theorem w1612 : Cond.code ⟨"java/lang/String", "length", "()I"⟩ prog_28_method_54_code 1 (some FieldType.int) ∈ aW := aw_of (tb_4 (List.mem_of_getElem? (i := 115) rfl)) rfl
theorem w1613 : Cond.instanceMethod ⟨"java/lang/String", "length", "()I"⟩ ∈ aW := aw_of (tb_4 (List.mem_of_getElem? (i := 113) rfl)) rfl
theorem w1614 : Cond.selects "java/lang/String" ⟨"java/lang/String", "length", "()I"⟩ ⟨"java/lang/String", "length", "()I"⟩ ∈ aW := aw_of (tb_4 (List.mem_of_getElem? (i := 114) rfl)) rfl
theorem w1615 : Cond.methodLink "SeriesVault$Word" 33 ⟨"java/lang/String", "charAt", "(I)C"⟩ ∈ aW := aw_of (tb_7 (List.mem_of_getElem? (i := 60) rfl)) rfl
theorem w1616 : Cond.code ⟨"java/lang/String", "charAt", "(I)C"⟩ prog_28_method_56_code 2 (some FieldType.char) ∈ aW := aw_of (tb_7 (List.mem_of_getElem? (i := 63) rfl)) rfl
theorem w1617 : Cond.instanceMethod ⟨"java/lang/String", "charAt", "(I)C"⟩ ∈ aW := aw_of (tb_7 (List.mem_of_getElem? (i := 61) rfl)) rfl
theorem w1618 : Cond.selects "java/lang/String" ⟨"java/lang/String", "charAt", "(I)C"⟩ ⟨"java/lang/String", "charAt", "(I)C"⟩ ∈ aW := aw_of (tb_7 (List.mem_of_getElem? (i := 62) rfl)) rfl
set_option maxHeartbeats 4000000 in
set_option maxRecDepth 100000 in
theorem v_Wspells (l : Launch) (D : va_G) (dA : Nat → ClassId) (sz : Nat) (e0 mi : Nat) (kA vA : Nat → Nat) (fm : Nat) (ws : va_W) (wa : Nat) (L : List Int32) (i : Nat) (hwwa : isWo dA ws wa L) (hlwa : L.length ≤ 65536) (hi : i < 8) : Met l ⟨"SeriesVault$Word", "spells", "(Ljava/lang/String;)Z"⟩ [Cond.code ⟨"SeriesVault$Word", "spells", "(Ljava/lang/String;)Z"⟩ prog_12_method_6_code 3 (some FieldType.boolean)] { frames := 5, cells := 0, slots := 0, locals := 85 } (pCs D dA e0 mi kA vA fm [.ref wa, .ref (kA i)] (ws) sz) (va_Qi (fun (r9 : Int32) (u9 : Unit) => r9 = bI (sameW L (qsW i))) (fun (u9 : Unit) t9 => bW D (va_A (ws) sz) (ws) t9) (va_A (ws) sz)) 0 0 (va_A (ws) sz) := by
  refine mkS (y := ⟨"SeriesVault$Word", "spells", "(Ljava/lang/String;)Z"⟩) (cc := prog_12_method_6_code) (maxL := 3) (av := [.ref wa, .ref (kA i)]) (ws := ws) (sz := sz) (Qc := fun A => va_Qi (fun (r9 : Int32) (u9 : Unit) => r9 = bI (sameW L (qsW i))) (fun (u9 : Unit) t9 => bW D A (ws) t9) A) (by decide) (Nat.le_of_ble_eq_true rfl) ?_
  intro A p e s m below meth c ls hsz hZ hT hM hQ hB
  obtain ⟨hx, hb, hr, hml, hown, hin, hlk, hE, hK, hP, hD, hS, hA, hN, hl⟩ := hB
  have hown : s.vm.findClass "SeriesVault$Word" = some m.cls := hown
  have hl : lv_has ls 3 [(0, .ref wa), (1, .ref (kA i))] := hl
  obtain ⟨H, hH⟩ : ∃ z, z = s.heap := ⟨_, rfl⟩
  have hP : va_P D vwCl (ws) H := by rw [hH]; exact hP
  have hS : va_S A s.heap H [] := by rw [hH]; exact hS
  rw [← hH]
  obtain ⟨b_wa, f_wa, m1wa, m2wa, y_wa, hfwa⟩ := hwwa
  have h6 := (qs_all i hi).2.1
  refine lv_aload_n hx hb d_W_spells_0 rfl (lv_at hl 1 rfl) ?_
  refine jkI (wr := []) (rnVq (As := []) (rest := []) hx hb hml hown hE hK hZ hT hM hQ hS (hN _ _ hS) hP hD (v_Slength l D dA H.size e0 mi kA vA fm ws i (show i < 8 from by omega)) (i := i) hi w1612 w1611 w1613 w1614 w1596 rfl rfl ⟨⟨by decide, by decide⟩, rfl⟩ ⟨(Nat.le_of_ble_eq_true rfl), (Nat.le_of_ble_eq_true rfl)⟩ rfl hl.1 rfl (Nat.le_of_ble_eq_true rfl) d_W_spells_1 ⟨(Nat.le_of_ble_eq_true rfl), (Nat.le_of_ble_eq_true rfl)⟩) hP hD hS hA (fun r1 u2 H locs hp9 hP hD hS => ?_)
  have hP : va_P D vwCl (ws) H := hP
  have hD : va_D A (ws) := hD
  replace hp9 : nI (qsW i).length = r1 := Eq.symm hp9
  subst hp9
  refine lv_aload_n hx hb d_W_spells_4 rfl (lv_at hl 0 rfl) ?_
  obtain ⟨qp3, ep4⟩ := List.getElem?_of_mem (show ((wa, .inr (10, [.ref b_wa])) : Nat × va_E) ∈ ws from m1wa)
  refine gF (v := .ref b_wa) hx hb hown hE hK hP qp3 ep4 rfl layW 0 (by decide) w1274 rfl d_W_spells_5 ?_
  obtain ⟨qp5, ep6⟩ := List.getElem?_of_mem (show ((b_wa, .inl (dA 0, L.length, .inl f_wa)) : Nat × va_E) ∈ ws from m2wa)
  refine va_alen (v := nI L.length) hx hb hK hP (qp5) 0 ep6 rfl rfl d_W_spells_8 ?_
  refine lv_icmp_eq hx hb d_W_spells_9 (tgt := 14) rfl (fun g7 => ?_) (fun g7 => ?_)
  · have g7 := (nI_eq (a := (qsW i).length) (b := L.length) (by omega) (by omega)).mp g7
    refine lv_iconst (v := 0) hx hb d_W_spells_14 (by decide) ?_
    refine lv_istore_n hx hb d_W_spells_15 rfl hl (by decide) rfl (fun ls hl => ?_)
    have hl : lv_has ls 3 [(2, .int 0), (0, .ref wa), (1, .ref (kA i))] := hl
    have L16 : ∀ (k9 : Nat) (j : Nat) (i1 : j ≤ L.length) (i2 : allB j (smB L (qsW i)) = true) (hk9 : L.length - j = k9), ∀ (H : Heap) (locs : List Loc) (ls : Array Slot) (hP : va_P D vwCl (ws) H) (hD : va_D A (ws)) (hS : va_S A s.heap H locs) (hl : lv_has ls 3 [(2, .int (nI j)), (0, .ref wa), (1, .ref (kA i))]), W p l e ({ frames := 5, cells := 0, slots := 0, locals := 85 } : Room) s m ([.ref wa, .ref (kA i)] : List Value).toArray below meth c H locs 0 0 (MQ below (va_Qi (fun (r9 : Int32) (u9 : Unit) => r9 = bI (sameW L (qsW i))) (fun (u9 : Unit) t9 => bW D A (ws) t9) A) ([.ref wa, .ref (kA i)] : List Value).toArray s 0 0 A) (F0 m 16 ls []) := by
      intro k9
      induction k9 using Nat.strongRecOn with
      | ind k9 ih16 =>
        intro j i1 i2 hk9 H locs ls hP hD hS hl
        refine lv_iload_n hx hb d_W_spells_16 rfl (lv_at hl 0 rfl) ?_
        refine lv_aload_n hx hb d_W_spells_17 rfl (lv_at hl 1 rfl) ?_
        obtain ⟨qp8, ep9⟩ := List.getElem?_of_mem (show ((wa, .inr (10, [.ref b_wa])) : Nat × va_E) ∈ ws from m1wa)
        refine gF (v := .ref b_wa) hx hb hown hE hK hP qp8 ep9 rfl layW 0 (by decide) w1274 rfl d_W_spells_18 ?_
        obtain ⟨qp10, ep11⟩ := List.getElem?_of_mem (show ((b_wa, .inl (dA 0, L.length, .inl f_wa)) : Nat × va_E) ∈ ws from m2wa)
        refine va_alen (v := nI L.length) hx hb hK hP (qp10) 0 ep11 rfl rfl d_W_spells_21 ?_
        refine lv_icmp_ge hx hb d_W_spells_22 (tgt := 47) rfl (fun g12 => ?_) (fun g12 => ?_)
        · have g12 := (nI_leI (a := L.length) (b := j) (by omega) (by omega)).mp g12
          refine lv_iconst (v := 1) hx hb d_W_spells_47 (by decide) ?_
          exact rfZ hx hb hr (bI_nar true) hlk hS () (by unfold sameW; rw [decide_eq_true (by omega), Bool.true_and, ← show j = L.length by omega, i2]; rfl) hP hD (Nat.le_of_ble_eq_true rfl) (Nat.le_of_ble_eq_true rfl) d_W_spells_48
        · have g12 := mt (nI_leI (a := L.length) (b := j) (by omega) (by omega)).mpr g12
          refine lv_aload_n hx hb d_W_spells_25 rfl (lv_at hl 1 rfl) ?_
          obtain ⟨qp13, ep14⟩ := List.getElem?_of_mem (show ((wa, .inr (10, [.ref b_wa])) : Nat × va_E) ∈ ws from m1wa)
          refine gF (v := .ref b_wa) hx hb hown hE hK hP qp13 ep14 rfl layW 0 (by decide) w1274 rfl d_W_spells_26 ?_
          refine lv_iload_n hx hb d_W_spells_29 rfl (lv_at hl 0 rfl) ?_
          obtain ⟨qp15, ep16⟩ := List.getElem?_of_mem (show ((b_wa, .inl (dA 0, L.length, .inl f_wa)) : Nat × va_E) ∈ ws from m2wa)
          refine nbld (f := f_wa) (n := L.length) hx hb hK hP (qp15) 0 ep16 rfl (j) (by omega) (by omega) d_W_spells_30 ?_
          refine tpi (y := (L.getD j 0)) (hfwa j (by omega)) ?_
          refine lv_aload_n hx hb d_W_spells_31 rfl (lv_at hl 2 rfl) ?_
          refine lv_iload_n hx hb d_W_spells_32 rfl (lv_at hl 0 rfl) ?_
          refine jkI (wr := []) (rnVq (As := [.int (nI j)]) (rest := [.int (L.getD j 0)]) hx hb hml hown hE hK hZ hT hM hQ hS (hN _ _ hS) hP hD (v_Schar l D dA H.size e0 mi kA vA fm ws i j (show i < 8 from by omega) (show j < (qsW i).length from by omega)) (i := i) hi w1616 w1615 w1617 w1618 w1596 rfl rfl ⟨⟨by decide, by decide⟩, rfl⟩ ⟨(Nat.le_of_ble_eq_true rfl), (Nat.le_of_ble_eq_true rfl)⟩ rfl hl.1 rfl (Nat.le_of_ble_eq_true rfl) d_W_spells_33 ⟨(Nat.le_of_ble_eq_true rfl), (Nat.le_of_ble_eq_true rfl)⟩) hP hD hS hA (fun r17 u18 H locs hp9 hP hD hS => ?_)
          have hP : va_P D vwCl (ws) H := hP
          have hD : va_D A (ws) := hD
          replace hp9 : (qsW i).getD j 0 = r17 := Eq.symm hp9
          subst hp9
          refine lv_icmp_eq hx hb d_W_spells_36 (tgt := 41) rfl (fun g19 => ?_) (fun g19 => ?_)
          · have g19 := g19
            refine lv_iinc (k := 0) (v := nI (j + 1)) hx hb d_W_spells_41 hl rfl (iincN (j) 1 1 (by decide)) (by decide) rfl (fun ls hl => ?_)
            have hl : lv_has ls 3 [(2, .int (nI (j + 1))), (0, .ref wa), (1, .ref (kA i))] := hl
            refine lv_goto hx hb d_W_spells_44 (tgt := 16) rfl ?_
            exact ih16 _ (by omega) (j + 1) (by omega) (by rw [allB_s, i2, Bool.true_and]; exact decide_eq_true g19) rfl H _ ls hP hD hS (lv_sub hl [0, 1, 2] rfl)
          · have g19 := g19
            refine lv_iconst (v := 0) hx hb d_W_spells_39 (by decide) ?_
            exact rfZ hx hb hr (bI_nar false) hlk hS () (by unfold sameW; rw [allB_1 (f := smB L (qsW i)) (k := j) (n := L.length) (by omega) (decide_eq_false g19), Bool.and_false]; rfl) hP hD (Nat.le_of_ble_eq_true rfl) (Nat.le_of_ble_eq_true rfl) d_W_spells_40
    exact L16 _ 0 (Nat.zero_le _) rfl rfl H _ ls hP hD hS (lv_sub hl [0, 1, 2] rfl)
  · have g7 := mt (nI_eq (a := (qsW i).length) (b := L.length) (by omega) (by omega)).mpr g7
    refine lv_iconst (v := 0) hx hb d_W_spells_12 (by decide) ?_
    exact rfZ hx hb hr (bI_nar false) hlk hS () (by unfold sameW; rw [decide_eq_false (fun e9 => g7 e9.symm)]; rfl) hP hD (Nat.le_of_ble_eq_true rfl) (Nat.le_of_ble_eq_true rfl) d_W_spells_13
/-- the number of the function of this name, or -1 -/
def fnV (L : List Int32) : Int32 := if sameW L (qsW 0) = true then 0 else if sameW L (qsW 1) = true then 1 else if sameW L (qsW 2) = true then 2 else if sameW L (qsW 3) = true then 3 else if sameW L (qsW 4) = true then 4 else if sameW L (qsW 5) = true then 5 else if sameW L (qsW 6) = true then 6 else -1
theorem d_Q_funcOf_0 : decode prog_6_method_11_code 0 = .ok (.aload_n 0, 1) := by decide +kernel
theorem d_Q_funcOf_1 : decode prog_6_method_11_code 1 = .ok (.ldc 110, 2) := by decide +kernel
theorem d_Q_funcOf_3 : decode prog_6_method_11_code 3 = .ok (.invokevirtual 97, 3) := by decide +kernel
theorem d_Q_funcOf_6 : decode prog_6_method_11_code 6 = .ok (.ifCond .eq 5, 3) := by decide +kernel
theorem d_Q_funcOf_11 : decode prog_6_method_11_code 11 = .ok (.aload_n 0, 1) := by decide +kernel
theorem d_Q_funcOf_12 : decode prog_6_method_11_code 12 = .ok (.ldc 112, 2) := by decide +kernel
theorem d_Q_funcOf_14 : decode prog_6_method_11_code 14 = .ok (.invokevirtual 97, 3) := by decide +kernel
theorem d_Q_funcOf_17 : decode prog_6_method_11_code 17 = .ok (.ifCond .eq 5, 3) := by decide +kernel
theorem d_Q_funcOf_22 : decode prog_6_method_11_code 22 = .ok (.aload_n 0, 1) := by decide +kernel
theorem d_Q_funcOf_23 : decode prog_6_method_11_code 23 = .ok (.ldc 114, 2) := by decide +kernel
theorem d_Q_funcOf_25 : decode prog_6_method_11_code 25 = .ok (.invokevirtual 97, 3) := by decide +kernel
theorem d_Q_funcOf_28 : decode prog_6_method_11_code 28 = .ok (.ifCond .eq 5, 3) := by decide +kernel
theorem d_Q_funcOf_33 : decode prog_6_method_11_code 33 = .ok (.aload_n 0, 1) := by decide +kernel
theorem d_Q_funcOf_34 : decode prog_6_method_11_code 34 = .ok (.ldc 116, 2) := by decide +kernel
theorem d_Q_funcOf_36 : decode prog_6_method_11_code 36 = .ok (.invokevirtual 97, 3) := by decide +kernel
theorem d_Q_funcOf_39 : decode prog_6_method_11_code 39 = .ok (.ifCond .eq 5, 3) := by decide +kernel
theorem d_Q_funcOf_44 : decode prog_6_method_11_code 44 = .ok (.aload_n 0, 1) := by decide +kernel
theorem d_Q_funcOf_45 : decode prog_6_method_11_code 45 = .ok (.ldc 118, 2) := by decide +kernel
theorem d_Q_funcOf_47 : decode prog_6_method_11_code 47 = .ok (.invokevirtual 97, 3) := by decide +kernel
theorem d_Q_funcOf_50 : decode prog_6_method_11_code 50 = .ok (.ifCond .eq 5, 3) := by decide +kernel
theorem d_Q_funcOf_55 : decode prog_6_method_11_code 55 = .ok (.aload_n 0, 1) := by decide +kernel
theorem d_Q_funcOf_56 : decode prog_6_method_11_code 56 = .ok (.ldc 120, 2) := by decide +kernel
theorem d_Q_funcOf_58 : decode prog_6_method_11_code 58 = .ok (.invokevirtual 97, 3) := by decide +kernel
theorem d_Q_funcOf_61 : decode prog_6_method_11_code 61 = .ok (.ifCond .eq 5, 3) := by decide +kernel
theorem d_Q_funcOf_66 : decode prog_6_method_11_code 66 = .ok (.aload_n 0, 1) := by decide +kernel
theorem d_Q_funcOf_67 : decode prog_6_method_11_code 67 = .ok (.ldc 122, 2) := by decide +kernel
theorem d_Q_funcOf_69 : decode prog_6_method_11_code 69 = .ok (.invokevirtual 97, 3) := by decide +kernel
theorem d_Q_funcOf_72 : decode prog_6_method_11_code 72 = .ok (.ifCond .eq 8, 3) := by decide +kernel
theorem d_Q_funcOf_80 : decode prog_6_method_11_code 80 = .ok (.iconst (-1), 1) := by decide +kernel
theorem d_Q_funcOf_81 : decode prog_6_method_11_code 81 = .ok (.ireturn, 1) := by decide +kernel
theorem d_Q_funcOf_75 : decode prog_6_method_11_code 75 = .ok (.bipush 6, 2) := by decide +kernel
theorem d_Q_funcOf_77 : decode prog_6_method_11_code 77 = .ok (.goto 4, 3) := by decide +kernel
theorem d_Q_funcOf_64 : decode prog_6_method_11_code 64 = .ok (.iconst 5, 1) := by decide +kernel
theorem d_Q_funcOf_65 : decode prog_6_method_11_code 65 = .ok (.ireturn, 1) := by decide +kernel
theorem d_Q_funcOf_53 : decode prog_6_method_11_code 53 = .ok (.iconst 4, 1) := by decide +kernel
theorem d_Q_funcOf_54 : decode prog_6_method_11_code 54 = .ok (.ireturn, 1) := by decide +kernel
theorem d_Q_funcOf_42 : decode prog_6_method_11_code 42 = .ok (.iconst 3, 1) := by decide +kernel
theorem d_Q_funcOf_43 : decode prog_6_method_11_code 43 = .ok (.ireturn, 1) := by decide +kernel
theorem d_Q_funcOf_31 : decode prog_6_method_11_code 31 = .ok (.iconst 2, 1) := by decide +kernel
theorem d_Q_funcOf_32 : decode prog_6_method_11_code 32 = .ok (.ireturn, 1) := by decide +kernel
theorem d_Q_funcOf_20 : decode prog_6_method_11_code 20 = .ok (.iconst 1, 1) := by decide +kernel
theorem d_Q_funcOf_21 : decode prog_6_method_11_code 21 = .ok (.ireturn, 1) := by decide +kernel
theorem d_Q_funcOf_9 : decode prog_6_method_11_code 9 = .ok (.iconst 0, 1) := by decide +kernel
theorem d_Q_funcOf_10 : decode prog_6_method_11_code 10 = .ok (.ireturn, 1) := by decide +kernel
theorem w1619 : Cond.methodLink "SeriesVault$Question" 97 ⟨"SeriesVault$Word", "spells", "(Ljava/lang/String;)Z"⟩ ∈ aW := aw_of (tb_7 (List.mem_of_getElem? (i := 55) rfl)) rfl
theorem w1620 : Cond.code ⟨"SeriesVault$Word", "spells", "(Ljava/lang/String;)Z"⟩ prog_12_method_6_code 3 (some FieldType.boolean) ∈ aW := aw_of (tb_7 (List.mem_of_getElem? (i := 58) rfl)) rfl
theorem w1621 : Cond.instanceMethod ⟨"SeriesVault$Word", "spells", "(Ljava/lang/String;)Z"⟩ ∈ aW := aw_of (tb_7 (List.mem_of_getElem? (i := 56) rfl)) rfl
theorem w1622 : Cond.selects "SeriesVault$Word" ⟨"SeriesVault$Word", "spells", "(Ljava/lang/String;)Z"⟩ ⟨"SeriesVault$Word", "spells", "(Ljava/lang/String;)Z"⟩ ∈ aW := aw_of (tb_7 (List.mem_of_getElem? (i := 57) rfl)) rfl
set_option maxHeartbeats 4000000 in
set_option maxRecDepth 100000 in
theorem v_QfuncOf (l : Launch) (D : va_G) (dA : Nat → ClassId) (sz : Nat) (e0 mi : Nat) (kA vA : Nat → Nat) (fm : Nat) (ws : va_W) (wa : Nat) (L : List Int32) (hwwa : isWo dA ws wa L) (hlwa : L.length ≤ 65536) : Met l ⟨"SeriesVault$Question", "funcOf", "(LSeriesVault$Word;)I"⟩ [Cond.code ⟨"SeriesVault$Question", "funcOf", "(LSeriesVault$Word;)I"⟩ prog_6_method_11_code 1 (some FieldType.int)] { frames := 6, cells := 0, slots := 0, locals := 107 } (pCs D dA e0 mi kA vA fm [.ref wa] (ws) sz) (va_Qi (fun (r9 : Int32) (u9 : Unit) => r9 = fnV L) (fun (u9 : Unit) t9 => bW D (va_A (ws) sz) (ws) t9) (va_A (ws) sz)) 0 0 (va_A (ws) sz) := by
  refine mkS (y := ⟨"SeriesVault$Question", "funcOf", "(LSeriesVault$Word;)I"⟩) (cc := prog_6_method_11_code) (maxL := 1) (av := [.ref wa]) (ws := ws) (sz := sz) (Qc := fun A => va_Qi (fun (r9 : Int32) (u9 : Unit) => r9 = fnV L) (fun (u9 : Unit) t9 => bW D A (ws) t9) A) (by decide) (Nat.le_of_ble_eq_true rfl) ?_
  intro A p e s m below meth c ls hsz hZ hT hM hQ hB
  obtain ⟨hx, hb, hr, hml, hown, hin, hlk, hE, hK, hP, hD, hS, hA, hN, hl⟩ := hB
  have hown : s.vm.findClass "SeriesVault$Question" = some m.cls := hown
  have hl : lv_has ls 1 [(0, .ref wa)] := hl
  obtain ⟨H, hH⟩ : ∃ z, z = s.heap := ⟨_, rfl⟩
  have hP : va_P D vwCl (ws) H := by rw [hH]; exact hP
  have hS : va_S A s.heap H [] := by rw [hH]; exact hS
  rw [← hH]
  have hwc := hwwa
  obtain ⟨b_wa, f_wa, m1wa, -⟩ := hwc
  refine lv_aload_n hx hb d_Q_funcOf_0 rfl (lv_at hl 0 rfl) ?_
  refine va_ldcS hx hb hown (show vk_R "SeriesVault$Question" 110 "sum" (kA 0) s from hQ.2.2.2 0 (by decide)) d_Q_funcOf_1 ?_
  obtain ⟨qp1, ep2⟩ := List.getElem?_of_mem (show ((wa, .inr (10, [.ref b_wa])) : Nat × va_E) ∈ ws from m1wa)
  refine jkI (wr := []) (rnVs (As := [.ref (kA 0)]) (rest := []) hx hb hml hown hE hK hZ hT hM hQ hS (hN _ _ hS) hP hD (v_Wspells l D dA H.size e0 mi kA vA fm ws wa L 0 hwwa hlwa (by decide)) (q0 := qp1) ep2 rfl w1620 w1619 w1621 w1622 w1281 rfl rfl ⟨⟨by decide, by decide⟩, rfl⟩ ⟨(Nat.le_of_ble_eq_true rfl), (Nat.le_of_ble_eq_true rfl)⟩ rfl hl.1 rfl (Nat.le_of_ble_eq_true rfl) d_Q_funcOf_3 ⟨(Nat.le_of_ble_eq_true rfl), (Nat.le_of_ble_eq_true rfl)⟩) hP hD hS hA (fun r3 u4 H locs hp9 hP hD hS => ?_)
  have hP : va_P D vwCl (ws) H := hP
  have hD : va_D A (ws) := hD
  replace hp9 : bI (sameW L (qsW 0)) = r3 := Eq.symm hp9
  subst hp9
  refine lv_if_eq hx hb d_Q_funcOf_6 (tgt := 11) rfl (fun g5 => ?_) (fun g5 => ?_)
  · have g5 := bI_0 g5
    refine lv_aload_n hx hb d_Q_funcOf_11 rfl (lv_at hl 0 rfl) ?_
    refine va_ldcS hx hb hown (show vk_R "SeriesVault$Question" 112 "count" (kA 1) s from hQ.2.2.2 1 (by decide)) d_Q_funcOf_12 ?_
    obtain ⟨qp6, ep7⟩ := List.getElem?_of_mem (show ((wa, .inr (10, [.ref b_wa])) : Nat × va_E) ∈ ws from m1wa)
    refine jkI (wr := []) (rnVs (As := [.ref (kA 1)]) (rest := []) hx hb hml hown hE hK hZ hT hM hQ hS (hN _ _ hS) hP hD (v_Wspells l D dA H.size e0 mi kA vA fm ws wa L 1 hwwa hlwa (by decide)) (q0 := qp6) ep7 rfl w1620 w1619 w1621 w1622 w1281 rfl rfl ⟨⟨by decide, by decide⟩, rfl⟩ ⟨(Nat.le_of_ble_eq_true rfl), (Nat.le_of_ble_eq_true rfl)⟩ rfl hl.1 rfl (Nat.le_of_ble_eq_true rfl) d_Q_funcOf_14 ⟨(Nat.le_of_ble_eq_true rfl), (Nat.le_of_ble_eq_true rfl)⟩) hP hD hS hA (fun r8 u9 H locs hp9 hP hD hS => ?_)
    have hP : va_P D vwCl (ws) H := hP
    have hD : va_D A (ws) := hD
    replace hp9 : bI (sameW L (qsW 1)) = r8 := Eq.symm hp9
    subst hp9
    refine lv_if_eq hx hb d_Q_funcOf_17 (tgt := 22) rfl (fun g10 => ?_) (fun g10 => ?_)
    · have g10 := bI_0 g10
      refine lv_aload_n hx hb d_Q_funcOf_22 rfl (lv_at hl 0 rfl) ?_
      refine va_ldcS hx hb hown (show vk_R "SeriesVault$Question" 114 "least" (kA 2) s from hQ.2.2.2 2 (by decide)) d_Q_funcOf_23 ?_
      obtain ⟨qp11, ep12⟩ := List.getElem?_of_mem (show ((wa, .inr (10, [.ref b_wa])) : Nat × va_E) ∈ ws from m1wa)
      refine jkI (wr := []) (rnVs (As := [.ref (kA 2)]) (rest := []) hx hb hml hown hE hK hZ hT hM hQ hS (hN _ _ hS) hP hD (v_Wspells l D dA H.size e0 mi kA vA fm ws wa L 2 hwwa hlwa (by decide)) (q0 := qp11) ep12 rfl w1620 w1619 w1621 w1622 w1281 rfl rfl ⟨⟨by decide, by decide⟩, rfl⟩ ⟨(Nat.le_of_ble_eq_true rfl), (Nat.le_of_ble_eq_true rfl)⟩ rfl hl.1 rfl (Nat.le_of_ble_eq_true rfl) d_Q_funcOf_25 ⟨(Nat.le_of_ble_eq_true rfl), (Nat.le_of_ble_eq_true rfl)⟩) hP hD hS hA (fun r13 u14 H locs hp9 hP hD hS => ?_)
      have hP : va_P D vwCl (ws) H := hP
      have hD : va_D A (ws) := hD
      replace hp9 : bI (sameW L (qsW 2)) = r13 := Eq.symm hp9
      subst hp9
      refine lv_if_eq hx hb d_Q_funcOf_28 (tgt := 33) rfl (fun g15 => ?_) (fun g15 => ?_)
      · have g15 := bI_0 g15
        refine lv_aload_n hx hb d_Q_funcOf_33 rfl (lv_at hl 0 rfl) ?_
        refine va_ldcS hx hb hown (show vk_R "SeriesVault$Question" 116 "most" (kA 3) s from hQ.2.2.2 3 (by decide)) d_Q_funcOf_34 ?_
        obtain ⟨qp16, ep17⟩ := List.getElem?_of_mem (show ((wa, .inr (10, [.ref b_wa])) : Nat × va_E) ∈ ws from m1wa)
        refine jkI (wr := []) (rnVs (As := [.ref (kA 3)]) (rest := []) hx hb hml hown hE hK hZ hT hM hQ hS (hN _ _ hS) hP hD (v_Wspells l D dA H.size e0 mi kA vA fm ws wa L 3 hwwa hlwa (by decide)) (q0 := qp16) ep17 rfl w1620 w1619 w1621 w1622 w1281 rfl rfl ⟨⟨by decide, by decide⟩, rfl⟩ ⟨(Nat.le_of_ble_eq_true rfl), (Nat.le_of_ble_eq_true rfl)⟩ rfl hl.1 rfl (Nat.le_of_ble_eq_true rfl) d_Q_funcOf_36 ⟨(Nat.le_of_ble_eq_true rfl), (Nat.le_of_ble_eq_true rfl)⟩) hP hD hS hA (fun r18 u19 H locs hp9 hP hD hS => ?_)
        have hP : va_P D vwCl (ws) H := hP
        have hD : va_D A (ws) := hD
        replace hp9 : bI (sameW L (qsW 3)) = r18 := Eq.symm hp9
        subst hp9
        refine lv_if_eq hx hb d_Q_funcOf_39 (tgt := 44) rfl (fun g20 => ?_) (fun g20 => ?_)
        · have g20 := bI_0 g20
          refine lv_aload_n hx hb d_Q_funcOf_44 rfl (lv_at hl 0 rfl) ?_
          refine va_ldcS hx hb hown (show vk_R "SeriesVault$Question" 118 "first" (kA 4) s from hQ.2.2.2 4 (by decide)) d_Q_funcOf_45 ?_
          obtain ⟨qp21, ep22⟩ := List.getElem?_of_mem (show ((wa, .inr (10, [.ref b_wa])) : Nat × va_E) ∈ ws from m1wa)
          refine jkI (wr := []) (rnVs (As := [.ref (kA 4)]) (rest := []) hx hb hml hown hE hK hZ hT hM hQ hS (hN _ _ hS) hP hD (v_Wspells l D dA H.size e0 mi kA vA fm ws wa L 4 hwwa hlwa (by decide)) (q0 := qp21) ep22 rfl w1620 w1619 w1621 w1622 w1281 rfl rfl ⟨⟨by decide, by decide⟩, rfl⟩ ⟨(Nat.le_of_ble_eq_true rfl), (Nat.le_of_ble_eq_true rfl)⟩ rfl hl.1 rfl (Nat.le_of_ble_eq_true rfl) d_Q_funcOf_47 ⟨(Nat.le_of_ble_eq_true rfl), (Nat.le_of_ble_eq_true rfl)⟩) hP hD hS hA (fun r23 u24 H locs hp9 hP hD hS => ?_)
          have hP : va_P D vwCl (ws) H := hP
          have hD : va_D A (ws) := hD
          replace hp9 : bI (sameW L (qsW 4)) = r23 := Eq.symm hp9
          subst hp9
          refine lv_if_eq hx hb d_Q_funcOf_50 (tgt := 55) rfl (fun g25 => ?_) (fun g25 => ?_)
          · have g25 := bI_0 g25
            refine lv_aload_n hx hb d_Q_funcOf_55 rfl (lv_at hl 0 rfl) ?_
            refine va_ldcS hx hb hown (show vk_R "SeriesVault$Question" 120 "latest" (kA 5) s from hQ.2.2.2 5 (by decide)) d_Q_funcOf_56 ?_
            obtain ⟨qp26, ep27⟩ := List.getElem?_of_mem (show ((wa, .inr (10, [.ref b_wa])) : Nat × va_E) ∈ ws from m1wa)
            refine jkI (wr := []) (rnVs (As := [.ref (kA 5)]) (rest := []) hx hb hml hown hE hK hZ hT hM hQ hS (hN _ _ hS) hP hD (v_Wspells l D dA H.size e0 mi kA vA fm ws wa L 5 hwwa hlwa (by decide)) (q0 := qp26) ep27 rfl w1620 w1619 w1621 w1622 w1281 rfl rfl ⟨⟨by decide, by decide⟩, rfl⟩ ⟨(Nat.le_of_ble_eq_true rfl), (Nat.le_of_ble_eq_true rfl)⟩ rfl hl.1 rfl (Nat.le_of_ble_eq_true rfl) d_Q_funcOf_58 ⟨(Nat.le_of_ble_eq_true rfl), (Nat.le_of_ble_eq_true rfl)⟩) hP hD hS hA (fun r28 u29 H locs hp9 hP hD hS => ?_)
            have hP : va_P D vwCl (ws) H := hP
            have hD : va_D A (ws) := hD
            replace hp9 : bI (sameW L (qsW 5)) = r28 := Eq.symm hp9
            subst hp9
            refine lv_if_eq hx hb d_Q_funcOf_61 (tgt := 66) rfl (fun g30 => ?_) (fun g30 => ?_)
            · have g30 := bI_0 g30
              refine lv_aload_n hx hb d_Q_funcOf_66 rfl (lv_at hl 0 rfl) ?_
              refine va_ldcS hx hb hown (show vk_R "SeriesVault$Question" 122 "growth" (kA 6) s from hQ.2.2.2 6 (by decide)) d_Q_funcOf_67 ?_
              obtain ⟨qp31, ep32⟩ := List.getElem?_of_mem (show ((wa, .inr (10, [.ref b_wa])) : Nat × va_E) ∈ ws from m1wa)
              refine jkI (wr := []) (rnVs (As := [.ref (kA 6)]) (rest := []) hx hb hml hown hE hK hZ hT hM hQ hS (hN _ _ hS) hP hD (v_Wspells l D dA H.size e0 mi kA vA fm ws wa L 6 hwwa hlwa (by decide)) (q0 := qp31) ep32 rfl w1620 w1619 w1621 w1622 w1281 rfl rfl ⟨⟨by decide, by decide⟩, rfl⟩ ⟨(Nat.le_of_ble_eq_true rfl), (Nat.le_of_ble_eq_true rfl)⟩ rfl hl.1 rfl (Nat.le_of_ble_eq_true rfl) d_Q_funcOf_69 ⟨(Nat.le_of_ble_eq_true rfl), (Nat.le_of_ble_eq_true rfl)⟩) hP hD hS hA (fun r33 u34 H locs hp9 hP hD hS => ?_)
              have hP : va_P D vwCl (ws) H := hP
              have hD : va_D A (ws) := hD
              replace hp9 : bI (sameW L (qsW 6)) = r33 := Eq.symm hp9
              subst hp9
              refine lv_if_eq hx hb d_Q_funcOf_72 (tgt := 80) rfl (fun g35 => ?_) (fun g35 => ?_)
              · have g35 := bI_0 g35
                refine lv_iconst (v := (-1)) hx hb d_Q_funcOf_80 (by decide) ?_
                exact rfI hx hb hr hlk hS () (by unfold fnV; rw [if_neg (by rw [g5]; decide), if_neg (by rw [g10]; decide), if_neg (by rw [g15]; decide), if_neg (by rw [g20]; decide), if_neg (by rw [g25]; decide), if_neg (by rw [g30]; decide), if_neg (by rw [g35]; decide)]) hP hD (Nat.le_of_ble_eq_true rfl) (Nat.le_of_ble_eq_true rfl) d_Q_funcOf_81
              · have g35 := bI_n0 g35
                refine lv_bipush (v := 6) hx hb d_Q_funcOf_75 (by decide) ?_
                refine lv_goto hx hb d_Q_funcOf_77 (tgt := 81) rfl ?_
                exact rfI hx hb hr hlk hS () (by unfold fnV; rw [if_neg (by rw [g5]; decide), if_neg (by rw [g10]; decide), if_neg (by rw [g15]; decide), if_neg (by rw [g20]; decide), if_neg (by rw [g25]; decide), if_neg (by rw [g30]; decide), if_pos g35]) hP hD (Nat.le_of_ble_eq_true rfl) (Nat.le_of_ble_eq_true rfl) d_Q_funcOf_81
            · have g30 := bI_n0 g30
              refine lv_iconst (v := 5) hx hb d_Q_funcOf_64 (by decide) ?_
              exact rfI hx hb hr hlk hS () (by unfold fnV; rw [if_neg (by rw [g5]; decide), if_neg (by rw [g10]; decide), if_neg (by rw [g15]; decide), if_neg (by rw [g20]; decide), if_neg (by rw [g25]; decide), if_pos g30]) hP hD (Nat.le_of_ble_eq_true rfl) (Nat.le_of_ble_eq_true rfl) d_Q_funcOf_65
          · have g25 := bI_n0 g25
            refine lv_iconst (v := 4) hx hb d_Q_funcOf_53 (by decide) ?_
            exact rfI hx hb hr hlk hS () (by unfold fnV; rw [if_neg (by rw [g5]; decide), if_neg (by rw [g10]; decide), if_neg (by rw [g15]; decide), if_neg (by rw [g20]; decide), if_pos g25]) hP hD (Nat.le_of_ble_eq_true rfl) (Nat.le_of_ble_eq_true rfl) d_Q_funcOf_54
        · have g20 := bI_n0 g20
          refine lv_iconst (v := 3) hx hb d_Q_funcOf_42 (by decide) ?_
          exact rfI hx hb hr hlk hS () (by unfold fnV; rw [if_neg (by rw [g5]; decide), if_neg (by rw [g10]; decide), if_neg (by rw [g15]; decide), if_pos g20]) hP hD (Nat.le_of_ble_eq_true rfl) (Nat.le_of_ble_eq_true rfl) d_Q_funcOf_43
      · have g15 := bI_n0 g15
        refine lv_iconst (v := 2) hx hb d_Q_funcOf_31 (by decide) ?_
        exact rfI hx hb hr hlk hS () (by unfold fnV; rw [if_neg (by rw [g5]; decide), if_neg (by rw [g10]; decide), if_pos g15]) hP hD (Nat.le_of_ble_eq_true rfl) (Nat.le_of_ble_eq_true rfl) d_Q_funcOf_32
    · have g10 := bI_n0 g10
      refine lv_iconst (v := 1) hx hb d_Q_funcOf_20 (by decide) ?_
      exact rfI hx hb hr hlk hS () (by unfold fnV; rw [if_neg (by rw [g5]; decide), if_pos g10]) hP hD (Nat.le_of_ble_eq_true rfl) (Nat.le_of_ble_eq_true rfl) d_Q_funcOf_21
  · have g5 := bI_n0 g5
    refine lv_iconst (v := 0) hx hb d_Q_funcOf_9 (by decide) ?_
    exact rfI hx hb hr hlk hS () (by unfold fnV; rw [if_pos g5]) hP hD (Nat.le_of_ble_eq_true rfl) (Nat.le_of_ble_eq_true rfl) d_Q_funcOf_10
end
section
/-! A contract for more room, another world in other order, a weaker end. -/
theorem Met_mono {l : Launch} {y : MethodName} {ws : List Cond} {rm rm' : Room} {Pc Pc' : Array Value → State → Prop} {Qc Qc' : Array Value → State → Outcome → State → Prop} {mc ms mc' ms' : Nat} {free free' : Addr → Prop} (h : Met l y ws rm Pc Qc mc ms free) (h1 : rm.frames ≤ rm'.frames) (h2 : rm.cells ≤ rm'.cells) (h3 : rm.slots ≤ rm'.slots) (h4 : rm.locals ≤ rm'.locals) (h5 : mc ≤ mc') (h6 : ms ≤ ms') (hP : ∀ a s, Pc' a s → Pc a s) (hQ : ∀ a st o t, Qc a st o t → Qc' a st o t) (hf : ∀ q, free q → free' q) : Met l y ws rm' Pc' Qc' mc' ms' free' := by
  intro p e ha hc hk s m args below hs hap hpre hK
  have hap2 : (headSpec ws rm).appliesLoose y e.platform s = true := by
    rw [Spec.appliesLoose_iff hs] at hap ⊢
    obtain ⟨b1, b2, b3, b4, b5, b6, b7, b8⟩ := hap
    refine ⟨b1, b2, b3, b4, b5, b6, ?_, b8⟩
    have b7 : s.hasRoom e.platform rm' = true := b7
    show s.hasRoom e.platform rm = true
    simp only [State.hasRoom, Bool.and_eq_true, decide_eq_true_eq] at b7 ⊢
    obtain ⟨⟨⟨⟨c1, c2, c3, c4, c5, c6⟩, c7⟩, c8⟩, c9⟩ := b7
    exact ⟨⟨⟨⟨by omega, by omega, by omega, by omega, by omega, c6⟩, by omega⟩, by omega⟩, c9⟩
  obtain ⟨n, o, a1, a2, a3, a4, L, a5, a6⟩ := h p e ha hc hk s m args below hs hap2 (hP _ _ hpre) trivial
  exact ⟨n, o, a1, a2, a3, hQ _ _ _ _ a4, L, ⟨a5.1, a5.2.1, a5.2.2.mono h5 h6⟩, fun q hq => hf _ (a6 q hq)⟩
/-! A list that may still have the shared empty array. -/
def LqA (dA : Nat → ClassId) (g : LI) : va_W := if g.eN = 0 then [] else [(g.eA, .inl (dA 7, g.eN, .inr (.inr (.inr (.inr g.el)))))]
def LqW (dA : Nat → ClassId) (a : Nat) (g : LI) : va_W := [(a, .inr (6, [.ref g.eA, .int (nI g.sz), .int g.mc]))] ++ LqA dA g
theorem LqW_0 {dA : Nat → ClassId} {a : Nat} {g : LI} (h : g.eN = 0) : LqW dA a g = [(a, .inr (6, [.ref g.eA, .int (nI g.sz), .int g.mc]))] := by
  unfold LqW LqA
  rw [if_pos h]
  rfl
theorem LqW_1 {dA : Nat → ClassId} {a : Nat} {g : LI} (h : ¬ g.eN = 0) : LqW dA a g = LiW dA (fun _ => a) g := by
  unfold LqW LqA
  rw [if_neg h]
  rfl
/-- empty with the shared array, or with one of its own -/
def lqOk (e0 : Nat) (g : LI) : Prop := (g.eN = 0 → g.eA = e0 ∧ g.sz = 0) ∧ g.sz ≤ g.eN ∧ g.eN ≤ 65536
def grN (c : Nat) : Nat := if c = 0 then 10 else c + max 1 (c / 2)
/-- the room behind one more, what it costs -/
def gqN (g : LI) : Nat := if g.sz < g.eN then g.eN else grN g.eN
def gqS (g : LI) : Nat := if g.sz < g.eN then 0 else grN g.eN
theorem gq_S (g : LI) : gqS g ≤ 4 * (gqN g - g.eN) ∧ g.eN ≤ gqN g := by
  unfold gqS gqN grN
  repeat' split
  all_goals omega
def adQ (g : LI) (v : Nat) (g' : LI) : Prop := g'.sz = g.sz + 1 ∧ g'.eN = gqN g ∧ (∀ q, q < g.sz → g'.el q = g.el q) ∧ g'.el g.sz = some v ∧ (∀ q y, q < g'.eN → g'.el q = some y → y = v ∨ ∃ j, j < g.eN ∧ g.el j = some y) ∧ ¬ g'.eN = 0
theorem ad_0 {g : LI} {v b : Nat} {mc : Int32} (h : g.eN = 0) (h2 : g.sz = 0) : adQ g v (LI.s_el (LI.s_eN (LI.s_eA (LI.s_mc (LI.s_sz g 1) mc) b) 10) (va_up (fun _ => none) 0 (some v))) := by
  refine ⟨by show 1 = g.sz + 1; omega, ?_, fun q hq => by omega, ?_, ?_, show ¬ (10 : Nat) = 0 by decide⟩
  · show 10 = gqN g
    unfold gqN grN
    rw [if_neg (by omega), if_pos h]
  · show va_up (fun _ => none) 0 (some v) g.sz = some v
    rw [h2]
    exact if_pos rfl
  · intro q y hq e
    have e : (if q = 0 then some v else none) = some y := e
    split at e
    · exact Or.inl (Option.some.inj e).symm
    · cases e
theorem ad_r {g : LI} {v : Nat} {mc : Int32} (h : g.sz < g.eN) : adQ g v (LI.s_el (LI.s_mc (LI.s_sz g (g.sz + 1)) mc) (va_up g.el g.sz (some v))) := by
  refine ⟨rfl, ?_, fun q hq => ?_, if_pos rfl, ?_, by show ¬ g.eN = 0; omega⟩
  · show g.eN = gqN g
    unfold gqN
    rw [if_pos h]
  · show (if q = g.sz then some v else g.el q) = g.el q
    rw [if_neg (by omega)]
  · intro q y hq e
    have e : (if q = g.sz then some v else g.el q) = some y := e
    split at e
    · exact Or.inl (Option.some.inj e).symm
    · exact Or.inr ⟨q, hq, e⟩
theorem ad_g {g : LI} {v b : Nat} {mc : Int32} (h0 : 0 < g.eN) (h : g.sz = g.eN) : adQ g v (LI.s_el (LI.s_eN (LI.s_eA (LI.s_mc (LI.s_sz g (g.sz + 1)) mc) b) (g.eN + max 1 (g.eN / 2))) (va_up (cpF g.el g.eN) g.sz (some v))) := by
  refine ⟨rfl, ?_, fun q hq => ?_, if_pos rfl, ?_, by show ¬ g.eN + max 1 (g.eN / 2) = 0; omega⟩
  · show g.eN + max 1 (g.eN / 2) = gqN g
    unfold gqN grN
    rw [if_neg (by omega), if_neg (by omega)]
  · show (if q = g.sz then some v else cpF g.el g.eN q) = g.el q
    rw [if_neg (by omega)]
    exact if_pos (by omega)
  · intro q y hq e
    have e : (if q = g.sz then some v else cpF g.el g.eN q) = some y := e
    split at e
    · exact Or.inl (Option.some.inj e).symm
    · unfold cpF at e
      split at e
      · rename_i g1
        exact Or.inr ⟨q, g1, e⟩
      · cases e
theorem pC_e {D : va_G} {dA : Nat → ClassId} {e0 mi : Nat} {av : List Value} {ws : va_W} {sz : Nat} {a : Array Value} {U : State} (h : pCy D dA e0 mi av ws sz a U) : pC D dA av ws sz a U := h.1.1
theorem lq_sw (o : Nat × va_E) (b : Nat × va_E) (ws : va_W) : ([b] ++ ([o] ++ ws)).Perm (([o] ++ [b]) ++ ws) := List.Perm.swap o b ws
/-- the lists that lie in ll -/
theorem llP {dA : Nat → ClassId} {h : Nat} {ad : Nat → Nat} {x : VS} {L r : va_W} (e : x.ll = L ++ r) : (VW dA h ad x).Perm (L ++ VW dA h ad (VS.s_ll x r)) := by
  obtain ⟨F, hF1, hF2⟩ : ∃ F : va_W, VW dA h ad x = F ++ (x.ll ++ x.pl) ∧ VW dA h ad (VS.s_ll x r) = F ++ (r ++ x.pl) := ⟨_, rfl, rfl⟩
  rw [hF1, hF2, e, List.append_assoc]
  exact List.perm_append_comm_assoc F L (r ++ x.pl)
theorem llF {F L W W' : va_W} (h : W.Perm (L ++ W')) : (F ++ W).Perm (L ++ (F ++ W')) := (List.Perm.append_left F h).trans (List.perm_append_comm_assoc F L W')
theorem v_LaddQ_E (l : Launch) (D : va_G) (dA : Nat → ClassId) (sz : Nat) (e0 mi : Nat) (ws : va_W) (a : Nat) (g : LI) (v : Nat) (fs : List Value) (hg : lqOk e0 g) (hel : ∀ i : Nat, i < g.eN → ∀ y : Nat, g.el i = some y → ∃ vs : List Value, (y, .inr (13, vs)) ∈ ws) (mo : (v, .inr (13, fs)) ∈ ws) : Met l ⟨"java/util/ArrayList", "add", "(Ljava/lang/Object;)Z"⟩ [Cond.code ⟨"java/util/ArrayList", "add", "(Ljava/lang/Object;)Z"⟩ prog_37_method_25_code 2 (some FieldType.boolean)] { frames := 6, cells := 1, slots := gqS g, locals := 150 } (pCy D dA e0 mi [.ref a, .ref v] (LqW dA a g ++ (ws)) sz) (va_Qi (fun (r9 : Int32) (u9 : LI) => r9 = 1 ∧ adQ g v u9) (fun (u9 : LI) t9 => bW D (va_A (LqW dA a g ++ (ws)) sz) (LqW dA a u9 ++ (ws)) t9) (va_A (LqW dA a g ++ (ws)) sz)) 1 (gqS g) (va_A (LqW dA a g ++ (ws)) sz) := by
  obtain ⟨k1, k2, k3⟩ := hg
  by_cases h0 : g.eN = 0
  · obtain ⟨k4, k5⟩ := k1 h0
    have eS : gqS g = 10 := by unfold gqS grN; rw [if_neg (by omega), if_pos h0]
    have eW : LqW dA a g = [(a, .inr (6, [.ref e0, .int 0, .int g.mc]))] := by rw [LqW_0 h0, k4, k5]; rfl
    rw [eW, eS]
    refine Met_mono (v_Ladd_0E l D dA sz e0 mi ws a g.mc v fs mo) (Nat.le_of_ble_eq_true rfl) (Nat.le_refl _) (Nat.le_refl _) (Nat.le_of_ble_eq_true rfl) (Nat.le_refl _) (Nat.le_refl _) (fun _ _ h => h) ?_ (fun _ h => h)
    rintro b9 st o t ⟨⟨r, u, e1, e2, e3⟩, e4⟩
    refine ⟨⟨r, _, e1, ⟨e2, ad_0 (b := u) (mc := g.mc + 1) h0 k5⟩, ?_⟩, e4⟩
    show bW D _ (LqW dA a _ ++ ws) t
    rw [LqW_1]
    · exact ⟨pmP (lq_sw _ _ ws) e3.1, pmD (lq_sw _ _ ws) e3.2⟩
    · exact (by decide : ¬ (10 : Nat) = 0)
  · rw [LqW_1 h0]
    by_cases h1 : g.sz < g.eN
    · have eS : gqS g = 0 := by unfold gqS; rw [if_pos h1]
      rw [eS]
      refine Met_mono (v_Ladd_E l D dA sz ws (fun _ => a) g v fs h1 k3 mo) (Nat.le_of_ble_eq_true rfl) (Nat.le_of_ble_eq_true rfl) (Nat.le_refl _) (Nat.le_of_ble_eq_true rfl) (Nat.le_of_ble_eq_true rfl) (Nat.le_refl _) (fun _ _ h => pC_e h) ?_ (fun _ h => h)
      rintro b9 st o t ⟨⟨r, u, e1, e2, e3⟩, e4⟩
      refine ⟨⟨r, _, e1, ⟨e2, ad_r (mc := g.mc + 1) h1⟩, ?_⟩, e4⟩
      show bW D _ (LqW dA a _ ++ ws) t
      rw [LqW_1]
      · exact e3
      · exact h0
    · have eS : gqS g = g.eN + max 1 (g.eN / 2) := by unfold gqS grN; rw [if_neg h1, if_neg h0]
      rw [eS]
      refine Met_mono (v_Ladd_gE l D dA sz e0 mi ws (fun _ => a) g v fs hel (by omega) k3 (by omega) mo) (Nat.le_of_ble_eq_true rfl) (Nat.le_refl _) (Nat.le_refl _) (Nat.le_of_ble_eq_true rfl) (Nat.le_refl _) (Nat.le_refl _) (fun _ _ h => h) ?_ (fun _ h => h)
      rintro b9 st o t ⟨⟨r, u, e1, e2, e3⟩, e4⟩
      refine ⟨⟨r, _, e1, ⟨e2, ad_g (b := u) (mc := g.mc + 1) (by omega) (by omega)⟩, ?_⟩, e4⟩
      show bW D _ (LqW dA a _ ++ ws) t
      rw [LqW_1]
      · exact e3
      · show ¬ g.eN + max 1 (g.eN / 2) = 0
        omega
theorem v_LaddQ_W (l : Launch) (D : va_G) (dA : Nat → ClassId) (sz : Nat) (e0 mi : Nat) (ws : va_W) (a : Nat) (g : LI) (v : Nat) (fs : List Value) (hg : lqOk e0 g) (hel : ∀ i : Nat, i < g.eN → ∀ y : Nat, g.el i = some y → ∃ vs : List Value, (y, .inr (10, vs)) ∈ ws) (mo : (v, .inr (10, fs)) ∈ ws) : Met l ⟨"java/util/ArrayList", "add", "(Ljava/lang/Object;)Z"⟩ [Cond.code ⟨"java/util/ArrayList", "add", "(Ljava/lang/Object;)Z"⟩ prog_37_method_25_code 2 (some FieldType.boolean)] { frames := 6, cells := 1, slots := gqS g, locals := 150 } (pCy D dA e0 mi [.ref a, .ref v] (LqW dA a g ++ (ws)) sz) (va_Qi (fun (r9 : Int32) (u9 : LI) => r9 = 1 ∧ adQ g v u9) (fun (u9 : LI) t9 => bW D (va_A (LqW dA a g ++ (ws)) sz) (LqW dA a u9 ++ (ws)) t9) (va_A (LqW dA a g ++ (ws)) sz)) 1 (gqS g) (va_A (LqW dA a g ++ (ws)) sz) := by
  obtain ⟨k1, k2, k3⟩ := hg
  by_cases h0 : g.eN = 0
  · obtain ⟨k4, k5⟩ := k1 h0
    have eS : gqS g = 10 := by unfold gqS grN; rw [if_neg (by omega), if_pos h0]
    have eW : LqW dA a g = [(a, .inr (6, [.ref e0, .int 0, .int g.mc]))] := by rw [LqW_0 h0, k4, k5]; rfl
    rw [eW, eS]
    refine Met_mono (v_Ladd_0W l D dA sz e0 mi ws a g.mc v fs mo) (Nat.le_of_ble_eq_true rfl) (Nat.le_refl _) (Nat.le_refl _) (Nat.le_of_ble_eq_true rfl) (Nat.le_refl _) (Nat.le_refl _) (fun _ _ h => h) ?_ (fun _ h => h)
    rintro b9 st o t ⟨⟨r, u, e1, e2, e3⟩, e4⟩
    refine ⟨⟨r, _, e1, ⟨e2, ad_0 (b := u) (mc := g.mc + 1) h0 k5⟩, ?_⟩, e4⟩
    show bW D _ (LqW dA a _ ++ ws) t
    rw [LqW_1]
    · exact ⟨pmP (lq_sw _ _ ws) e3.1, pmD (lq_sw _ _ ws) e3.2⟩
    · exact (by decide : ¬ (10 : Nat) = 0)
  · rw [LqW_1 h0]
    by_cases h1 : g.sz < g.eN
    · have eS : gqS g = 0 := by unfold gqS; rw [if_pos h1]
      rw [eS]
      refine Met_mono (v_Ladd_W l D dA sz ws (fun _ => a) g v fs h1 k3 mo) (Nat.le_of_ble_eq_true rfl) (Nat.le_of_ble_eq_true rfl) (Nat.le_refl _) (Nat.le_of_ble_eq_true rfl) (Nat.le_of_ble_eq_true rfl) (Nat.le_refl _) (fun _ _ h => pC_e h) ?_ (fun _ h => h)
      rintro b9 st o t ⟨⟨r, u, e1, e2, e3⟩, e4⟩
      refine ⟨⟨r, _, e1, ⟨e2, ad_r (mc := g.mc + 1) h1⟩, ?_⟩, e4⟩
      show bW D _ (LqW dA a _ ++ ws) t
      rw [LqW_1]
      · exact e3
      · exact h0
    · have eS : gqS g = g.eN + max 1 (g.eN / 2) := by unfold gqS grN; rw [if_neg h1, if_neg h0]
      rw [eS]
      refine Met_mono (v_Ladd_gW l D dA sz e0 mi ws (fun _ => a) g v fs hel (by omega) k3 (by omega) mo) (Nat.le_of_ble_eq_true rfl) (Nat.le_refl _) (Nat.le_refl _) (Nat.le_of_ble_eq_true rfl) (Nat.le_refl _) (Nat.le_refl _) (fun _ _ h => h) ?_ (fun _ h => h)
      rintro b9 st o t ⟨⟨r, u, e1, e2, e3⟩, e4⟩
      refine ⟨⟨r, _, e1, ⟨e2, ad_g (b := u) (mc := g.mc + 1) (by omega) (by omega)⟩, ?_⟩, e4⟩
      show bW D _ (LqW dA a _ ++ ws) t
      rw [LqW_1]
      · exact e3
      · show ¬ g.eN + max 1 (g.eN / 2) = 0
        omega
set_option maxHeartbeats 4000000 in
set_option maxRecDepth 100000 in
theorem v_LsizeO (l : Launch) (D : va_G) (dA : Nat → ClassId) (sz : Nat) (ws : va_W) (a : Nat) (ea : Nat) (n : Nat) (mc : Int32) : Met l ⟨"java/util/ArrayList", "size", "()I"⟩ [Cond.code ⟨"java/util/ArrayList", "size", "()I"⟩ prog_37_method_8_code 1 (some FieldType.int)] { frames := 1, cells := 0, slots := 0, locals := 0 } (pC D dA [.ref a] ([(a, .inr (6, [.ref ea, .int (nI n), .int mc]))] ++ (ws)) sz) (va_Qi (fun (r9 : Int32) (u9 : Unit) => r9 = nI n) (fun (u9 : Unit) t9 => bW D (va_A ([(a, .inr (6, [.ref ea, .int (nI n), .int mc]))] ++ (ws)) sz) ([(a, .inr (6, [.ref ea, .int (nI n), .int mc]))] ++ (ws)) t9) (va_A ([(a, .inr (6, [.ref ea, .int (nI n), .int mc]))] ++ (ws)) sz)) 0 0 (va_A ([(a, .inr (6, [.ref ea, .int (nI n), .int mc]))] ++ (ws)) sz) := by
  refine mkC (y := ⟨"java/util/ArrayList", "size", "()I"⟩) (cc := prog_37_method_8_code) (maxL := 1) (av := [.ref a]) (ws := [(a, .inr (6, [.ref ea, .int (nI n), .int mc]))] ++ (ws)) (sz := sz) (Qc := fun A => va_Qi (fun (r9 : Int32) (u9 : Unit) => r9 = nI n) (fun (u9 : Unit) t9 => bW D A ([(a, .inr (6, [.ref ea, .int (nI n), .int mc]))] ++ (ws)) t9) A) (by decide) (Nat.le_of_ble_eq_true rfl) ?_
  intro A p e s m below meth c ls hsz hB
  obtain ⟨hx, hb, hr, hml, hown, hin, hlk, hE, hK, hP, hD, hS, hA, hN, hl⟩ := hB
  have hown : s.vm.findClass "java/util/ArrayList" = some m.cls := hown
  have hl : lv_has ls 1 [(0, .ref a)] := hl
  obtain ⟨H, hH⟩ : ∃ z, z = s.heap := ⟨_, rfl⟩
  have hP : va_P D vwCl ([(a, .inr (6, [.ref ea, .int (nI n), .int mc]))] ++ (ws)) H := by rw [hH]; exact hP
  have hS : va_S A s.heap H [] := by rw [hH]; exact hS
  rw [← hH]
  refine lv_aload_n hx hb d_L_size_0 rfl (lv_at hl 0 rfl) ?_
  refine gF (v := .int (nI n)) hx hb hown hE hK hP 0 rfl rfl layL 1 (by decide) w657 rfl d_L_size_1 ?_
  exact rfI hx hb hr hlk hS () rfl hP hD (Nat.le_of_ble_eq_true rfl) (Nat.le_of_ble_eq_true rfl) d_L_size_4
theorem v_LsizeQ (l : Launch) (D : va_G) (dA : Nat → ClassId) (sz : Nat) (ws : va_W) (a : Nat) (g : LI) : Met l ⟨"java/util/ArrayList", "size", "()I"⟩ [Cond.code ⟨"java/util/ArrayList", "size", "()I"⟩ prog_37_method_8_code 1 (some FieldType.int)] { frames := 1, cells := 0, slots := 0, locals := 0 } (pC D dA [.ref a] (LqW dA a g ++ (ws)) sz) (va_Qi (fun (r9 : Int32) (u9 : Unit) => r9 = nI g.sz) (fun (u9 : Unit) t9 => bW D (va_A (LqW dA a g ++ (ws)) sz) (LqW dA a g ++ (ws)) t9) (va_A (LqW dA a g ++ (ws)) sz)) 0 0 (va_A (LqW dA a g ++ (ws)) sz) := v_LsizeO l D dA sz (LqA dA g ++ ws) a g.eA g.sz g.mc
set_option maxHeartbeats 4000000 in
set_option maxRecDepth 100000 in
theorem v_Lclear_0 (l : Launch) (D : va_G) (dA : Nat → ClassId) (sz : Nat) (e0 mi : Nat) (ws : va_W) (a : Nat) (mc : Int32) : Met l ⟨"java/util/ArrayList", "clear", "()V"⟩ [Cond.code ⟨"java/util/ArrayList", "clear", "()V"⟩ prog_37_method_40_code 4 none] { frames := 1, cells := 0, slots := 0, locals := 0 } (pCy D dA e0 mi [.ref a] ([(a, .inr (6, [.ref e0, .int 0, .int mc]))] ++ (ws)) sz) (va_Qv (fun (u9 : Unit) => True) (fun (u9 : Unit) t9 => bW D (va_A ([(a, .inr (6, [.ref e0, .int 0, .int mc]))] ++ (ws)) sz) ([(a, .inr (6, [.ref e0, .int 0, .int (mc + 1)]))] ++ (ws)) t9) (va_A ([(a, .inr (6, [.ref e0, .int 0, .int mc]))] ++ (ws)) sz)) 0 0 (va_A ([(a, .inr (6, [.ref e0, .int 0, .int mc]))] ++ (ws)) sz) := by
  refine mkY (y := ⟨"java/util/ArrayList", "clear", "()V"⟩) (cc := prog_37_method_40_code) (maxL := 4) (av := [.ref a]) (ws := [(a, .inr (6, [.ref e0, .int 0, .int mc]))] ++ (ws)) (sz := sz) (Qc := fun A => va_Qv (fun (u9 : Unit) => True) (fun (u9 : Unit) t9 => bW D A ([(a, .inr (6, [.ref e0, .int 0, .int (mc + 1)]))] ++ (ws)) t9) A) (by decide) (Nat.le_of_ble_eq_true rfl) ?_
  intro A p e s m below meth c ls hsz hZ hT hM hB
  obtain ⟨hx, hb, hr, hml, hown, hin, hlk, hE, hK, hP, hD, hS, hA, hN, hl⟩ := hB
  have hown : s.vm.findClass "java/util/ArrayList" = some m.cls := hown
  have hl : lv_has ls 4 [(0, .ref a)] := hl
  obtain ⟨H, hH⟩ : ∃ z, z = s.heap := ⟨_, rfl⟩
  have hP : va_P D vwCl ([(a, .inr (6, [.ref e0, .int 0, .int mc]))] ++ (ws)) H := by rw [hH]; exact hP
  have hS : va_S A s.heap H [] := by rw [hH]; exact hS
  rw [← hH]
  refine lv_aload_n hx hb d_L_clear_0 rfl (lv_at hl 0 rfl) ?_
  refine lv_dup hx hb d_L_clear_1 rfl ?_
  refine gFU (v := .int mc) hx hb hown hE hK hP 0 rfl rfl layL 2 (by decide) w654 w655 rfl d_L_clear_2 ?_
  refine lv_iconst (v := 1) hx hb d_L_clear_5 (by decide) ?_
  refine lv_iadd hx hb d_L_clear_6 ?_
  refine pFU (v := .int (mc + 1)) hx hb hown hE hK hP hD hS 0 rfl rfl layL tyL tokL nmL 2 (by decide) w654 w655 rfl rfl rfl (Nat.le_of_ble_eq_true rfl) d_L_clear_7 (fun H locs hP hD hS => ?_)
  have hP : va_P D vwCl ([(a, .inr (6, [.ref e0, .int 0, .int (mc + 1)]))] ++ (ws)) H := hP
  have hD : va_D A ([(a, .inr (6, [.ref e0, .int 0, .int (mc + 1)]))] ++ (ws)) := hD
  refine lv_aload_n hx hb d_L_clear_10 rfl (lv_at hl 0 rfl) ?_
  refine gF (v := .ref e0) hx hb hown hE hK hP 0 rfl rfl layL 0 (by decide) w656 rfl d_L_clear_11 ?_
  refine lv_astore_n hx hb d_L_clear_14 rfl hl (by decide) rfl (fun ls hl => ?_)
  have hl : lv_has ls 4 [(1, .ref e0), (0, .ref a)] := hl
  refine lv_aload_n hx hb d_L_clear_15 rfl (lv_at hl 1 rfl) ?_
  refine gF (v := .int 0) hx hb hown hE hK hP 0 rfl rfl layL 1 (by decide) w657 rfl d_L_clear_16 ?_
  refine lv_istore_n hx hb d_L_clear_19 rfl hl (by decide) rfl (fun ls hl => ?_)
  have hl : lv_has ls 4 [(2, .int 0), (1, .ref e0), (0, .ref a)] := hl
  refine lv_aload_n hx hb d_L_clear_20 rfl (lv_at hl 2 rfl) ?_
  refine lv_iconst (v := 0) hx hb d_L_clear_21 (by decide) ?_
  refine lv_dup_x1 hx hb d_L_clear_22 rfl rfl ?_
  refine pF (v := .int 0) hx hb hown hE hK hP hD hS 0 rfl rfl layL tyL tokL nmL 1 (by decide) w657 rfl rfl rfl (Nat.le_of_ble_eq_true rfl) d_L_clear_23 (fun H locs hP hD hS => ?_)
  have hP : va_P D vwCl ([(a, .inr (6, [.ref e0, .int 0, .int (mc + 1)]))] ++ (ws)) H := hP
  have hD : va_D A ([(a, .inr (6, [.ref e0, .int 0, .int (mc + 1)]))] ++ (ws)) := hD
  refine lv_istore_n hx hb d_L_clear_26 rfl hl (by decide) rfl (fun ls hl => ?_)
  have hl : lv_has ls 4 [(3, .int 0), (2, .int 0), (1, .ref e0), (0, .ref a)] := hl
  refine lv_iload_n hx hb d_L_clear_27 rfl (lv_at hl 0 rfl) ?_
  refine lv_iload_n hx hb d_L_clear_28 rfl (lv_at hl 1 rfl) ?_
  refine lv_icmp_ge hx hb d_L_clear_29 (tgt := 42) rfl (fun _ => ?_) (fun h9 => absurd (by decide) h9)
  exact rfV hx hb hr hlk hS () trivial hP hD (Nat.le_of_ble_eq_true rfl) (Nat.le_of_ble_eq_true rfl) d_L_clear_42
theorem v_LclearQ (l : Launch) (D : va_G) (dA : Nat → ClassId) (sz : Nat) (e0 mi : Nat) (ws : va_W) (a : Nat) (g : LI) (hg : lqOk e0 g) : Met l ⟨"java/util/ArrayList", "clear", "()V"⟩ [Cond.code ⟨"java/util/ArrayList", "clear", "()V"⟩ prog_37_method_40_code 4 none] { frames := 1, cells := 0, slots := 0, locals := 0 } (pCy D dA e0 mi [.ref a] (LqW dA a g ++ (ws)) sz) (va_Qv (fun (u9 : Unit) => True) (fun (u9 : Unit) t9 => bW D (va_A (LqW dA a g ++ (ws)) sz) (LqW dA a (LI.s_el (LI.s_mc (LI.s_sz g 0) (g.mc + 1)) (clF g.el g.sz)) ++ (ws)) t9) (va_A (LqW dA a g ++ (ws)) sz)) 0 0 (va_A (LqW dA a g ++ (ws)) sz) := by
  obtain ⟨k1, k2, k3⟩ := hg
  by_cases h0 : g.eN = 0
  · obtain ⟨k4, k5⟩ := k1 h0
    rw [show LqW dA a g = [(a, .inr (6, [.ref e0, .int 0, .int g.mc]))] by rw [LqW_0 h0, k4, k5]; rfl, show LqW dA a (LI.s_el (LI.s_mc (LI.s_sz g 0) (g.mc + 1)) (clF g.el g.sz)) = [(a, .inr (6, [.ref e0, .int 0, .int (g.mc + 1)]))] by rw [LqW_0 (g := LI.s_el (LI.s_mc (LI.s_sz g 0) (g.mc + 1)) (clF g.el g.sz)) (show g.eN = 0 from h0), ← k4]; rfl]
    exact Met_mono (v_Lclear_0 l D dA sz e0 mi ws a g.mc) (Nat.le_of_ble_eq_true rfl) (Nat.le_refl _) (Nat.le_refl _) (Nat.le_of_ble_eq_true rfl) (Nat.le_refl _) (Nat.le_refl _) (fun _ _ h => h) (fun _ _ _ _ h => h) (fun _ h => h)
  · rw [LqW_1 h0, LqW_1 (g := LI.s_el (LI.s_mc (LI.s_sz g 0) (g.mc + 1)) (clF g.el g.sz)) (show ¬ g.eN = 0 from h0)]
    exact Met_mono (v_Lclear l D dA sz ws (fun _ => a) g k2 k3) (Nat.le_of_ble_eq_true rfl) (Nat.le_refl _) (Nat.le_refl _) (Nat.le_of_ble_eq_true rfl) (Nat.le_refl _) (Nat.le_refl _) (fun _ _ h => pC_e h) (fun _ _ _ _ h => h) (fun _ h => h)
end
section
/-! What a question's reading leaves as it was. -/
/-- only token and fault, and more that never changes -/
def VS.qp (x y : VS) : Prop := y = VS.s_pl (x.wt y.tk) y.pl ∧ ∀ c, c ∈ x.pl → c ∈ y.pl
/-- the lists too -/
def VS.qr (x y : VS) : Prop := y = VS.s_pl (VS.s_ll (x.wt y.tk) y.ll) y.pl ∧ ∀ c, c ∈ x.pl → c ∈ y.pl
theorem qp_rf (x : VS) : x.qp x := ⟨rfl, fun _ h => h⟩
theorem qr_rf (x : VS) : x.qr x := ⟨rfl, fun _ h => h⟩
theorem qp_tr {x y z : VS} (h1 : x.qp y) (h2 : y.qp z) : x.qp z :=
  ⟨h2.1.trans ((congrArg (fun w => VS.s_pl (VS.wt w z.tk) z.pl) h1.1).trans rfl), fun c hc => h2.2 c (h1.2 c hc)⟩
theorem qr_tr {x y z : VS} (h1 : x.qr y) (h2 : y.qr z) : x.qr z :=
  ⟨h2.1.trans ((congrArg (fun w => VS.s_pl (VS.s_ll (VS.wt w z.tk) z.ll) z.pl) h1.1).trans rfl), fun c hc => h2.2 c (h1.2 c hc)⟩
theorem qp_ll {x y : VS} (h : x.qp y) : y.ll = x.ll := (congrArg VS.ll h.1).trans rfl
theorem qp_qr {x y : VS} (h : x.qp y) : x.qr y := by
  refine ⟨?_, h.2⟩
  rw [qp_ll h]
  exact h.1.trans rfl
theorem qp_wt (x : VS) (t : TKQ) : x.qp (x.wt t) := ⟨rfl, fun _ h => h⟩
theorem qp_pk {x y : VS} (h : x.pk y) : x.qp y := ⟨h.1.trans (by have e : y.tk = x.tk := (congrArg VS.tk h.1).trans rfl; rw [e]; rfl), h.2⟩
theorem qr_ll (x : VS) (w : va_W) : x.qr (VS.s_ll x w) := ⟨rfl, fun _ h => h⟩
theorem qr_f {x y : VS} (h : x.qr y) : y.qtp = x.qtp ∧ y.qlen = x.qlen ∧ y.tape = x.tape ∧ y.tpA = x.tpA ∧ y.tpN = x.tpN :=
  ⟨(congrArg VS.qtp h.1).trans rfl, (congrArg VS.qlen h.1).trans rfl, (congrArg VS.tape h.1).trans rfl, (congrArg VS.tpA h.1).trans rfl, (congrArg VS.tpN h.1).trans rfl⟩
/-- a token on the tape: not empty but at the end, a text has its two marks -/
def tkok (n : Nat) (t : TKQ) : Prop := t.2.1 ≤ t.2.2.1 ∧ t.2.2.1 ≤ n ∧ (¬ t.1 = 256 → t.2.1 < t.2.2.1) ∧ (t.1 = 259 → t.2.1 + 2 ≤ t.2.2.1)
def VS.qok (x : VS) : Prop := x.qtp = x.tpA ∧ x.qlen ≤ x.tpN ∧ x.tpN ≤ 131072 ∧ x.qlen ≤ 16384 ∧ byteF x.tape ∧ tkok x.qlen x.tk
theorem rfT_ok {n : Nat} {t : TKQ} {k : Int32} {q : Nat} (h : tkok n t) : tkok n (rfT t k q) := by
  unfold rfT
  split
  · exact h
  · exact h
theorem rfT_e (t : TKQ) (k : Int32) (q : Nat) : (rfT t k q).1 = t.1 ∧ (rfT t k q).2.1 = t.2.1 ∧ (rfT t k q).2.2.1 = t.2.2.1 := by
  unfold rfT
  split
  · exact ⟨rfl, rfl, rfl⟩
  · exact ⟨rfl, rfl, rfl⟩
theorem sgV_k (z y : Int32) : ¬ (sgV z y).1 = 259 ∧ 1 ≤ (sgV z y).2 ∧ ((sgV z y).2 = 1 ∨ ((sgV z y).2 = 2 ∧ (y = 61 ∨ y = 94))) := by
  unfold sgV
  split
  · split
    · rename_i h
      exact ⟨by decide, by decide, Or.inr ⟨rfl, Or.inl h⟩⟩
    · split
      · rename_i h
        exact ⟨by decide, by decide, Or.inr ⟨rfl, Or.inr h⟩⟩
      · exact ⟨by decide, by decide, Or.inl rfl⟩
  · split
    · split
      · rename_i h
        exact ⟨by decide, by decide, Or.inr ⟨rfl, Or.inl h⟩⟩
      · exact ⟨by decide, by decide, Or.inl rfl⟩
    · split
      · rename_i h
        refine ⟨?_, Nat.le_refl 1, Or.inl rfl⟩
        show ¬ z = 259
        rcases h with h | h | h | h | h | h | h | h | h | h | h <;> subst h <;> decide
      · exact ⟨by decide, by decide, Or.inl rfl⟩
/-- a token that begins at d -/
theorem tkD_ok {f : Nat → Int32} {n d : Nat} {m : Int64} (h : d ≤ n) : (tkD f n m d).2.1 = d ∧ (tkD f n m d).2.2.1 ≤ n ∧ d ≤ (tkD f n m d).2.2.1 ∧ (¬ (tkD f n m d).1 = 256 → d < (tkD f n m d).2.2.1) ∧ ((tkD f n m d).1 = 259 → d + 2 ≤ (tkD f n m d).2.2.1) := by
  by_cases e : d = n
  · rw [tkD_e e]
    exact ⟨rfl, Nat.le_refl n, h, fun z => absurd rfl z, fun z => absurd z (show ¬ (256 : Int32) = 259 by decide)⟩
  · have hd : d < n := by omega
    cases h1 : isDg (f d) with
    | true =>
      have z := whE_in (P := isDg) (f := f) (n := n) (q := d + 1) (by omega)
      rw [← whE_t hd h1] at z
      rw [tkD_d (k := whE isDg f n d - d) e h1 (by omega)]
      refine ⟨rfl, ?_, ?_, fun _ => ?_, fun z => ?_⟩
      · show d + (whE isDg f n d - d) ≤ n
        omega
      · show d ≤ d + (whE isDg f n d - d)
        omega
      · show d < d + (whE isDg f n d - d)
        omega
      · exact absurd (show nuK f d (whE isDg f n d - d) = 259 from z) (by unfold nuK; split <;> decide)
    | false =>
      cases h2 : isNm (f d) with
      | true =>
        have z := whE_in (P := isNm) (f := f) (n := n) (q := d + 1) (by omega)
        rw [tkD_n e h1 h2]
        refine ⟨rfl, z.2, ?_, fun _ => z.1, fun z => absurd z (show ¬ (258 : Int32) = 259 by decide)⟩
        show d ≤ whE isNm f n (d + 1)
        omega
      | false =>
        by_cases h3 : f d = 34
        · rw [tkD_t e h1 h2 h3]
          have z := whE_in (P := isTv) (f := f) (n := n) (q := d + 1) (by omega)
          by_cases h4 : atV f n (whE isTv f n (d + 1)) = 34
          · rw [tvK_y h4, tvN_y h4]
            have z3 : whE isTv f n (d + 1) < n := by
              refine Nat.lt_of_not_le fun z9 => ?_
              rw [atV_f z9] at h4
              exact absurd h4 (by decide)
            refine ⟨rfl, z3, ?_, fun _ => ?_, fun _ => ?_⟩
            · show d ≤ whE isTv f n (d + 1) + 1
              omega
            · show d < whE isTv f n (d + 1) + 1
              omega
            · show d + 2 ≤ whE isTv f n (d + 1) + 1
              omega
          · rw [tvK_n h4, tvN_n h4]
            exact ⟨rfl, hd, Nat.le_succ d, fun _ => Nat.lt_succ_self d, fun z => absurd z (show ¬ (263 : Int32) = 259 by decide)⟩
        · rw [tkD_s e h1 h2 h3]
          obtain ⟨k1, k2, k3⟩ := sgV_k (f d) (atV f n (d + 1))
          have k4 : d + 1 + ((sgV (f d) (atV f n (d + 1))).2 - 1) ≤ n := by
            rcases k3 with k3 | ⟨k3, k5⟩
            · omega
            · have : d + 1 < n := by
                refine Nat.lt_of_not_le fun z9 => ?_
                rw [atV_f z9] at k5
                rcases k5 with k5 | k5 <;> exact absurd k5 (by decide)
              omega
          refine ⟨rfl, k4, ?_, fun _ => ?_, fun z => absurd z k1⟩
          · show d ≤ d + 1 + ((sgV (f d) (atV f n (d + 1))).2 - 1)
            omega
          · show d < d + 1 + ((sgV (f d) (atV f n (d + 1))).2 - 1)
            omega
theorem nx_ok {f : Nat → Int32} {n : Nat} {t : TKQ} (h : t.2.2.1 ≤ n) : tkok n (nxT f n t) ∧ t.2.2.1 ≤ (nxT f n t).2.1 := by
  have z := whE_in (P := isSp) (f := f) (n := n) (q := t.2.2.1) h
  obtain ⟨k1, k2, k3, k4, k5⟩ := tkD_ok (f := f) (m := t.2.2.2.1) z.2
  unfold nxT adX
  split
  · have e := rfT_e (mkT (tkD f n t.2.2.2.1 (whE isSp f n t.2.2.1)) t) 1 (tkD f n t.2.2.2.1 (whE isSp f n t.2.2.1)).2.1
    refine ⟨rfT_ok ⟨?_, k2, fun q => ?_, fun q => ?_⟩, ?_⟩
    · show (tkD f n t.2.2.2.1 (whE isSp f n t.2.2.1)).2.1 ≤ _
      rw [k1]; exact k3
    · show (tkD f n t.2.2.2.1 (whE isSp f n t.2.2.1)).2.1 < _
      rw [k1]; exact k4 q
    · show (tkD f n t.2.2.2.1 (whE isSp f n t.2.2.1)).2.1 + 2 ≤ _
      rw [k1]; exact k5 q
    · rw [e.2.1]
      show _ ≤ (tkD f n t.2.2.2.1 (whE isSp f n t.2.2.1)).2.1
      rw [k1]; exact z.1
  · refine ⟨⟨?_, k2, fun q => ?_, fun q => ?_⟩, ?_⟩
    · show (tkD f n t.2.2.2.1 (whE isSp f n t.2.2.1)).2.1 ≤ _
      rw [k1]; exact k3
    · show (tkD f n t.2.2.2.1 (whE isSp f n t.2.2.1)).2.1 < _
      rw [k1]; exact k4 q
    · show (tkD f n t.2.2.2.1 (whE isSp f n t.2.2.1)).2.1 + 2 ≤ _
      rw [k1]; exact k5 q
    · show _ ≤ (tkD f n t.2.2.2.1 (whE isSp f n t.2.2.1)).2.1
      rw [k1]; exact z.1
theorem qok_r {x y : VS} (h : x.qok) (hr : x.qr y) (ht : tkok x.qlen y.tk) : y.qok := by
  obtain ⟨k1, k2, k3, k4, k5, -⟩ := h
  obtain ⟨e1, e2, e3, e4, e5⟩ := qr_f hr
  refine ⟨by rw [e1, e4]; exact k1, by rw [e2, e5]; exact k2, by rw [e5]; exact k3, by rw [e2]; exact k4, by rw [e3]; exact k5, by rw [e2]; exact ht⟩
/-- a token read by the class -/
theorem qok_adv {x y : VS} (h : x.qok) (e : y = x.adv) : y.qok ∧ x.qp y ∧ y.tk = nxT x.tape x.qlen x.tk := by
  subst e
  have z : x.adv.tk = nxT x.tape x.qlen x.tk := rfl
  have q : x.qp x.adv := qp_wt x _
  refine ⟨qok_r h (qp_qr q) ?_, q, z⟩
  rw [z]
  exact (nx_ok h.2.2.2.2.2.2.1).1
theorem qok_rfq {x y : VS} {k : Int32} {q : Nat} (h : x.qok) (e : y = x.rfq k q) : y.qok ∧ x.qp y ∧ y.tk = rfT x.tk k q := by
  rw [rfq_e] at e
  subst e
  have z : (x.wt (rfT x.tk k q)).tk = rfT x.tk k q := rfl
  have w : x.qp (x.wt (rfT x.tk k q)) := qp_wt x _
  refine ⟨qok_r h (qp_qr w) ?_, w, z⟩
  rw [z]
  exact rfT_ok h.2.2.2.2.2
/-- a token taken -/
def tkT (f : Nat → Int32) (n : Nat) (t : TKQ) (k : Int32) : Bool × TKQ := if t.1 = k then (true, nxT f n t) else (false, rfT t 2 t.2.1)
theorem qok_take {x y : VS} {k : Int32} (h : x.qok) (e : y = if x.qk = k then x.adv else x.rfq 2 x.qst) : y.qok ∧ x.qp y ∧ y.tk = (tkT x.tape x.qlen x.tk k).2 := by
  unfold tkT
  by_cases hk : x.qk = k
  · rw [if_pos hk] at e
    rw [if_pos (show x.tk.1 = k from hk)]
    exact qok_adv h e
  · rw [if_neg hk] at e
    rw [if_neg (show ¬ x.tk.1 = k from hk)]
    exact qok_rfq h e
theorem qok_pk {x y : VS} (h : x.qok) (e : x.pk y) : y.qok ∧ x.qp y ∧ y.tk = x.tk := by
  have z : y.tk = x.tk := (congrArg VS.tk e.1).trans rfl
  refine ⟨qok_r h (qp_qr (qp_pk e)) ?_, qp_pk e, z⟩
  rw [z]
  exact h.2.2.2.2.2
theorem d_Q_tokenWord_0 : decode prog_6_method_15_code 0 = .ok (.new 98, 3) := by decide +kernel
theorem d_Q_tokenWord_3 : decode prog_6_method_15_code 3 = .ok (.dup, 1) := by decide +kernel
theorem d_Q_tokenWord_4 : decode prog_6_method_15_code 4 = .ok (.aload_n 0, 1) := by decide +kernel
theorem d_Q_tokenWord_5 : decode prog_6_method_15_code 5 = .ok (.getfield 9, 3) := by decide +kernel
theorem d_Q_tokenWord_8 : decode prog_6_method_15_code 8 = .ok (.aload_n 0, 1) := by decide +kernel
theorem d_Q_tokenWord_9 : decode prog_6_method_15_code 9 = .ok (.getfield 48, 3) := by decide +kernel
theorem d_Q_tokenWord_12 : decode prog_6_method_15_code 12 = .ok (.aload_n 0, 1) := by decide +kernel
theorem d_Q_tokenWord_13 : decode prog_6_method_15_code 13 = .ok (.getfield 32, 3) := by decide +kernel
theorem d_Q_tokenWord_16 : decode prog_6_method_15_code 16 = .ok (.invokespecial 135, 3) := by decide +kernel
theorem d_Q_tokenWord_19 : decode prog_6_method_15_code 19 = .ok (.areturn, 1) := by decide +kernel
theorem w1623 : Cond.classLink "SeriesVault$Question" 98 "SeriesVault$Word" ∈ aW := aw_of (tb_7 (List.mem_of_getElem? (i := 49) rfl)) rfl
theorem w1624 : Cond.methodLink "SeriesVault$Question" 135 ⟨"SeriesVault$Word", "<init>", "([BII)V"⟩ ∈ aW := aw_of (tb_7 (List.mem_of_getElem? (i := 50) rfl)) rfl
set_option maxHeartbeats 4000000 in
set_option maxRecDepth 100000 in
theorem v_QtokenWord (l : Launch) (D : va_G) (dA : Nat → ClassId) (sz : Nat) (h : Nat) (ad : Nat → Nat) (x : VS) (hk : x.qok) : Met l ⟨"SeriesVault$Question", "tokenWord", "()LSeriesVault$Word;"⟩ [Cond.code ⟨"SeriesVault$Question", "tokenWord", "()LSeriesVault$Word;"⟩ prog_6_method_15_code 1 (some (FieldType.object "SeriesVault$Word"))] { frames := 5, cells := 2, slots := 1 + (x.qen - x.qst), locals := 109 } (pC D dA [.ref (ad 22)] (VW dA h ad x) sz) (va_Qr (fun (_ : VS) => True) (fun (u9 : VS) (r9 : Nat) t9 => (x.pk u9 ∧ isWo dA u9.pl r9 (seg x.tape x.qst x.qen)) ∧ bW D (va_A (VW dA h ad x) sz) (VW dA h ad u9) t9) (va_A (VW dA h ad x) sz)) 2 (1 + (x.qen - x.qst)) (va_A (VW dA h ad x) sz) := by
  refine mkC (y := ⟨"SeriesVault$Question", "tokenWord", "()LSeriesVault$Word;"⟩) (cc := prog_6_method_15_code) (maxL := 1) (av := [.ref (ad 22)]) (ws := VW dA h ad x) (sz := sz) (Qc := fun A => va_Qr (fun (_ : VS) => True) (fun (u9 : VS) (r9 : Nat) t9 => (x.pk u9 ∧ isWo dA u9.pl r9 (seg x.tape x.qst x.qen)) ∧ bW D A (VW dA h ad u9) t9) A) (by decide) (Nat.le_of_ble_eq_true rfl) ?_
  intro A p e s m below meth c ls hsz hB
  obtain ⟨hx, hb, hr, hml, hown, hin, hlk, hE, hK, hP, hD, hS, hA, hN, hl⟩ := hB
  have hown : s.vm.findClass "SeriesVault$Question" = some m.cls := hown
  have hl : lv_has ls 1 [(0, .ref (ad 22))] := hl
  obtain ⟨H, hH⟩ : ∃ z, z = s.heap := ⟨_, rfl⟩
  have hP : va_P D vwCl (VW dA h ad x) H := by rw [hH]; exact hP
  have hS : va_S A s.heap H [] := by rw [hH]; exact hS
  rw [← hH]
  have kb : x.qst ≤ x.qen ∧ x.qen ≤ x.qlen ∧ x.qlen ≤ x.tpN ∧ x.tpN ≤ 131072 ∧ x.qlen ≤ 16384 := ⟨hk.2.2.2.2.2.1, hk.2.2.2.2.2.2.1, hk.2.1, hk.2.2.1, hk.2.2.2.1⟩
  have kq : x.qtp = x.tpA := hk.1
  refine nOf hx hb hown hE hK hP hD hS hA (ci := 10) rfl layW tyW tokW w1623 w856 w1281 (fs := [.null]) dfW (show 0 + 1 ≤ 2 by omega) (show 0 + 1 ≤ 1 + (x.qen - x.qst) by omega) d_Q_tokenWord_0 (fun pp H hP hD hS => ?_)
  have hP : va_P D vwCl ([(pp, .inr (10, [.null]))] ++ (VW dA h ad x)) H := hP
  have hD : va_D A ([(pp, .inr (10, [.null]))] ++ (VW dA h ad x)) := hD
  refine lv_dup hx hb d_Q_tokenWord_3 rfl ?_
  refine lv_aload_n hx hb d_Q_tokenWord_4 rfl (lv_at hl 0 rfl) ?_
  refine gF (v := .ref x.qtp) hx hb hown hE hK hP 37 rfl rfl layQ 0 (by decide) w677 rfl d_Q_tokenWord_5 ?_
  rw [kq]
  refine lv_aload_n hx hb d_Q_tokenWord_8 rfl (lv_at hl 0 rfl) ?_
  refine gF (v := .int (nI x.qst)) hx hb hown hE hK hP 37 rfl rfl layQ 3 (by decide) w662 rfl d_Q_tokenWord_9 ?_
  refine lv_aload_n hx hb d_Q_tokenWord_12 rfl (lv_at hl 0 rfl) ?_
  refine gF (v := .int (nI x.qen)) hx hb hown hE hK hP 37 rfl rfl layQ 4 (by decide) w660 rfl d_Q_tokenWord_13 ?_
  refine jkV (wr := []) (rnI (As := [.ref x.tpA, .int (nI x.qst), .int (nI x.qen)]) (rest := [.ref pp]) hx hb hml hown hE hK (hN _ _ hS) hP hD (v_Winit l D dA H.size (VW dA h ad x) pp x.tpA x.tpN x.tape x.qst x.qen (List.mem_of_getElem? (i := 1) rfl) hk.2.2.2.2.1 (show x.qst ≤ x.qen from by omega) (show x.qen ≤ x.tpN from by omega) (show x.tpN ≤ 131072 from by omega)) w1308 w1624 w1309 w1281 rfl rfl rfl ⟨⟨by decide, by decide⟩, rfl⟩ ⟨(Nat.le_of_ble_eq_true rfl), (Nat.le_of_ble_eq_true rfl)⟩ rfl hl.1 rfl (Nat.le_of_ble_eq_true rfl) d_Q_tokenWord_16 ⟨(show 0 + 1 + 1 ≤ 2 by omega), (show 0 + 1 + (x.qen - x.qst) ≤ 1 + (x.qen - x.qst) by omega)⟩) hP hD hS hA (fun u2 H locs hp9 hP hD hS => ?_)
  obtain ⟨bq, g1⟩ := u2
  have hP : va_P D vwCl ([(bq, .inl (dA 0, x.qen - x.qst, .inl g1))] ++ ([(pp, .inr (10, [.ref bq]))] ++ (VW dA h ad x))) H := hP
  have hD : va_D A ([(bq, .inl (dA 0, x.qen - x.qst, .inl g1))] ++ ([(pp, .inr (10, [.ref bq]))] ++ (VW dA h ad x))) := hD
  obtain ⟨f_y_3, f_hg_4⟩ := hp9
  have hP : va_P D vwCl (VW dA h ad (VS.s_pl x (x.pl ++ ([(bq, .inl (dA 0, x.qen - x.qst, .inl g1))] ++ ([(pp, .inr (10, [.ref bq]))]))))) H := pmP (show List.Perm (α := Nat × va_E) ([(bq, .inl (dA 0, x.qen - x.qst, .inl g1))] ++ ([(pp, .inr (10, [.ref bq]))] ++ (VW dA h ad x))) (VW dA h ad (VS.s_pl x (x.pl ++ ([(bq, .inl (dA 0, x.qen - x.qst, .inl g1))] ++ ([(pp, .inr (10, [.ref bq]))]))))) from plP2 (dA := dA) (h := h) (ad := ad) x ([(bq, .inl (dA 0, x.qen - x.qst, .inl g1))]) ([(pp, .inr (10, [.ref bq]))])) hP
  have hD : va_D A (VW dA h ad (VS.s_pl x (x.pl ++ ([(bq, .inl (dA 0, x.qen - x.qst, .inl g1))] ++ ([(pp, .inr (10, [.ref bq]))]))))) := pmD (show List.Perm (α := Nat × va_E) ([(bq, .inl (dA 0, x.qen - x.qst, .inl g1))] ++ ([(pp, .inr (10, [.ref bq]))] ++ (VW dA h ad x))) (VW dA h ad (VS.s_pl x (x.pl ++ ([(bq, .inl (dA 0, x.qen - x.qst, .inl g1))] ++ ([(pp, .inr (10, [.ref bq]))]))))) from plP2 (dA := dA) (h := h) (ad := ad) x ([(bq, .inl (dA 0, x.qen - x.qst, .inl g1))]) ([(pp, .inr (10, [.ref bq]))])) hD
  obtain ⟨pl5, e_pl5⟩ : ∃ z, z = x.pl ++ ([(bq, .inl (dA 0, x.qen - x.qst, .inl g1))] ++ ([(pp, .inr (10, [.ref bq]))])) := ⟨_, rfl⟩
  rw [← e_pl5] at hP hD
  have s_pl5 : ∀ c, c ∈ x.pl → c ∈ pl5 := by rw [e_pl5]; exact fun _ hm => List.mem_append_left _ hm
  have t_pl5_0 : ((bq, .inl (dA 0, x.qen - x.qst, .inl g1)) : Nat × va_E) ∈ pl5 := by rw [e_pl5]; exact List.mem_append_right _ (List.mem_of_getElem? (i := 0) rfl)
  have t_pl5_1 : ((pp, .inr (10, [.ref bq])) : Nat × va_E) ∈ pl5 := by rw [e_pl5]; exact List.mem_append_right _ (List.mem_of_getElem? (i := 1) rfl)
  have hP : va_P D vwCl (VW dA h ad (VS.s_pl x pl5)) H := hP
  have hD : va_D A (VW dA h ad (VS.s_pl x pl5)) := hD
  exact rkR hx hb hr (Or.inl ⟨_, rfl⟩) hlk hS (VS.s_pl x pl5) ⟨⟨rfl, s_pl5⟩, isWo_n t_pl5_1 t_pl5_0 f_y_3 (seg_len _ _ _) (fun k hk => (f_hg_4 k hk).trans (seg_get _ hk).symm)⟩ hP hD (show 0 + 1 + 1 ≤ 2 by omega) (show 0 + 1 + (x.qen - x.qst) ≤ 1 + (x.qen - x.qst) by omega) d_Q_tokenWord_19
end
