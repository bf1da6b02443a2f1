/-- all below n -/
def allB (n : Nat) (f : Nat → Bool) : Bool := match n with
  | 0 => true
  | k + 1 => allB k f && f k
theorem allB_f {n k : Nat} {f : Nat → Bool} (h : allB k f = false) (hk : k ≤ n) : allB n f = false := by
  induction n with
  | zero => obtain rfl : k = 0 := by omega
            exact h
  | succ n ih =>
    by_cases e : k = n + 1
    · subst e; exact h
    · unfold allB; rw [ih (by omega)]; rfl
def sumN (n : Nat) (f : Nat → Nat) : Nat := match n with
  | 0 => 0
  | k + 1 => sumN k f + f k
theorem sumN_le {k n : Nat} (f : Nat → Nat) (h : k ≤ n) : sumN k f ≤ sumN n f := by
  induction n with
  | zero => obtain rfl : k = 0 := by omega
            exact Nat.le_refl _
  | succ n ih =>
    by_cases e : k = n + 1
    · subst e; exact Nat.le_refl _
    · have := ih (by omega)
      show sumN k f ≤ sumN n f + f n
      omega
theorem sumN_lt {k n : Nat} (f : Nat → Nat) (h : k < n) : sumN k f + f k ≤ sumN n f := sumN_le (k := k + 1) f h
/-- cuts after k writes -/
def cutN (z : Int32) : Nat → Int32
  | 0 => z
  | k + 1 => cutF (cutN z k)
/-- a change at every place below k of which c holds -/
def mapT {α : Type} (k : Nat) (c : Nat → Bool) (g f : Nat → α) : Nat → α := fun q => if q < k ∧ c q = true then g q else f q
theorem mapT_0 {α : Type} (c : Nat → Bool) (g f : Nat → α) : mapT 0 c g f = f := by
  funext q
  exact if_neg (fun h => absurd h.1 (Nat.not_lt_zero _))
theorem mapT_at {α : Type} {k q : Nat} (c : Nat → Bool) (g f : Nat → α) (h : k ≤ q) : mapT k c g f q = f q := if_neg (fun z => absurd z.1 (Nat.not_lt.mpr h))
theorem mapT_t {α : Type} {k : Nat} {c : Nat → Bool} {g f : Nat → α} {v : α} (h : c k = true) (hv : v = g k) : mapT (k + 1) c g f = va_up (mapT k c g f) k v := by
  funext q
  show (if q < k + 1 ∧ c q = true then g q else f q) = if q = k then v else (if q < k ∧ c q = true then g q else f q)
  by_cases e : q = k
  · subst e; subst hv; rw [if_pos ⟨Nat.lt_succ_self _, h⟩, if_pos rfl]
  · rw [if_neg e]
    by_cases z : q < k ∧ c q = true
    · rw [if_pos z, if_pos ⟨by omega, z.2⟩]
    · rw [if_neg z, if_neg (fun y => z ⟨by omega, y.2⟩)]
theorem mapT_f {α : Type} {k : Nat} {c : Nat → Bool} {g f : Nat → α} (h : c k = false) : mapT (k + 1) c g f = mapT k c g f := by
  funext q
  unfold mapT
  by_cases z : q < k ∧ c q = true
  · rw [if_pos z, if_pos ⟨by omega, z.2⟩]
  · rw [if_neg z, if_neg (fun y => by
      by_cases e : q = k
      · subst e; rw [h] at y; exact absurd y.2 (by decide)
      · exact z ⟨by omega, y.2⟩)]
/-- an array with the places below k put together that c lets stay -/
def tdT {α : Type} (c : Nat → Bool) (f : Nat → α) : Nat → Nat → α
  | 0 => f
  | k + 1 => if c k then va_up (tdT c f k) (cnt k c) (f k) else tdT c f k
theorem tdT_at {α : Type} (c : Nat → Bool) (f : Nat → α) {k q : Nat} (h : k ≤ q) : tdT c f k q = f q := by
  induction k with
  | zero => rfl
  | succ k ih =>
    unfold tdT
    split
    · have := cnt_le k c
      unfold va_up
      rw [if_neg (by omega)]
      exact ih (by omega)
    · exact ih (by omega)
theorem tdT_t {α : Type} {c : Nat → Bool} {f : Nat → α} {k : Nat} {v : α} (h : c k = true) (hv : v = f k) : tdT c f (k + 1) = va_up (tdT c f k) (cnt k c) v := by
  subst hv
  show (if c k then _ else _) = _
  rw [h]
  rfl
theorem tdT_f {α : Type} {c : Nat → Bool} {f : Nat → α} {k : Nat} (h : c k = false) : tdT c f (k + 1) = tdT c f k := by
  show (if c k then _ else _) = _
  rw [h]
  rfl
/-- the bytes of a feed -/
def fdB (a b c d e : Int32) (k : Nat) : Int32 := ((if 4 ≤ k then if 8 ≤ k then if 12 ≤ k then if 16 ≤ k then e else d else c else b else a) >>> (nI (24 - 8 * (k % 4)) &&& 31)).toInt8.toInt32
def fdT (a b c d e : Int32) (f : Nat → Int32) (n : Nat) : Nat → Nat → Int32
  | 0 => f
  | k + 1 => va_up (fdT a b c d e f n k) (n + k) (fdB a b c d e k)
/-- eight bytes -/
def numB (f : Nat → Int32) (q : Nat) : Nat → Int64
  | 0 => 0
  | k + 1 => ((numB f q k) <<< ((8 : Int32).toInt64 &&& 63)) ||| ((f (q + k) &&& 255).toInt64)
def MS.rBlock (x : MS) (n : Nat) : Nat := if x.used + n ≤ 126 then x.block else x.block + 1
def MS.rUsed (x : MS) (n : Nat) : Nat := if x.used + n ≤ 126 then x.used + n else n
def MS.rCut (x : MS) (n : Nat) : Int32 := if x.used + n ≤ 126 ∨ x.fresh = false then x.cutLeft else cutF x.cutLeft
def MS.rWr (x : MS) (n : Nat) : Nat := if x.used + n ≤ 126 ∨ x.fresh = false then x.written else x.written + 1
def MS.rKept (x : MS) (n : Nat) : Nat := if x.used + n ≤ 126 then x.kept else x.records
def MS.hit (x : MS) (w : Nat) (a b : Int64) (q : Nat) : Bool := decide (x.pointSeries q = w) && (x.seen q && (!decide (x.pointTimes q < a) && decide (x.pointTimes q ≤ b)))
theorem d_M_feed_13 : decode prog_14_method_3_code 13 = .ok (.iconst 1, 1) := by decide +kernel
theorem d_M_feed_14 : decode prog_14_method_3_code 14 = .ok (.goto 4, 3) := by decide +kernel
theorem d_M_feed_28 : decode prog_14_method_3_code 28 = .ok (.iconst 0, 1) := by decide +kernel
theorem d_M_feed_29 : decode prog_14_method_3_code 29 = .ok (.ireturn, 1) := by decide +kernel
set_option maxHeartbeats 4000000 in
set_option maxRecDepth 100000 in
theorem k_feed_x (l : Launch) (D : va_G) (dA : Nat → ClassId) (sz : Nat) (h : Nat) (ad : Nat → Nat) (x : MS) (a1 : Int32) (a2 : Int32) (a3 : Int32) (a4 : Int32) (a5 : Int32) (h1 : 65536 < x.length + 20) (h2 : x.length ≤ 65536) : Met l ⟨"SeriesVaultModel", "feed", "(IIIII)I"⟩ [Cond.code ⟨"SeriesVaultModel", "feed", "(IIIII)I"⟩ prog_14_method_3_code 8 (some FieldType.int)] { frames := 1, cells := 0, slots := 0, locals := 0 } (pC D dA [.ref h, .int a1, .int a2, .int a3, .int a4, .int a5] (MW dA h ad x) sz) (va_Qi (fun (r9 : Int32) (u9 : Unit) => r9 = 0) (fun (u9 : Unit) t9 => bW D (va_A (MW dA h ad x) sz) (MW dA h ad (MS.s_cod x 1)) t9) (va_A (MW dA h ad x) sz)) 0 0 (va_A (MW dA h ad x) sz) := by
  refine mkC (y := ⟨"SeriesVaultModel", "feed", "(IIIII)I"⟩) (cc := prog_14_method_3_code) (maxL := 8) (av := [.ref h, .int a1, .int a2, .int a3, .int a4, .int a5]) (ws := MW dA h ad x) (sz := sz) (Qc := fun A => va_Qi (fun (r9 : Int32) (u9 : Unit) => r9 = 0) (fun (u9 : Unit) t9 => bW D A (MW dA h ad (MS.s_cod x 1)) t9) A) (by decide) (Nat.le_of_ble_eq_true rfl) ?_
  intro A p e s m below meth c ls hsz hB
  obtain ⟨hx, hb, hr, hml, hown, hin, hlk, hE, hK, hP, hD, hS, hA, hN, hl⟩ := hB
  have hown : s.vm.findClass "SeriesVaultModel" = some m.cls := hown
  have hl : lv_has ls 8 [(0, .ref h), (1, .int a1), (2, .int a2), (3, .int a3), (4, .int a4), (5, .int a5)] := hl
  obtain ⟨H, hH⟩ : ∃ z, z = s.heap := ⟨_, rfl⟩
  have hP : va_P D vwCl (MW dA h ad x) H := by rw [hH]; exact hP
  have hS : va_S A s.heap H [] := by rw [hH]; exact hS
  rw [← hH]
  refine lv_aload_n hx hb d_M_feed_0 rfl (lv_at hl 0 rfl) ?_
  refine lv_aload_n hx hb d_M_feed_1 rfl (lv_at hl 0 rfl) ?_
  refine gF (v := .int (nI x.length)) hx hb hown hE hK hP 0 rfl rfl layM 2 (by decide) w320 rfl d_M_feed_2 ?_
  refine lv_bipush (v := 20) hx hb d_M_feed_5 (by decide) ?_
  refine lv_iadd hx hb d_M_feed_7 (tpi (y := nI (x.length + 20)) (nI_add (x.length) (20)) ?_)
  refine lv_ldc (v := 65536) hx hb hown (hE.t w495 rfl) d_M_feed_8 ?_
  refine lv_icmp_le hx hb d_M_feed_10 (tgt := 17) rfl (fun h9 => absurd h9 (mt (nI_leI (a := x.length + 20) (b := 65536) (by omega) (by omega)).mp (Nat.not_le.mpr h1))) (fun _ => ?_)
  refine lv_iconst (v := 1) hx hb d_M_feed_13 (by decide) ?_
  refine lv_goto hx hb d_M_feed_14 (tgt := 18) rfl ?_
  refine pF (v := .int 1) hx hb hown hE hK hP hD hS 0 rfl rfl layM tyM tokM nmM 0 (by decide) w319 rfl rfl rfl (Nat.le_of_ble_eq_true rfl) d_M_feed_18 (fun H locs hP hD hS => ?_)
  have hP : va_P D vwCl (MW dA h ad (MS.s_cod x 1)) H := hP
  have hD : va_D A (MW dA h ad (MS.s_cod x 1)) := hD
  refine lv_aload_n hx hb d_M_feed_21 rfl (lv_at hl 0 rfl) ?_
  refine gF (v := .int 1) hx hb hown hE hK hP 0 rfl rfl layM 0 (by decide) w319 rfl d_M_feed_22 ?_
  refine lv_if_le hx hb d_M_feed_25 (tgt := 30) rfl (fun h9 => absurd h9 (by decide)) (fun _ => ?_)
  refine lv_iconst (v := 0) hx hb d_M_feed_28 (by decide) ?_
  exact rfI hx hb hr hlk hS () rfl hP hD (Nat.le_of_ble_eq_true rfl) (Nat.le_of_ble_eq_true rfl) d_M_feed_29
set_option maxHeartbeats 4000000 in
set_option maxRecDepth 100000 in
theorem k_feed (l : Launch) (D : va_G) (dA : Nat → ClassId) (sz : Nat) (h : Nat) (ad : Nat → Nat) (x : MS) (a1 : Int32) (a2 : Int32) (a3 : Int32) (a4 : Int32) (a5 : Int32) (h1 : x.length + 20 ≤ 65536) : Met l ⟨"SeriesVaultModel", "feed", "(IIIII)I"⟩ [Cond.code ⟨"SeriesVaultModel", "feed", "(IIIII)I"⟩ prog_14_method_3_code 8 (some FieldType.int)] { frames := 1, cells := 0, slots := 0, locals := 0 } (pC D dA [.ref h, .int a1, .int a2, .int a3, .int a4, .int a5] (MW dA h ad x) sz) (va_Qi (fun (r9 : Int32) (u9 : Unit) => r9 = nI (x.length + 20)) (fun (u9 : Unit) t9 => bW D (va_A (MW dA h ad x) sz) (MW dA h ad (MS.s_length (MS.s_tape (MS.s_cod x 0) (fdT a1 a2 a3 a4 a5 x.tape x.length 20)) (x.length + 20))) t9) (va_A (MW dA h ad x) sz)) 0 0 (va_A (MW dA h ad x) sz) := by
  refine mkC (y := ⟨"SeriesVaultModel", "feed", "(IIIII)I"⟩) (cc := prog_14_method_3_code) (maxL := 8) (av := [.ref h, .int a1, .int a2, .int a3, .int a4, .int a5]) (ws := MW dA h ad x) (sz := sz) (Qc := fun A => va_Qi (fun (r9 : Int32) (u9 : Unit) => r9 = nI (x.length + 20)) (fun (u9 : Unit) t9 => bW D A (MW dA h ad (MS.s_length (MS.s_tape (MS.s_cod x 0) (fdT a1 a2 a3 a4 a5 x.tape x.length 20)) (x.length + 20))) t9) A) (by decide) (Nat.le_of_ble_eq_true rfl) ?_
  intro A p e s m below meth c ls hsz hB
  obtain ⟨hx, hb, hr, hml, hown, hin, hlk, hE, hK, hP, hD, hS, hA, hN, hl⟩ := hB
  have hown : s.vm.findClass "SeriesVaultModel" = some m.cls := hown
  have hl : lv_has ls 8 [(0, .ref h), (1, .int a1), (2, .int a2), (3, .int a3), (4, .int a4), (5, .int a5)] := hl
  obtain ⟨H, hH⟩ : ∃ z, z = s.heap := ⟨_, rfl⟩
  have hP : va_P D vwCl (MW dA h ad x) H := by rw [hH]; exact hP
  have hS : va_S A s.heap H [] := by rw [hH]; exact hS
  rw [← hH]
  refine lv_aload_n hx hb d_M_feed_0 rfl (lv_at hl 0 rfl) ?_
  refine lv_aload_n hx hb d_M_feed_1 rfl (lv_at hl 0 rfl) ?_
  refine gF (v := .int (nI x.length)) hx hb hown hE hK hP 0 rfl rfl layM 2 (by decide) w320 rfl d_M_feed_2 ?_
  refine lv_bipush (v := 20) hx hb d_M_feed_5 (by decide) ?_
  refine lv_iadd hx hb d_M_feed_7 (tpi (y := nI (x.length + 20)) (nI_add (x.length) (20)) ?_)
  refine lv_ldc (v := 65536) hx hb hown (hE.t w495 rfl) d_M_feed_8 ?_
  refine lv_icmp_le hx hb d_M_feed_10 (tgt := 17) rfl (fun _ => ?_) (fun h9 => absurd ((nI_leI (a := x.length + 20) (b := 65536) (by omega) (by omega)).mpr h1) h9)
  refine lv_iconst (v := 0) hx hb d_M_feed_17 (by decide) ?_
  refine pF (v := .int 0) hx hb hown hE hK hP hD hS 0 rfl rfl layM tyM tokM nmM 0 (by decide) w319 rfl rfl rfl (Nat.le_of_ble_eq_true rfl) d_M_feed_18 (fun H locs hP hD hS => ?_)
  have hP : va_P D vwCl (MW dA h ad (MS.s_cod x 0)) H := hP
  have hD : va_D A (MW dA h ad (MS.s_cod x 0)) := hD
  refine lv_aload_n hx hb d_M_feed_21 rfl (lv_at hl 0 rfl) ?_
  refine gF (v := .int 0) hx hb hown hE hK hP 0 rfl rfl layM 0 (by decide) w319 rfl d_M_feed_22 ?_
  refine lv_if_le hx hb d_M_feed_25 (tgt := 30) rfl (fun _ => ?_) (fun h9 => absurd (by decide) h9)
  refine lv_iconst (v := 0) hx hb d_M_feed_30 (by decide) ?_
  refine lv_istore hx hb d_M_feed_31 hl (by decide) rfl (fun ls hl => ?_)
  have hl : lv_has ls 8 [(6, .int 0), (0, .ref h), (1, .int a1), (2, .int a2), (3, .int a3), (4, .int a4), (5, .int a5)] := hl
  have L33 : ∀ (k9 : Nat) (k : Nat) (i1 : k ≤ 20) (hk9 : 20 - k = k9), ∀ (H : Heap) (locs : List Loc) (ls : Array Slot) (hP : va_P D vwCl (MW dA h ad (MS.s_length (MS.s_tape (MS.s_cod x 0) (fdT a1 a2 a3 a4 a5 x.tape x.length k)) (x.length + k))) H) (hD : va_D A (MW dA h ad (MS.s_length (MS.s_tape (MS.s_cod x 0) (fdT a1 a2 a3 a4 a5 x.tape x.length k)) (x.length + k)))) (hS : va_S A s.heap H locs) (hl : lv_has ls 8 [(6, .int (nI k)), (0, .ref h), (1, .int a1), (2, .int a2), (3, .int a3), (4, .int a4), (5, .int a5)]), W p l e ({ frames := 1, cells := 0, slots := 0, locals := 0 } : Room) s m ([.ref h, .int a1, .int a2, .int a3, .int a4, .int a5] : List Value).toArray below meth c H locs 0 0 (MQ below (va_Qi (fun (r9 : Int32) (u9 : Unit) => r9 = nI (x.length + 20)) (fun (u9 : Unit) t9 => bW D A (MW dA h ad (MS.s_length (MS.s_tape (MS.s_cod x 0) (fdT a1 a2 a3 a4 a5 x.tape x.length 20)) (x.length + 20))) t9) A) ([.ref h, .int a1, .int a2, .int a3, .int a4, .int a5] : List Value).toArray s 0 0 A) (F0 m 33 ls []) := by
    intro k9
    induction k9 using Nat.strongRecOn with
    | ind k9 ih33 =>
      intro k i1 hk9 H locs ls hP hD hS hl
      refine lv_iload hx hb d_M_feed_33 (lv_at hl 0 rfl) ?_
      refine lv_bipush (v := 20) hx hb d_M_feed_35 (by decide) ?_
      refine lv_icmp_ge hx hb d_M_feed_37 (tgt := 127) rfl (fun g1 => ?_) (fun g1 => ?_)
      · have g1 := (nI_leI (a := 20) (b := k) (by omega) (by omega)).mp g1
        refine lv_aload_n hx hb d_M_feed_127 rfl (lv_at hl 1 rfl) ?_
        refine gF (v := .int (nI (x.length + k))) hx hb hown hE hK hP 0 rfl rfl layM 2 (by decide) w320 rfl d_M_feed_128 ?_
        have e9 : (MS.s_length (MS.s_tape (MS.s_cod x 0) (fdT a1 a2 a3 a4 a5 x.tape x.length k)) (x.length + k) : MS) = MS.s_length (MS.s_tape (MS.s_cod x 0) (fdT a1 a2 a3 a4 a5 x.tape x.length 20)) (x.length + 20) := by rw [show (fdT a1 a2 a3 a4 a5 x.tape x.length 20) = (fdT a1 a2 a3 a4 a5 x.tape x.length k) from by (rw [show k = 20 by omega]), show (x.length + 20) = (x.length + k) from by (rw [show k = 20 by omega])] <;> rfl
        exact rfI hx hb hr hlk hS () (by rw [show k = 20 by omega]) (cvP e9 hP) (cvD e9 hD) (Nat.le_of_ble_eq_true rfl) (Nat.le_of_ble_eq_true rfl) d_M_feed_131
      · have g1 := mt (nI_leI (a := 20) (b := k) (by omega) (by omega)).mpr g1
        refine lv_iload hx hb d_M_feed_40 (lv_at hl 0 rfl) ?_
        refine lv_iconst (v := 4) hx hb d_M_feed_42 (by decide) ?_
        refine lv_icmp_ge hx hb d_M_feed_43 (tgt := 50) rfl (fun g2 => ?_) (fun g2 => ?_)
        · have g2 := (nI_leI (a := 4) (b := k) (by omega) (by omega)).mp g2
          refine lv_iload hx hb d_M_feed_50 (lv_at hl 0 rfl) ?_
          refine lv_bipush (v := 8) hx hb d_M_feed_52 (by decide) ?_
          refine lv_icmp_ge hx hb d_M_feed_54 (tgt := 61) rfl (fun g3 => ?_) (fun g3 => ?_)
          · have g3 := (nI_leI (a := 8) (b := k) (by omega) (by omega)).mp g3
            refine lv_iload hx hb d_M_feed_61 (lv_at hl 0 rfl) ?_
            refine lv_bipush (v := 12) hx hb d_M_feed_63 (by decide) ?_
            refine lv_icmp_ge hx hb d_M_feed_65 (tgt := 72) rfl (fun g4 => ?_) (fun g4 => ?_)
            · have g4 := (nI_leI (a := 12) (b := k) (by omega) (by omega)).mp g4
              refine lv_iload hx hb d_M_feed_72 (lv_at hl 0 rfl) ?_
              refine lv_bipush (v := 16) hx hb d_M_feed_74 (by decide) ?_
              refine lv_icmp_ge hx hb d_M_feed_76 (tgt := 84) rfl (fun g5 => ?_) (fun g5 => ?_)
              · have g5 := (nI_leI (a := 16) (b := k) (by omega) (by omega)).mp g5
                refine lv_iload hx hb d_M_feed_84 (lv_at hl 6 rfl) ?_
                refine lv_istore hx hb d_M_feed_86 hl (by decide) rfl (fun ls hl => ?_)
                have hl : lv_has ls 8 [(7, .int a5), (6, .int (nI k)), (0, .ref h), (1, .int a1), (2, .int a2), (3, .int a3), (4, .int a4), (5, .int a5)] := hl
                refine lv_aload_n hx hb d_M_feed_88 rfl (lv_at hl 2 rfl) ?_
                refine gF (v := .ref (ad 1)) hx hb hown hE hK hP 0 rfl rfl layM 1 (by decide) w497 rfl d_M_feed_89 ?_
                refine lv_aload_n hx hb d_M_feed_92 rfl (lv_at hl 2 rfl) ?_
                refine gF (v := .int (nI (x.length + k))) hx hb hown hE hK hP 0 rfl rfl layM 2 (by decide) w320 rfl d_M_feed_93 ?_
                refine lv_iload hx hb d_M_feed_96 (lv_at hl 0 rfl) ?_
                refine lv_bipush (v := 24) hx hb d_M_feed_98 (by decide) ?_
                refine lv_bipush (v := 8) hx hb d_M_feed_100 (by decide) ?_
                refine lv_iload hx hb d_M_feed_102 (lv_at hl 1 rfl) ?_
                refine lv_iconst (v := 4) hx hb d_M_feed_104 (by decide) ?_
                refine lv_irem hx hb d_M_feed_105 (by decide) (tpi (y := nI (k % 4)) (pk_rem (a := k) (d := 4) (by omega) (by omega) (by omega)) ?_)
                refine lv_imul hx hb d_M_feed_106 (tpi (y := nI (8 * (k % 4))) (pk_mul (8) (k % 4)) ?_)
                refine lv_isub hx hb d_M_feed_107 (tpi (y := nI (24 - (8 * (k % 4)))) (pk_sub (a := 24) (b := 8 * (k % 4)) (by omega)) ?_)
                refine lv_ishr hx hb d_M_feed_108 ?_
                refine lv_i2b hx hb d_M_feed_109 rfl ?_
                refine nbst hx hb hK hP hD hS 1 0 rfl rfl (x.length + k) (by omega) (by decide) ((a5 >>> (nI (24 - (8 * (k % 4))) &&& 31)).toInt8.toInt32) (pk_vb _) d_M_feed_110 (fun H locs hP hD hS => ?_)
                have hP : va_P D vwCl (MW dA h ad (MS.s_length (MS.s_tape (MS.s_cod x 0) (va_up (fdT a1 a2 a3 a4 a5 x.tape x.length k) (x.length + k) ((a5 >>> (nI (24 - (8 * (k % 4))) &&& 31)).toInt8.toInt32))) (x.length + k))) H := hP
                have hD : va_D A (MW dA h ad (MS.s_length (MS.s_tape (MS.s_cod x 0) (va_up (fdT a1 a2 a3 a4 a5 x.tape x.length k) (x.length + k) ((a5 >>> (nI (24 - (8 * (k % 4))) &&& 31)).toInt8.toInt32))) (x.length + k))) := hD
                refine lv_aload_n hx hb d_M_feed_111 rfl (lv_at hl 2 rfl) ?_
                refine lv_dup hx hb d_M_feed_112 rfl ?_
                refine gF (v := .int (nI (x.length + k))) hx hb hown hE hK hP 0 rfl rfl layM 2 (by decide) w320 rfl d_M_feed_113 ?_
                refine lv_iconst (v := 1) hx hb d_M_feed_116 (by decide) ?_
                refine lv_iadd hx hb d_M_feed_117 (tpi (y := nI (x.length + k + 1)) (nI_add (x.length + k) (1)) ?_)
                refine pF (v := .int (nI (x.length + k + 1))) hx hb hown hE hK hP hD hS 0 rfl rfl layM tyM tokM nmM 2 (by decide) w320 rfl rfl rfl (Nat.le_of_ble_eq_true rfl) d_M_feed_118 (fun H locs hP hD hS => ?_)
                have hP : va_P D vwCl (MW dA h ad (MS.s_length (MS.s_tape (MS.s_cod x 0) (va_up (fdT a1 a2 a3 a4 a5 x.tape x.length k) (x.length + k) ((a5 >>> (nI (24 - (8 * (k % 4))) &&& 31)).toInt8.toInt32))) (x.length + k + 1))) H := hP
                have hD : va_D A (MW dA h ad (MS.s_length (MS.s_tape (MS.s_cod x 0) (va_up (fdT a1 a2 a3 a4 a5 x.tape x.length k) (x.length + k) ((a5 >>> (nI (24 - (8 * (k % 4))) &&& 31)).toInt8.toInt32))) (x.length + k + 1))) := hD
                refine lv_iinc (k := 1) (v := nI (k + 1)) hx hb d_M_feed_121 hl rfl (iincN (k) 1 1 (by decide)) (by decide) rfl (fun ls hl => ?_)
                have hl : lv_has ls 8 [(6, .int (nI (k + 1))), (7, .int a5), (0, .ref h), (1, .int a1), (2, .int a2), (3, .int a3), (4, .int a4), (5, .int a5)] := hl
                refine lv_goto hx hb d_M_feed_124 (tgt := 33) rfl ?_
                have e9 : (MS.s_length (MS.s_tape (MS.s_cod x 0) (va_up (fdT a1 a2 a3 a4 a5 x.tape x.length k) (x.length + k) ((a5 >>> (nI (24 - (8 * (k % 4))) &&& 31)).toInt8.toInt32))) (x.length + k + 1) : MS) = MS.s_length (MS.s_tape (MS.s_cod x 0) (fdT a1 a2 a3 a4 a5 x.tape x.length (k + 1))) (x.length + (k + 1)) := by rw [show (fdT a1 a2 a3 a4 a5 x.tape x.length (k + 1)) = (va_up (fdT a1 a2 a3 a4 a5 x.tape x.length k) (x.length + k) ((a5 >>> (nI (24 - (8 * (k % 4))) &&& 31)).toInt8.toInt32)) from (by simp [fdT, fdB, *])] <;> rfl
                exact ih33 _ (by omega) (k + 1) (by omega) rfl H _ ls (cvP e9 hP) (cvD e9 hD) hS (lv_sub hl [0, 2, 3, 4, 5, 6, 7] rfl)
              · have g5 := mt (nI_leI (a := 16) (b := k) (by omega) (by omega)).mpr g5
                refine lv_iload hx hb d_M_feed_79 (lv_at hl 5 rfl) ?_
                refine lv_goto hx hb d_M_feed_81 (tgt := 86) rfl ?_
                refine lv_istore hx hb d_M_feed_86 hl (by decide) rfl (fun ls hl => ?_)
                have hl : lv_has ls 8 [(7, .int a4), (6, .int (nI k)), (0, .ref h), (1, .int a1), (2, .int a2), (3, .int a3), (4, .int a4), (5, .int a5)] := hl
                refine lv_aload_n hx hb d_M_feed_88 rfl (lv_at hl 2 rfl) ?_
                refine gF (v := .ref (ad 1)) hx hb hown hE hK hP 0 rfl rfl layM 1 (by decide) w497 rfl d_M_feed_89 ?_
                refine lv_aload_n hx hb d_M_feed_92 rfl (lv_at hl 2 rfl) ?_
                refine gF (v := .int (nI (x.length + k))) hx hb hown hE hK hP 0 rfl rfl layM 2 (by decide) w320 rfl d_M_feed_93 ?_
                refine lv_iload hx hb d_M_feed_96 (lv_at hl 0 rfl) ?_
                refine lv_bipush (v := 24) hx hb d_M_feed_98 (by decide) ?_
                refine lv_bipush (v := 8) hx hb d_M_feed_100 (by decide) ?_
                refine lv_iload hx hb d_M_feed_102 (lv_at hl 1 rfl) ?_
                refine lv_iconst (v := 4) hx hb d_M_feed_104 (by decide) ?_
                refine lv_irem hx hb d_M_feed_105 (by decide) (tpi (y := nI (k % 4)) (pk_rem (a := k) (d := 4) (by omega) (by omega) (by omega)) ?_)
                refine lv_imul hx hb d_M_feed_106 (tpi (y := nI (8 * (k % 4))) (pk_mul (8) (k % 4)) ?_)
                refine lv_isub hx hb d_M_feed_107 (tpi (y := nI (24 - (8 * (k % 4)))) (pk_sub (a := 24) (b := 8 * (k % 4)) (by omega)) ?_)
                refine lv_ishr hx hb d_M_feed_108 ?_
                refine lv_i2b hx hb d_M_feed_109 rfl ?_
                refine nbst hx hb hK hP hD hS 1 0 rfl rfl (x.length + k) (by omega) (by decide) ((a4 >>> (nI (24 - (8 * (k % 4))) &&& 31)).toInt8.toInt32) (pk_vb _) d_M_feed_110 (fun H locs hP hD hS => ?_)
                have hP : va_P D vwCl (MW dA h ad (MS.s_length (MS.s_tape (MS.s_cod x 0) (va_up (fdT a1 a2 a3 a4 a5 x.tape x.length k) (x.length + k) ((a4 >>> (nI (24 - (8 * (k % 4))) &&& 31)).toInt8.toInt32))) (x.length + k))) H := hP
                have hD : va_D A (MW dA h ad (MS.s_length (MS.s_tape (MS.s_cod x 0) (va_up (fdT a1 a2 a3 a4 a5 x.tape x.length k) (x.length + k) ((a4 >>> (nI (24 - (8 * (k % 4))) &&& 31)).toInt8.toInt32))) (x.length + k))) := hD
                refine lv_aload_n hx hb d_M_feed_111 rfl (lv_at hl 2 rfl) ?_
                refine lv_dup hx hb d_M_feed_112 rfl ?_
                refine gF (v := .int (nI (x.length + k))) hx hb hown hE hK hP 0 rfl rfl layM 2 (by decide) w320 rfl d_M_feed_113 ?_
                refine lv_iconst (v := 1) hx hb d_M_feed_116 (by decide) ?_
                refine lv_iadd hx hb d_M_feed_117 (tpi (y := nI (x.length + k + 1)) (nI_add (x.length + k) (1)) ?_)
                refine pF (v := .int (nI (x.length + k + 1))) hx hb hown hE hK hP hD hS 0 rfl rfl layM tyM tokM nmM 2 (by decide) w320 rfl rfl rfl (Nat.le_of_ble_eq_true rfl) d_M_feed_118 (fun H locs hP hD hS => ?_)
                have hP : va_P D vwCl (MW dA h ad (MS.s_length (MS.s_tape (MS.s_cod x 0) (va_up (fdT a1 a2 a3 a4 a5 x.tape x.length k) (x.length + k) ((a4 >>> (nI (24 - (8 * (k % 4))) &&& 31)).toInt8.toInt32))) (x.length + k + 1))) H := hP
                have hD : va_D A (MW dA h ad (MS.s_length (MS.s_tape (MS.s_cod x 0) (va_up (fdT a1 a2 a3 a4 a5 x.tape x.length k) (x.length + k) ((a4 >>> (nI (24 - (8 * (k % 4))) &&& 31)).toInt8.toInt32))) (x.length + k + 1))) := hD
                refine lv_iinc (k := 1) (v := nI (k + 1)) hx hb d_M_feed_121 hl rfl (iincN (k) 1 1 (by decide)) (by decide) rfl (fun ls hl => ?_)
                have hl : lv_has ls 8 [(6, .int (nI (k + 1))), (7, .int a4), (0, .ref h), (1, .int a1), (2, .int a2), (3, .int a3), (4, .int a4), (5, .int a5)] := hl
                refine lv_goto hx hb d_M_feed_124 (tgt := 33) rfl ?_
                have e9 : (MS.s_length (MS.s_tape (MS.s_cod x 0) (va_up (fdT a1 a2 a3 a4 a5 x.tape x.length k) (x.length + k) ((a4 >>> (nI (24 - (8 * (k % 4))) &&& 31)).toInt8.toInt32))) (x.length + k + 1) : MS) = MS.s_length (MS.s_tape (MS.s_cod x 0) (fdT a1 a2 a3 a4 a5 x.tape x.length (k + 1))) (x.length + (k + 1)) := by rw [show (fdT a1 a2 a3 a4 a5 x.tape x.length (k + 1)) = (va_up (fdT a1 a2 a3 a4 a5 x.tape x.length k) (x.length + k) ((a4 >>> (nI (24 - (8 * (k % 4))) &&& 31)).toInt8.toInt32)) from (by simp [fdT, fdB, *])] <;> rfl
                exact ih33 _ (by omega) (k + 1) (by omega) rfl H _ ls (cvP e9 hP) (cvD e9 hD) hS (lv_sub hl [0, 2, 3, 4, 5, 6, 7] rfl)
            · have g4 := mt (nI_leI (a := 12) (b := k) (by omega) (by omega)).mpr g4
              refine lv_iload_n hx hb d_M_feed_68 rfl (lv_at hl 4 rfl) ?_
              refine lv_goto hx hb d_M_feed_69 (tgt := 86) rfl ?_
              refine lv_istore hx hb d_M_feed_86 hl (by decide) rfl (fun ls hl => ?_)
              have hl : lv_has ls 8 [(7, .int a3), (6, .int (nI k)), (0, .ref h), (1, .int a1), (2, .int a2), (3, .int a3), (4, .int a4), (5, .int a5)] := hl
              refine lv_aload_n hx hb d_M_feed_88 rfl (lv_at hl 2 rfl) ?_
              refine gF (v := .ref (ad 1)) hx hb hown hE hK hP 0 rfl rfl layM 1 (by decide) w497 rfl d_M_feed_89 ?_
              refine lv_aload_n hx hb d_M_feed_92 rfl (lv_at hl 2 rfl) ?_
              refine gF (v := .int (nI (x.length + k))) hx hb hown hE hK hP 0 rfl rfl layM 2 (by decide) w320 rfl d_M_feed_93 ?_
              refine lv_iload hx hb d_M_feed_96 (lv_at hl 0 rfl) ?_
              refine lv_bipush (v := 24) hx hb d_M_feed_98 (by decide) ?_
              refine lv_bipush (v := 8) hx hb d_M_feed_100 (by decide) ?_
              refine lv_iload hx hb d_M_feed_102 (lv_at hl 1 rfl) ?_
              refine lv_iconst (v := 4) hx hb d_M_feed_104 (by decide) ?_
              refine lv_irem hx hb d_M_feed_105 (by decide) (tpi (y := nI (k % 4)) (pk_rem (a := k) (d := 4) (by omega) (by omega) (by omega)) ?_)
              refine lv_imul hx hb d_M_feed_106 (tpi (y := nI (8 * (k % 4))) (pk_mul (8) (k % 4)) ?_)
              refine lv_isub hx hb d_M_feed_107 (tpi (y := nI (24 - (8 * (k % 4)))) (pk_sub (a := 24) (b := 8 * (k % 4)) (by omega)) ?_)
              refine lv_ishr hx hb d_M_feed_108 ?_
              refine lv_i2b hx hb d_M_feed_109 rfl ?_
              refine nbst hx hb hK hP hD hS 1 0 rfl rfl (x.length + k) (by omega) (by decide) ((a3 >>> (nI (24 - (8 * (k % 4))) &&& 31)).toInt8.toInt32) (pk_vb _) d_M_feed_110 (fun H locs hP hD hS => ?_)
              have hP : va_P D vwCl (MW dA h ad (MS.s_length (MS.s_tape (MS.s_cod x 0) (va_up (fdT a1 a2 a3 a4 a5 x.tape x.length k) (x.length + k) ((a3 >>> (nI (24 - (8 * (k % 4))) &&& 31)).toInt8.toInt32))) (x.length + k))) H := hP
              have hD : va_D A (MW dA h ad (MS.s_length (MS.s_tape (MS.s_cod x 0) (va_up (fdT a1 a2 a3 a4 a5 x.tape x.length k) (x.length + k) ((a3 >>> (nI (24 - (8 * (k % 4))) &&& 31)).toInt8.toInt32))) (x.length + k))) := hD
              refine lv_aload_n hx hb d_M_feed_111 rfl (lv_at hl 2 rfl) ?_
              refine lv_dup hx hb d_M_feed_112 rfl ?_
              refine gF (v := .int (nI (x.length + k))) hx hb hown hE hK hP 0 rfl rfl layM 2 (by decide) w320 rfl d_M_feed_113 ?_
              refine lv_iconst (v := 1) hx hb d_M_feed_116 (by decide) ?_
              refine lv_iadd hx hb d_M_feed_117 (tpi (y := nI (x.length + k + 1)) (nI_add (x.length + k) (1)) ?_)
              refine pF (v := .int (nI (x.length + k + 1))) hx hb hown hE hK hP hD hS 0 rfl rfl layM tyM tokM nmM 2 (by decide) w320 rfl rfl rfl (Nat.le_of_ble_eq_true rfl) d_M_feed_118 (fun H locs hP hD hS => ?_)
              have hP : va_P D vwCl (MW dA h ad (MS.s_length (MS.s_tape (MS.s_cod x 0) (va_up (fdT a1 a2 a3 a4 a5 x.tape x.length k) (x.length + k) ((a3 >>> (nI (24 - (8 * (k % 4))) &&& 31)).toInt8.toInt32))) (x.length + k + 1))) H := hP
              have hD : va_D A (MW dA h ad (MS.s_length (MS.s_tape (MS.s_cod x 0) (va_up (fdT a1 a2 a3 a4 a5 x.tape x.length k) (x.length + k) ((a3 >>> (nI (24 - (8 * (k % 4))) &&& 31)).toInt8.toInt32))) (x.length + k + 1))) := hD
              refine lv_iinc (k := 1) (v := nI (k + 1)) hx hb d_M_feed_121 hl rfl (iincN (k) 1 1 (by decide)) (by decide) rfl (fun ls hl => ?_)
              have hl : lv_has ls 8 [(6, .int (nI (k + 1))), (7, .int a3), (0, .ref h), (1, .int a1), (2, .int a2), (3, .int a3), (4, .int a4), (5, .int a5)] := hl
              refine lv_goto hx hb d_M_feed_124 (tgt := 33) rfl ?_
              have e9 : (MS.s_length (MS.s_tape (MS.s_cod x 0) (va_up (fdT a1 a2 a3 a4 a5 x.tape x.length k) (x.length + k) ((a3 >>> (nI (24 - (8 * (k % 4))) &&& 31)).toInt8.toInt32))) (x.length + k + 1) : MS) = MS.s_length (MS.s_tape (MS.s_cod x 0) (fdT a1 a2 a3 a4 a5 x.tape x.length (k + 1))) (x.length + (k + 1)) := by rw [show (fdT a1 a2 a3 a4 a5 x.tape x.length (k + 1)) = (va_up (fdT a1 a2 a3 a4 a5 x.tape x.length k) (x.length + k) ((a3 >>> (nI (24 - (8 * (k % 4))) &&& 31)).toInt8.toInt32)) from (by simp [fdT, fdB, *])] <;> rfl
              exact ih33 _ (by omega) (k + 1) (by omega) rfl H _ ls (cvP e9 hP) (cvD e9 hD) hS (lv_sub hl [0, 2, 3, 4, 5, 6, 7] rfl)
          · have g3 := mt (nI_leI (a := 8) (b := k) (by omega) (by omega)).mpr g3
            refine lv_iload_n hx hb d_M_feed_57 rfl (lv_at hl 3 rfl) ?_
            refine lv_goto hx hb d_M_feed_58 (tgt := 86) rfl ?_
            refine lv_istore hx hb d_M_feed_86 hl (by decide) rfl (fun ls hl => ?_)
            have hl : lv_has ls 8 [(7, .int a2), (6, .int (nI k)), (0, .ref h), (1, .int a1), (2, .int a2), (3, .int a3), (4, .int a4), (5, .int a5)] := hl
            refine lv_aload_n hx hb d_M_feed_88 rfl (lv_at hl 2 rfl) ?_
            refine gF (v := .ref (ad 1)) hx hb hown hE hK hP 0 rfl rfl layM 1 (by decide) w497 rfl d_M_feed_89 ?_
            refine lv_aload_n hx hb d_M_feed_92 rfl (lv_at hl 2 rfl) ?_
            refine gF (v := .int (nI (x.length + k))) hx hb hown hE hK hP 0 rfl rfl layM 2 (by decide) w320 rfl d_M_feed_93 ?_
            refine lv_iload hx hb d_M_feed_96 (lv_at hl 0 rfl) ?_
            refine lv_bipush (v := 24) hx hb d_M_feed_98 (by decide) ?_
            refine lv_bipush (v := 8) hx hb d_M_feed_100 (by decide) ?_
            refine lv_iload hx hb d_M_feed_102 (lv_at hl 1 rfl) ?_
            refine lv_iconst (v := 4) hx hb d_M_feed_104 (by decide) ?_
            refine lv_irem hx hb d_M_feed_105 (by decide) (tpi (y := nI (k % 4)) (pk_rem (a := k) (d := 4) (by omega) (by omega) (by omega)) ?_)
            refine lv_imul hx hb d_M_feed_106 (tpi (y := nI (8 * (k % 4))) (pk_mul (8) (k % 4)) ?_)
            refine lv_isub hx hb d_M_feed_107 (tpi (y := nI (24 - (8 * (k % 4)))) (pk_sub (a := 24) (b := 8 * (k % 4)) (by omega)) ?_)
            refine lv_ishr hx hb d_M_feed_108 ?_
            refine lv_i2b hx hb d_M_feed_109 rfl ?_
            refine nbst hx hb hK hP hD hS 1 0 rfl rfl (x.length + k) (by omega) (by decide) ((a2 >>> (nI (24 - (8 * (k % 4))) &&& 31)).toInt8.toInt32) (pk_vb _) d_M_feed_110 (fun H locs hP hD hS => ?_)
            have hP : va_P D vwCl (MW dA h ad (MS.s_length (MS.s_tape (MS.s_cod x 0) (va_up (fdT a1 a2 a3 a4 a5 x.tape x.length k) (x.length + k) ((a2 >>> (nI (24 - (8 * (k % 4))) &&& 31)).toInt8.toInt32))) (x.length + k))) H := hP
            have hD : va_D A (MW dA h ad (MS.s_length (MS.s_tape (MS.s_cod x 0) (va_up (fdT a1 a2 a3 a4 a5 x.tape x.length k) (x.length + k) ((a2 >>> (nI (24 - (8 * (k % 4))) &&& 31)).toInt8.toInt32))) (x.length + k))) := hD
            refine lv_aload_n hx hb d_M_feed_111 rfl (lv_at hl 2 rfl) ?_
            refine lv_dup hx hb d_M_feed_112 rfl ?_
            refine gF (v := .int (nI (x.length + k))) hx hb hown hE hK hP 0 rfl rfl layM 2 (by decide) w320 rfl d_M_feed_113 ?_
            refine lv_iconst (v := 1) hx hb d_M_feed_116 (by decide) ?_
            refine lv_iadd hx hb d_M_feed_117 (tpi (y := nI (x.length + k + 1)) (nI_add (x.length + k) (1)) ?_)
            refine pF (v := .int (nI (x.length + k + 1))) hx hb hown hE hK hP hD hS 0 rfl rfl layM tyM tokM nmM 2 (by decide) w320 rfl rfl rfl (Nat.le_of_ble_eq_true rfl) d_M_feed_118 (fun H locs hP hD hS => ?_)
            have hP : va_P D vwCl (MW dA h ad (MS.s_length (MS.s_tape (MS.s_cod x 0) (va_up (fdT a1 a2 a3 a4 a5 x.tape x.length k) (x.length + k) ((a2 >>> (nI (24 - (8 * (k % 4))) &&& 31)).toInt8.toInt32))) (x.length + k + 1))) H := hP
            have hD : va_D A (MW dA h ad (MS.s_length (MS.s_tape (MS.s_cod x 0) (va_up (fdT a1 a2 a3 a4 a5 x.tape x.length k) (x.length + k) ((a2 >>> (nI (24 - (8 * (k % 4))) &&& 31)).toInt8.toInt32))) (x.length + k + 1))) := hD
            refine lv_iinc (k := 1) (v := nI (k + 1)) hx hb d_M_feed_121 hl rfl (iincN (k) 1 1 (by decide)) (by decide) rfl (fun ls hl => ?_)
            have hl : lv_has ls 8 [(6, .int (nI (k + 1))), (7, .int a2), (0, .ref h), (1, .int a1), (2, .int a2), (3, .int a3), (4, .int a4), (5, .int a5)] := hl
            refine lv_goto hx hb d_M_feed_124 (tgt := 33) rfl ?_
            have e9 : (MS.s_length (MS.s_tape (MS.s_cod x 0) (va_up (fdT a1 a2 a3 a4 a5 x.tape x.length k) (x.length + k) ((a2 >>> (nI (24 - (8 * (k % 4))) &&& 31)).toInt8.toInt32))) (x.length + k + 1) : MS) = MS.s_length (MS.s_tape (MS.s_cod x 0) (fdT a1 a2 a3 a4 a5 x.tape x.length (k + 1))) (x.length + (k + 1)) := by rw [show (fdT a1 a2 a3 a4 a5 x.tape x.length (k + 1)) = (va_up (fdT a1 a2 a3 a4 a5 x.tape x.length k) (x.length + k) ((a2 >>> (nI (24 - (8 * (k % 4))) &&& 31)).toInt8.toInt32)) from (by simp [fdT, fdB, *])] <;> rfl
            exact ih33 _ (by omega) (k + 1) (by omega) rfl H _ ls (cvP e9 hP) (cvD e9 hD) hS (lv_sub hl [0, 2, 3, 4, 5, 6, 7] rfl)
        · have g2 := mt (nI_leI (a := 4) (b := k) (by omega) (by omega)).mpr g2
          refine lv_iload_n hx hb d_M_feed_46 rfl (lv_at hl 2 rfl) ?_
          refine lv_goto hx hb d_M_feed_47 (tgt := 86) rfl ?_
          refine lv_istore hx hb d_M_feed_86 hl (by decide) rfl (fun ls hl => ?_)
          have hl : lv_has ls 8 [(7, .int a1), (6, .int (nI k)), (0, .ref h), (1, .int a1), (2, .int a2), (3, .int a3), (4, .int a4), (5, .int a5)] := hl
          refine lv_aload_n hx hb d_M_feed_88 rfl (lv_at hl 2 rfl) ?_
          refine gF (v := .ref (ad 1)) hx hb hown hE hK hP 0 rfl rfl layM 1 (by decide) w497 rfl d_M_feed_89 ?_
          refine lv_aload_n hx hb d_M_feed_92 rfl (lv_at hl 2 rfl) ?_
          refine gF (v := .int (nI (x.length + k))) hx hb hown hE hK hP 0 rfl rfl layM 2 (by decide) w320 rfl d_M_feed_93 ?_
          refine lv_iload hx hb d_M_feed_96 (lv_at hl 0 rfl) ?_
          refine lv_bipush (v := 24) hx hb d_M_feed_98 (by decide) ?_
          refine lv_bipush (v := 8) hx hb d_M_feed_100 (by decide) ?_
          refine lv_iload hx hb d_M_feed_102 (lv_at hl 1 rfl) ?_
          refine lv_iconst (v := 4) hx hb d_M_feed_104 (by decide) ?_
          refine lv_irem hx hb d_M_feed_105 (by decide) (tpi (y := nI (k % 4)) (pk_rem (a := k) (d := 4) (by omega) (by omega) (by omega)) ?_)
          refine lv_imul hx hb d_M_feed_106 (tpi (y := nI (8 * (k % 4))) (pk_mul (8) (k % 4)) ?_)
          refine lv_isub hx hb d_M_feed_107 (tpi (y := nI (24 - (8 * (k % 4)))) (pk_sub (a := 24) (b := 8 * (k % 4)) (by omega)) ?_)
          refine lv_ishr hx hb d_M_feed_108 ?_
          refine lv_i2b hx hb d_M_feed_109 rfl ?_
          refine nbst hx hb hK hP hD hS 1 0 rfl rfl (x.length + k) (by omega) (by decide) ((a1 >>> (nI (24 - (8 * (k % 4))) &&& 31)).toInt8.toInt32) (pk_vb _) d_M_feed_110 (fun H locs hP hD hS => ?_)
          have hP : va_P D vwCl (MW dA h ad (MS.s_length (MS.s_tape (MS.s_cod x 0) (va_up (fdT a1 a2 a3 a4 a5 x.tape x.length k) (x.length + k) ((a1 >>> (nI (24 - (8 * (k % 4))) &&& 31)).toInt8.toInt32))) (x.length + k))) H := hP
          have hD : va_D A (MW dA h ad (MS.s_length (MS.s_tape (MS.s_cod x 0) (va_up (fdT a1 a2 a3 a4 a5 x.tape x.length k) (x.length + k) ((a1 >>> (nI (24 - (8 * (k % 4))) &&& 31)).toInt8.toInt32))) (x.length + k))) := hD
          refine lv_aload_n hx hb d_M_feed_111 rfl (lv_at hl 2 rfl) ?_
          refine lv_dup hx hb d_M_feed_112 rfl ?_
          refine gF (v := .int (nI (x.length + k))) hx hb hown hE hK hP 0 rfl rfl layM 2 (by decide) w320 rfl d_M_feed_113 ?_
          refine lv_iconst (v := 1) hx hb d_M_feed_116 (by decide) ?_
          refine lv_iadd hx hb d_M_feed_117 (tpi (y := nI (x.length + k + 1)) (nI_add (x.length + k) (1)) ?_)
          refine pF (v := .int (nI (x.length + k + 1))) hx hb hown hE hK hP hD hS 0 rfl rfl layM tyM tokM nmM 2 (by decide) w320 rfl rfl rfl (Nat.le_of_ble_eq_true rfl) d_M_feed_118 (fun H locs hP hD hS => ?_)
          have hP : va_P D vwCl (MW dA h ad (MS.s_length (MS.s_tape (MS.s_cod x 0) (va_up (fdT a1 a2 a3 a4 a5 x.tape x.length k) (x.length + k) ((a1 >>> (nI (24 - (8 * (k % 4))) &&& 31)).toInt8.toInt32))) (x.length + k + 1))) H := hP
          have hD : va_D A (MW dA h ad (MS.s_length (MS.s_tape (MS.s_cod x 0) (va_up (fdT a1 a2 a3 a4 a5 x.tape x.length k) (x.length + k) ((a1 >>> (nI (24 - (8 * (k % 4))) &&& 31)).toInt8.toInt32))) (x.length + k + 1))) := hD
          refine lv_iinc (k := 1) (v := nI (k + 1)) hx hb d_M_feed_121 hl rfl (iincN (k) 1 1 (by decide)) (by decide) rfl (fun ls hl => ?_)
          have hl : lv_has ls 8 [(6, .int (nI (k + 1))), (7, .int a1), (0, .ref h), (1, .int a1), (2, .int a2), (3, .int a3), (4, .int a4), (5, .int a5)] := hl
          refine lv_goto hx hb d_M_feed_124 (tgt := 33) rfl ?_
          have e9 : (MS.s_length (MS.s_tape (MS.s_cod x 0) (va_up (fdT a1 a2 a3 a4 a5 x.tape x.length k) (x.length + k) ((a1 >>> (nI (24 - (8 * (k % 4))) &&& 31)).toInt8.toInt32))) (x.length + k + 1) : MS) = MS.s_length (MS.s_tape (MS.s_cod x 0) (fdT a1 a2 a3 a4 a5 x.tape x.length (k + 1))) (x.length + (k + 1)) := by rw [show (fdT a1 a2 a3 a4 a5 x.tape x.length (k + 1)) = (va_up (fdT a1 a2 a3 a4 a5 x.tape x.length k) (x.length + k) ((a1 >>> (nI (24 - (8 * (k % 4))) &&& 31)).toInt8.toInt32)) from (by simp [fdT, fdB, *])] <;> rfl
          exact ih33 _ (by omega) (k + 1) (by omega) rfl H _ ls (cvP e9 hP) (cvD e9 hD) hS (lv_sub hl [0, 2, 3, 4, 5, 6, 7] rfl)
  have e9 : (MS.s_cod x 0 : MS) = MS.s_length (MS.s_tape (MS.s_cod x 0) (fdT a1 a2 a3 a4 a5 x.tape x.length 0)) (x.length + 0) := by rw [show (fdT a1 a2 a3 a4 a5 x.tape x.length 0) = x.tape from (by simp [fdT, fdB, *])] <;> rfl
  exact L33 _ 0 (by omega) rfl H _ ls (cvP e9 hP) (cvD e9 hD) hS (lv_sub hl [0, 1, 2, 3, 4, 5, 6] rfl)
theorem d_M_write_855_0 : decode prog_14_method_8_code 0 = .ok (.iconst 1, 1) := by decide +kernel
theorem d_M_write_855_1 : decode prog_14_method_8_code 1 = .ok (.istore_n 2, 1) := by decide +kernel
theorem d_M_write_855_2 : decode prog_14_method_8_code 2 = .ok (.iconst 0, 1) := by decide +kernel
theorem d_M_write_855_3 : decode prog_14_method_8_code 3 = .ok (.istore_n 3, 1) := by decide +kernel
theorem d_M_write_855_4 : decode prog_14_method_8_code 4 = .ok (.iload_n 3, 1) := by decide +kernel
theorem d_M_write_855_5 : decode prog_14_method_8_code 5 = .ok (.iload_n 1, 1) := by decide +kernel
theorem d_M_write_855_6 : decode prog_14_method_8_code 6 = .ok (.if_icmp .ge 18, 3) := by decide +kernel
theorem d_M_write_855_24 : decode prog_14_method_8_code 24 = .ok (.iload_n 2, 1) := by decide +kernel
theorem d_M_write_855_25 : decode prog_14_method_8_code 25 = .ok (.ireturn, 1) := by decide +kernel
theorem d_M_write_855_9 : decode prog_14_method_8_code 9 = .ok (.iload_n 2, 1) := by decide +kernel
theorem d_M_write_855_10 : decode prog_14_method_8_code 10 = .ok (.ifCond .eq 14, 3) := by decide +kernel
theorem d_M_write_855_13 : decode prog_14_method_8_code 13 = .ok (.aload_n 0, 1) := by decide +kernel
theorem d_M_write_855_14 : decode prog_14_method_8_code 14 = .ok (.invokevirtual 200, 3) := by decide +kernel
theorem d_M_write_855_17 : decode prog_14_method_8_code 17 = .ok (.istore_n 2, 1) := by decide +kernel
theorem d_M_write_855_18 : decode prog_14_method_8_code 18 = .ok (.iinc 3 1, 3) := by decide +kernel
theorem d_M_write_855_21 : decode prog_14_method_8_code 21 = .ok (.goto (-17), 3) := by decide +kernel
set_option maxHeartbeats 4000000 in
set_option maxRecDepth 100000 in
theorem k_write_n (l : Launch) (D : va_G) (dA : Nat → ClassId) (sz : Nat) (h : Nat) (ad : Nat → Nat) (x : MS) (n : Nat) (hn : n < 2 ^ 31) (hz : ∀ j : Nat, j < n → ¬ cutN x.cutLeft j = 0) : Met l ⟨"SeriesVaultModel", "write", "(I)Z"⟩ [Cond.code ⟨"SeriesVaultModel", "write", "(I)Z"⟩ prog_14_method_8_code 4 (some FieldType.boolean)] { frames := 2, cells := 0, slots := 0, locals := 20 } (pC D dA [.ref h, .int (nI n)] (MW dA h ad x) sz) (va_Qi (fun (r9 : Int32) (u9 : Unit) => r9 = bI true) (fun (u9 : Unit) t9 => bW D (va_A (MW dA h ad x) sz) (MW dA h ad (MS.s_written (MS.s_cutLeft x (cutN x.cutLeft n)) (x.written + n))) t9) (va_A (MW dA h ad x) sz)) 0 0 (va_A (MW dA h ad x) sz) := by
  refine mkC (y := ⟨"SeriesVaultModel", "write", "(I)Z"⟩) (cc := prog_14_method_8_code) (maxL := 4) (av := [.ref h, .int (nI n)]) (ws := MW dA h ad x) (sz := sz) (Qc := fun A => va_Qi (fun (r9 : Int32) (u9 : Unit) => r9 = bI true) (fun (u9 : Unit) t9 => bW D A (MW dA h ad (MS.s_written (MS.s_cutLeft x (cutN x.cutLeft n)) (x.written + n))) t9) A) (by decide) (Nat.le_of_ble_eq_true rfl) ?_
  intro A p e s m below meth c ls hsz hB
  obtain ⟨hx, hb, hr, hml, hown, hin, hlk, hE, hK, hP, hD, hS, hA, hN, hl⟩ := hB
  have hown : s.vm.findClass "SeriesVaultModel" = some m.cls := hown
  have hl : lv_has ls 4 [(0, .ref h), (1, .int (nI n))] := hl
  obtain ⟨H, hH⟩ : ∃ z, z = s.heap := ⟨_, rfl⟩
  have hP : va_P D vwCl (MW dA h ad x) H := by rw [hH]; exact hP
  have hS : va_S A s.heap H [] := by rw [hH]; exact hS
  rw [← hH]
  refine lv_iconst (v := 1) hx hb d_M_write_855_0 (by decide) ?_
  refine lv_istore_n hx hb d_M_write_855_1 rfl hl (by decide) rfl (fun ls hl => ?_)
  have hl : lv_has ls 4 [(2, .int 1), (0, .ref h), (1, .int (nI n))] := hl
  refine lv_iconst (v := 0) hx hb d_M_write_855_2 (by decide) ?_
  refine lv_istore_n hx hb d_M_write_855_3 rfl hl (by decide) rfl (fun ls hl => ?_)
  have hl : lv_has ls 4 [(3, .int 0), (2, .int 1), (0, .ref h), (1, .int (nI n))] := hl
  have L4 : ∀ (k9 : Nat) (k : Nat) (i1 : k ≤ n) (hk9 : n - k = k9), ∀ (H : Heap) (locs : List Loc) (ls : Array Slot) (hP : va_P D vwCl (MW dA h ad (MS.s_written (MS.s_cutLeft x (cutN x.cutLeft k)) (x.written + k))) H) (hD : va_D A (MW dA h ad (MS.s_written (MS.s_cutLeft x (cutN x.cutLeft k)) (x.written + k)))) (hS : va_S A s.heap H locs) (hl : lv_has ls 4 [(3, .int (nI k)), (2, .int (bI true)), (1, .int (nI n)), (0, .ref h)]), W p l e ({ frames := 2, cells := 0, slots := 0, locals := 20 } : Room) s m ([.ref h, .int (nI n)] : List Value).toArray below meth c H locs 0 0 (MQ below (va_Qi (fun (r9 : Int32) (u9 : Unit) => r9 = bI true) (fun (u9 : Unit) t9 => bW D A (MW dA h ad (MS.s_written (MS.s_cutLeft x (cutN x.cutLeft n)) (x.written + n))) t9) A) ([.ref h, .int (nI n)] : List Value).toArray s 0 0 A) (F0 m 4 ls []) := by
    intro k9
    induction k9 using Nat.strongRecOn with
    | ind k9 ih4 =>
      intro k i1 hk9 H locs ls hP hD hS hl
      refine lv_iload_n hx hb d_M_write_855_4 rfl (lv_at hl 0 rfl) ?_
      refine lv_iload_n hx hb d_M_write_855_5 rfl (lv_at hl 2 rfl) ?_
      refine lv_icmp_ge hx hb d_M_write_855_6 (tgt := 24) rfl (fun g1 => ?_) (fun g1 => ?_)
      · have g1 := (nI_leI (a := n) (b := k) (by omega) (by omega)).mp g1
        refine lv_iload_n hx hb d_M_write_855_24 rfl (lv_at hl 1 rfl) ?_
        have e9 : (MS.s_written (MS.s_cutLeft x (cutN x.cutLeft k)) (x.written + k) : MS) = MS.s_written (MS.s_cutLeft x (cutN x.cutLeft n)) (x.written + n) := by rw [show (cutN x.cutLeft n) = (cutN x.cutLeft k) from by (rw [show k = n by omega]), show (x.written + n) = (x.written + k) from by (rw [show k = n by omega])] <;> rfl
        exact rfZ hx hb hr (bI_nar true) hlk hS () rfl (cvP e9 hP) (cvD e9 hD) (Nat.le_of_ble_eq_true rfl) (Nat.le_of_ble_eq_true rfl) d_M_write_855_25
      · have g1 := mt (nI_leI (a := n) (b := k) (by omega) (by omega)).mpr g1
        refine lv_iload_n hx hb d_M_write_855_9 rfl (lv_at hl 1 rfl) ?_
        refine lv_if_eq hx hb d_M_write_855_10 (tgt := 24) rfl (fun h9 => absurd h9 (by decide)) (fun _ => ?_)
        refine lv_aload_n hx hb d_M_write_855_13 rfl (lv_at hl 3 rfl) ?_
        refine jfI (rnV (As := []) (rest := []) hx hb hml hown hE hK (hN _ _ hS) hP hD (k_write l D dA H.size h ad (MS.s_written (MS.s_cutLeft x (cutN x.cutLeft k)) (x.written + k)) (hz k (by omega))) (q0 := 0) rfl rfl w452 w451 w453 w454 w328 rfl rfl ⟨⟨by decide, by decide⟩, rfl⟩ ⟨(Nat.le_of_ble_eq_true rfl), (Nat.le_of_ble_eq_true rfl)⟩ rfl hl.1 rfl (Nat.le_of_ble_eq_true rfl) d_M_write_855_14 ⟨(Nat.le_of_ble_eq_true rfl), (Nat.le_of_ble_eq_true rfl)⟩) hP hD hS hA (fun r2 u3 H locs hp9 hP hD hS => ?_)
        have hP : va_P D vwCl (MW dA h ad (MS.s_written (MS.s_cutLeft x (cutF (cutN x.cutLeft k))) ((x.written + k) + 1))) H := hP
        have hD : va_D A (MW dA h ad (MS.s_written (MS.s_cutLeft x (cutF (cutN x.cutLeft k))) ((x.written + k) + 1))) := hD
        replace hp9 : bI true = r2 := Eq.symm hp9
        subst hp9
        refine lv_istore_n hx hb d_M_write_855_17 rfl hl (by decide) rfl (fun ls hl => ?_)
        have hl : lv_has ls 4 [(2, .int (bI true)), (3, .int (nI k)), (1, .int (nI n)), (0, .ref h)] := hl
        refine lv_iinc (k := 1) (v := nI (k + 1)) hx hb d_M_write_855_18 hl rfl (iincN (k) 1 1 (by decide)) (by decide) rfl (fun ls hl => ?_)
        have hl : lv_has ls 4 [(3, .int (nI (k + 1))), (2, .int (bI true)), (1, .int (nI n)), (0, .ref h)] := hl
        refine lv_goto hx hb d_M_write_855_21 (tgt := 4) rfl ?_
        exact ih4 _ (by omega) (k + 1) (by omega) rfl H _ ls hP hD hS (lv_sub hl [0, 1, 2, 3] rfl)
  exact L4 _ 0 (by omega) rfl H _ ls hP hD hS (lv_sub hl [0, 1, 3, 2] rfl)
set_option maxHeartbeats 4000000 in
set_option maxRecDepth 100000 in
theorem k_write_nx (l : Launch) (D : va_G) (dA : Nat → ClassId) (sz : Nat) (h : Nat) (ad : Nat → Nat) (x : MS) (n : Nat) (j : Nat) (hn : n < 2 ^ 31) (hj : j < n) (h0 : cutN x.cutLeft j = 0) (hz : ∀ i : Nat, i < j → ¬ cutN x.cutLeft i = 0) : Met l ⟨"SeriesVaultModel", "write", "(I)Z"⟩ [Cond.code ⟨"SeriesVaultModel", "write", "(I)Z"⟩ prog_14_method_8_code 4 (some FieldType.boolean)] { frames := 2, cells := 0, slots := 0, locals := 20 } (pC D dA [.ref h, .int (nI n)] (MW dA h ad x) sz) (va_Qi (fun (r9 : Int32) (u9 : Unit) => r9 = bI false) (fun (u9 : Unit) t9 => bW D (va_A (MW dA h ad x) sz) (MW dA h ad (MS.s_written (MS.s_cutLeft (MS.s_on x false) (-1)) (x.written + j))) t9) (va_A (MW dA h ad x) sz)) 0 0 (va_A (MW dA h ad x) sz) := by
  refine mkC (y := ⟨"SeriesVaultModel", "write", "(I)Z"⟩) (cc := prog_14_method_8_code) (maxL := 4) (av := [.ref h, .int (nI n)]) (ws := MW dA h ad x) (sz := sz) (Qc := fun A => va_Qi (fun (r9 : Int32) (u9 : Unit) => r9 = bI false) (fun (u9 : Unit) t9 => bW D A (MW dA h ad (MS.s_written (MS.s_cutLeft (MS.s_on x false) (-1)) (x.written + j))) t9) A) (by decide) (Nat.le_of_ble_eq_true rfl) ?_
  intro A p e s m below meth c ls hsz hB
  obtain ⟨hx, hb, hr, hml, hown, hin, hlk, hE, hK, hP, hD, hS, hA, hN, hl⟩ := hB
  have hown : s.vm.findClass "SeriesVaultModel" = some m.cls := hown
  have hl : lv_has ls 4 [(0, .ref h), (1, .int (nI n))] := hl
  obtain ⟨H, hH⟩ : ∃ z, z = s.heap := ⟨_, rfl⟩
  have hP : va_P D vwCl (MW dA h ad x) H := by rw [hH]; exact hP
  have hS : va_S A s.heap H [] := by rw [hH]; exact hS
  rw [← hH]
  refine lv_iconst (v := 1) hx hb d_M_write_855_0 (by decide) ?_
  refine lv_istore_n hx hb d_M_write_855_1 rfl hl (by decide) rfl (fun ls hl => ?_)
  have hl : lv_has ls 4 [(2, .int 1), (0, .ref h), (1, .int (nI n))] := hl
  refine lv_iconst (v := 0) hx hb d_M_write_855_2 (by decide) ?_
  refine lv_istore_n hx hb d_M_write_855_3 rfl hl (by decide) rfl (fun ls hl => ?_)
  have hl : lv_has ls 4 [(3, .int 0), (2, .int 1), (0, .ref h), (1, .int (nI n))] := hl
  have L4 : ∀ (k9 : Nat) (k : Nat) (i1 : k ≤ j) (hk9 : n - k = k9), ∀ (H : Heap) (locs : List Loc) (ls : Array Slot) (hP : va_P D vwCl (MW dA h ad (MS.s_written (MS.s_cutLeft x (cutN x.cutLeft k)) (x.written + k))) H) (hD : va_D A (MW dA h ad (MS.s_written (MS.s_cutLeft x (cutN x.cutLeft k)) (x.written + k)))) (hS : va_S A s.heap H locs) (hl : lv_has ls 4 [(3, .int (nI k)), (2, .int (bI true)), (1, .int (nI n)), (0, .ref h)]), W p l e ({ frames := 2, cells := 0, slots := 0, locals := 20 } : Room) s m ([.ref h, .int (nI n)] : List Value).toArray below meth c H locs 0 0 (MQ below (va_Qi (fun (r9 : Int32) (u9 : Unit) => r9 = bI false) (fun (u9 : Unit) t9 => bW D A (MW dA h ad (MS.s_written (MS.s_cutLeft (MS.s_on x false) (-1)) (x.written + j))) t9) A) ([.ref h, .int (nI n)] : List Value).toArray s 0 0 A) (F0 m 4 ls []) := by
    intro k9
    induction k9 using Nat.strongRecOn with
    | ind k9 ih4 =>
      intro k i1 hk9 H locs ls hP hD hS hl
      refine lv_iload_n hx hb d_M_write_855_4 rfl (lv_at hl 0 rfl) ?_
      refine lv_iload_n hx hb d_M_write_855_5 rfl (lv_at hl 2 rfl) ?_
      refine lv_icmp_ge hx hb d_M_write_855_6 (tgt := 24) rfl (fun g1 => ?_) (fun g1 => ?_)
      · have g1 := (nI_leI (a := n) (b := k) (by omega) (by omega)).mp g1; exfalso; omega
      have g1 := mt (nI_leI (a := n) (b := k) (by omega) (by omega)).mpr g1
      refine lv_iload_n hx hb d_M_write_855_9 rfl (lv_at hl 1 rfl) ?_
      refine lv_if_eq hx hb d_M_write_855_10 (tgt := 24) rfl (fun h9 => absurd h9 (by decide)) (fun _ => ?_)
      refine lv_aload_n hx hb d_M_write_855_13 rfl (lv_at hl 3 rfl) ?_
      rcases (Nat.lt_or_ge k j) with z1 | z1
      · refine jfI (rnV (As := []) (rest := []) hx hb hml hown hE hK (hN _ _ hS) hP hD (k_write l D dA H.size h ad (MS.s_written (MS.s_cutLeft x (cutN x.cutLeft k)) (x.written + k)) (hz k z1)) (q0 := 0) rfl rfl w452 w451 w453 w454 w328 rfl rfl ⟨⟨by decide, by decide⟩, rfl⟩ ⟨(Nat.le_of_ble_eq_true rfl), (Nat.le_of_ble_eq_true rfl)⟩ rfl hl.1 rfl (Nat.le_of_ble_eq_true rfl) d_M_write_855_14 ⟨(Nat.le_of_ble_eq_true rfl), (Nat.le_of_ble_eq_true rfl)⟩) hP hD hS hA (fun r2 u3 H locs hp9 hP hD hS => ?_)
        have hP : va_P D vwCl (MW dA h ad (MS.s_written (MS.s_cutLeft x (cutF (cutN x.cutLeft k))) ((x.written + k) + 1))) H := hP
        have hD : va_D A (MW dA h ad (MS.s_written (MS.s_cutLeft x (cutF (cutN x.cutLeft k))) ((x.written + k) + 1))) := hD
        replace hp9 : bI true = r2 := Eq.symm hp9
        subst hp9
        refine lv_istore_n hx hb d_M_write_855_17 rfl hl (by decide) rfl (fun ls hl => ?_)
        have hl : lv_has ls 4 [(2, .int (bI true)), (3, .int (nI k)), (1, .int (nI n)), (0, .ref h)] := hl
        refine lv_iinc (k := 1) (v := nI (k + 1)) hx hb d_M_write_855_18 hl rfl (iincN (k) 1 1 (by decide)) (by decide) rfl (fun ls hl => ?_)
        have hl : lv_has ls 4 [(3, .int (nI (k + 1))), (2, .int (bI true)), (1, .int (nI n)), (0, .ref h)] := hl
        refine lv_goto hx hb d_M_write_855_21 (tgt := 4) rfl ?_
        exact ih4 _ (by omega) (k + 1) (by omega) rfl H _ ls hP hD hS (lv_sub hl [0, 1, 2, 3] rfl)
      · refine jfI (rnV (As := []) (rest := []) hx hb hml hown hE hK (hN _ _ hS) hP hD (k_write_x l D dA H.size h ad (MS.s_written (MS.s_cutLeft x (cutN x.cutLeft k)) (x.written + k)) (by rw [show k = j by omega]; exact h0)) (q0 := 0) rfl rfl w452 w451 w453 w454 w328 rfl rfl ⟨⟨by decide, by decide⟩, rfl⟩ ⟨(Nat.le_of_ble_eq_true rfl), (Nat.le_of_ble_eq_true rfl)⟩ rfl hl.1 rfl (Nat.le_of_ble_eq_true rfl) d_M_write_855_14 ⟨(Nat.le_of_ble_eq_true rfl), (Nat.le_of_ble_eq_true rfl)⟩) hP hD hS hA (fun r4 u5 H locs hp9 hP hD hS => ?_)
        have hP : va_P D vwCl (MW dA h ad (MS.s_written (MS.s_cutLeft (MS.s_on x false) (-1)) (x.written + k))) H := hP
        have hD : va_D A (MW dA h ad (MS.s_written (MS.s_cutLeft (MS.s_on x false) (-1)) (x.written + k))) := hD
        replace hp9 : bI false = r4 := Eq.symm hp9
        subst hp9
        refine lv_istore_n hx hb d_M_write_855_17 rfl hl (by decide) rfl (fun ls hl => ?_)
        have hl : lv_has ls 4 [(2, .int (bI false)), (3, .int (nI k)), (1, .int (nI n)), (0, .ref h)] := hl
        refine lv_iinc (k := 1) (v := nI (k + 1)) hx hb d_M_write_855_18 hl rfl (iincN (k) 1 1 (by decide)) (by decide) rfl (fun ls hl => ?_)
        have hl : lv_has ls 4 [(3, .int (nI (k + 1))), (2, .int (bI false)), (1, .int (nI n)), (0, .ref h)] := hl
        refine lv_goto hx hb d_M_write_855_21 (tgt := 4) rfl ?_
        refine lv_iload_n hx hb d_M_write_855_4 rfl (lv_at hl 0 rfl) ?_
        refine lv_iload_n hx hb d_M_write_855_5 rfl (lv_at hl 2 rfl) ?_
        refine lv_icmp_ge hx hb d_M_write_855_6 (tgt := 24) rfl (fun g6 => ?_) (fun g6 => ?_)
        · have g6 := (nI_leI (a := n) (b := k + 1) (by omega) (by omega)).mp g6
          refine lv_iload_n hx hb d_M_write_855_24 rfl (lv_at hl 1 rfl) ?_
          have e9 : (MS.s_written (MS.s_cutLeft (MS.s_on x false) (-1)) (x.written + k) : MS) = MS.s_written (MS.s_cutLeft (MS.s_on x false) (-1)) (x.written + j) := by rw [show (x.written + j) = (x.written + k) from by (rw [show k = j by omega])] <;> rfl
          exact rfZ hx hb hr (bI_nar false) hlk hS () rfl (cvP e9 hP) (cvD e9 hD) (Nat.le_of_ble_eq_true rfl) (Nat.le_of_ble_eq_true rfl) d_M_write_855_25
        · have g6 := mt (nI_leI (a := n) (b := k + 1) (by omega) (by omega)).mpr g6
          refine lv_iload_n hx hb d_M_write_855_9 rfl (lv_at hl 1 rfl) ?_
          refine lv_if_eq hx hb d_M_write_855_10 (tgt := 24) rfl (fun _ => ?_) (fun h9 => absurd (by decide) h9)
          refine lv_iload_n hx hb d_M_write_855_24 rfl (lv_at hl 1 rfl) ?_
          have e9 : (MS.s_written (MS.s_cutLeft (MS.s_on x false) (-1)) (x.written + k) : MS) = MS.s_written (MS.s_cutLeft (MS.s_on x false) (-1)) (x.written + j) := by rw [show (x.written + j) = (x.written + k) from by (rw [show k = j by omega])] <;> rfl
          exact rfZ hx hb hr (bI_nar false) hlk hS () rfl (cvP e9 hP) (cvD e9 hD) (Nat.le_of_ble_eq_true rfl) (Nat.le_of_ble_eq_true rfl) d_M_write_855_25
  exact L4 _ 0 (by omega) rfl H _ ls hP hD hS (lv_sub hl [0, 1, 3, 2] rfl)
