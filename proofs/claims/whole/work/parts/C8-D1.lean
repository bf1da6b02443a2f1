section
/-! Tables. -/
def hasB (z : Int64) (w : Nat) : Bool := decide (ushL z (nI w) &&& 1 = 1)
def bitL (w : Nat) : Int64 := 1 <<< ((nI w).toInt64 &&& 63)
def tnG (f : Nat → Int64) : Nat → Nat → Int64
  | 0 => f
  | i + 1 => va_up (tnG f i) i (-(f i))
theorem tnG_at (f : Nat → Int64) : ∀ {i q : Nat}, i ≤ q → tnG f i q = f q
  | 0, q, _ => rfl
  | i + 1, q, h => by
    show va_up (tnG f i) i (-(f i)) q = f q
    rw [va_up_ne _ _ (by omega), tnG_at f (by omega)]
/-- the names of a table; how the texts of two series compare -/
def nmOk (dA : Nat → ClassId) (ws : va_W) (nm : Nat → Option Nat) (n : Nat) (NL : Nat → List Int32) : Prop := ∀ k, k < n → ∃ p : Nat, nm k = some p ∧ isWo dA ws p (NL k) ∧ (NL k).length ≤ 65536
theorem nmOk_m {dA : Nat → ClassId} {ws ws' : va_W} {nm : Nat → Option Nat} {n : Nat} {NL : Nat → List Int32} (hs : ∀ c, c ∈ ws → c ∈ ws') (h : nmOk dA ws nm n NL) : nmOk dA ws' nm n NL := by
  intro k hk
  obtain ⟨p, a, b, c⟩ := h k hk
  exact ⟨p, a, isWo_m hs b, c⟩
def ctC (NL : Nat → List Int32) (S1 S2 : List LB) (k : Nat) : Int32 := cmpW (valS S1 (NL k)) (valS S2 (NL k))
def ctB (NL : Nat → List Int32) (S1 S2 : List LB) (k : Nat) : Bool := !decide (ctC NL S1 S2 k = 0)
def cmT (NL : Nat → List Int32) (n : Nat) (S1 S2 : List LB) : Int32 := match frst (ctB NL S1 S2) n 0 with
  | none => 0
  | some k => ctC NL S1 S2 k
theorem cmT_n {NL : Nat → List Int32} {n : Nat} {S1 S2 : List LB} (h : frst (ctB NL S1 S2) n 0 = none) : cmT NL n S1 S2 = 0 := by unfold cmT; rw [h]
theorem cmT_s {NL : Nat → List Int32} {n k : Nat} {S1 S2 : List LB} (h : frst (ctB NL S1 S2) n 0 = some k) : cmT NL n S1 S2 = ctC NL S1 S2 k := by unfold cmT; rw [h]
theorem valS_le {S : List LB} {M : List Int32} (h : serOk S) : (valS S M).length ≤ 24 := by
  cases e : frst (vsB S M) S.length 0 with
  | none => rw [valS_n e]; exact Nat.zero_le _
  | some k =>
    rw [valS_s e]
    have := frst_lt e
    exact (h.2 k (by omega)).2
/-- what a sign makes of two numbers -/
def jnVl (sg : Int32) (u y : Int64) : Int64 := if sg = 43 then u + y else if sg = 45 then u - y else if sg = 42 then u * y else if y = 0 then 0 else if sg = 47 then u / y else u - u / y * y
def jnS (sg : Int32) (both : Int64) (y : Int64) (w : Nat) : Bool := decide (ushL both (nI w) &&& 1 = 1) && !((decide (sg = 47) || decide (sg = 37)) && decide (y = 0))
/-- a row of cells joined: the bits that stay, the cells -/
def jrW (sg : Int32) (both : Int64) (L R : Nat → Int64) (f : Nat → Int64) (b : Nat) : Nat → Int64 × (Nat → Int64)
  | 0 => (0, f)
  | w + 1 => if jnS sg both (R w) w = true then ((jrW sg both L R f b w).1 ||| bitL w, va_up (jrW sg both L R f b w).2 (b + w) (jnVl sg (L w) (R w))) else jrW sg both L R f b w
abbrev TB : Type := (Nat → Option Nat) × Nat × Nat × Nat × (Nat → Option Nat) × (Nat → Int64) × Nat × Nat × (Nat → Int64)
abbrev TB.nm (x : TB) : Nat → Option Nat := x.1
abbrev TB.s_nm (x : TB) (v : Nat → Option Nat) : TB := (v, x.2)
abbrev TB.nc (x : TB) : Nat := x.2.1
abbrev TB.s_nc (x : TB) (v : Nat) : TB := (x.1, v, x.2.2)
abbrev TB.wi (x : TB) : Nat := x.2.2.1
abbrev TB.s_wi (x : TB) (v : Nat) : TB := (x.1, x.2.1, v, x.2.2.2)
abbrev TB.rc (x : TB) : Nat := x.2.2.2.1
abbrev TB.s_rc (x : TB) (v : Nat) : TB := (x.1, x.2.1, x.2.2.1, v, x.2.2.2.2)
abbrev TB.rs (x : TB) : Nat → Option Nat := x.2.2.2.2.1
abbrev TB.s_rs (x : TB) (v : Nat → Option Nat) : TB := (x.1, x.2.1, x.2.2.1, x.2.2.2.1, v, x.2.2.2.2.2)
abbrev TB.th (x : TB) : Nat → Int64 := x.2.2.2.2.2.1
abbrev TB.s_th (x : TB) (v : Nat → Int64) : TB := (x.1, x.2.1, x.2.2.1, x.2.2.2.1, x.2.2.2.2.1, v, x.2.2.2.2.2.2)
abbrev TB.cA (x : TB) : Nat := x.2.2.2.2.2.2.1
abbrev TB.s_cA (x : TB) (v : Nat) : TB := (x.1, x.2.1, x.2.2.1, x.2.2.2.1, x.2.2.2.2.1, x.2.2.2.2.2.1, v, x.2.2.2.2.2.2.2)
abbrev TB.cN (x : TB) : Nat := x.2.2.2.2.2.2.2.1
abbrev TB.s_cN (x : TB) (v : Nat) : TB := (x.1, x.2.1, x.2.2.1, x.2.2.2.1, x.2.2.2.2.1, x.2.2.2.2.2.1, x.2.2.2.2.2.2.1, v, x.2.2.2.2.2.2.2.2)
abbrev TB.ce (x : TB) : Nat → Int64 := x.2.2.2.2.2.2.2.2
abbrev TB.s_ce (x : TB) (v : Nat → Int64) : TB := (x.1, x.2.1, x.2.2.1, x.2.2.2.1, x.2.2.2.2.1, x.2.2.2.2.2.1, x.2.2.2.2.2.2.1, x.2.2.2.2.2.2.2.1, v)
def TbWf (dA : Nat → ClassId) (ta : Nat → Nat) (x y : TB) : va_W := [(ta 0, .inr (8, [.ref (ta 1), .int (nI x.nc), .int (nI x.wi), .int (nI x.rc), .ref (ta 2), .ref (ta 3), .ref y.cA])), (ta 1, .inl (dA 6, 6, .inr (.inr (.inr (.inr x.nm))))), (ta 2, .inl (dA 5, 256, .inr (.inr (.inr (.inr x.rs))))), (ta 3, .inl (dA 2, 256, .inr (.inl x.th))), (x.cA, .inl (dA 2, x.cN, .inr (.inl x.ce)))]
def TbW (dA : Nat → ClassId) (ta : Nat → Nat) (x : TB) : va_W := TbWf dA ta x x
theorem d_T_numberAt_0 : decode prog_11_method_10_code 0 = .ok (.aload_n 0, 1) := by decide +kernel
theorem d_T_numberAt_1 : decode prog_11_method_10_code 1 = .ok (.getfield 27, 3) := by decide +kernel
theorem d_T_numberAt_4 : decode prog_11_method_10_code 4 = .ok (.iload_n 1, 1) := by decide +kernel
theorem d_T_numberAt_5 : decode prog_11_method_10_code 5 = .ok (.aload_n 0, 1) := by decide +kernel
theorem d_T_numberAt_6 : decode prog_11_method_10_code 6 = .ok (.getfield 30, 3) := by decide +kernel
theorem d_T_numberAt_9 : decode prog_11_method_10_code 9 = .ok (.imul, 1) := by decide +kernel
theorem d_T_numberAt_10 : decode prog_11_method_10_code 10 = .ok (.iload_n 2, 1) := by decide +kernel
theorem d_T_numberAt_11 : decode prog_11_method_10_code 11 = .ok (.iadd, 1) := by decide +kernel
theorem d_T_numberAt_12 : decode prog_11_method_10_code 12 = .ok (.laload, 1) := by decide +kernel
theorem d_T_numberAt_13 : decode prog_11_method_10_code 13 = .ok (.lreturn, 1) := by decide +kernel
theorem w1367 : Cond.fieldLink "SeriesVault$Table" 30 "SeriesVault$Table" "windows" "I" ∈ aW := aw_of (tb_2 (List.mem_of_getElem? (i := 57) rfl)) rfl
set_option maxHeartbeats 4000000 in
set_option maxRecDepth 100000 in
theorem v_TnumberAt (l : Launch) (D : va_G) (dA : Nat → ClassId) (sz : Nat) (ws : va_W) (ta : Nat → Nat) (t : TB) (r : Nat) (w : Nat) (hN : t.cN ≤ 65536) (h1 : r * t.wi + w < t.cN) : Met l ⟨"SeriesVault$Table", "numberAt", "(II)J"⟩ [Cond.code ⟨"SeriesVault$Table", "numberAt", "(II)J"⟩ prog_11_method_10_code 3 (some FieldType.long)] { frames := 1, cells := 0, slots := 0, locals := 0 } (pC D dA [.ref (ta 0), .int (nI r), .int (nI w)] (TbW dA ta t ++ (ws)) sz) (va_Ql (fun (r9 : Int64) (u9 : Unit) => r9 = t.ce (r * t.wi + w)) (fun (u9 : Unit) t9 => bW D (va_A (TbW dA ta t ++ (ws)) sz) (TbW dA ta t ++ (ws)) t9) (va_A (TbW dA ta t ++ (ws)) sz)) 0 0 (va_A (TbW dA ta t ++ (ws)) sz) := by
  refine mkC (y := ⟨"SeriesVault$Table", "numberAt", "(II)J"⟩) (cc := prog_11_method_10_code) (maxL := 3) (av := [.ref (ta 0), .int (nI r), .int (nI w)]) (ws := TbW dA ta t ++ (ws)) (sz := sz) (Qc := fun A => va_Ql (fun (r9 : Int64) (u9 : Unit) => r9 = t.ce (r * t.wi + w)) (fun (u9 : Unit) t9 => bW D A (TbW dA ta t ++ (ws)) t9) A) (by decide) (Nat.le_of_ble_eq_true rfl) ?_
  intro A p e s m below meth c ls hsz hB
  obtain ⟨hx, hb, hr, hml, hown, hin, hlk, hE, hK, hP, hD, hS, hA, hN, hl⟩ := hB
  have hown : s.vm.findClass "SeriesVault$Table" = some m.cls := hown
  have hl : lv_has ls 3 [(0, .ref (ta 0)), (1, .int (nI r)), (2, .int (nI w))] := hl
  obtain ⟨H, hH⟩ : ∃ z, z = s.heap := ⟨_, rfl⟩
  have hP : va_P D vwCl (TbW dA ta t ++ (ws)) H := by rw [hH]; exact hP
  have hS : va_S A s.heap H [] := by rw [hH]; exact hS
  rw [← hH]
  refine lv_aload_n hx hb d_T_numberAt_0 rfl (lv_at hl 0 rfl) ?_
  refine gF (v := .ref t.cA) hx hb hown hE hK hP 0 rfl rfl layT 6 (by decide) w789 rfl d_T_numberAt_1 ?_
  refine lv_iload_n hx hb d_T_numberAt_4 rfl (lv_at hl 1 rfl) ?_
  refine lv_aload_n hx hb d_T_numberAt_5 rfl (lv_at hl 0 rfl) ?_
  refine gF (v := .int (nI t.wi)) hx hb hown hE hK hP 0 rfl rfl layT 2 (by decide) w1367 rfl d_T_numberAt_6 ?_
  refine lv_imul hx hb d_T_numberAt_9 (tpi (y := nI (r * t.wi)) (pk_mul (r) (t.wi)) ?_)
  refine lv_iload_n hx hb d_T_numberAt_10 rfl (lv_at hl 2 rfl) ?_
  refine lv_iadd hx hb d_T_numberAt_11 (tpi (y := nI ((r * t.wi) + w)) (nI_add (r * t.wi) (w)) ?_)
  refine nlld (f := t.ce) (n := t.cN) hx hb hK hP (4) 2 rfl rfl ((r * t.wi) + w) (by omega) (by omega) d_T_numberAt_12 ?_
  exact rfL hx hb hr hlk hS () rfl hP hD (Nat.le_of_ble_eq_true rfl) (Nat.le_of_ble_eq_true rfl) d_T_numberAt_13
theorem d_T_has_0 : decode prog_11_method_9_code 0 = .ok (.aload_n 0, 1) := by decide +kernel
theorem d_T_has_1 : decode prog_11_method_9_code 1 = .ok (.getfield 23, 3) := by decide +kernel
theorem d_T_has_4 : decode prog_11_method_9_code 4 = .ok (.iload_n 1, 1) := by decide +kernel
theorem d_T_has_5 : decode prog_11_method_9_code 5 = .ok (.laload, 1) := by decide +kernel
theorem d_T_has_6 : decode prog_11_method_9_code 6 = .ok (.iload_n 2, 1) := by decide +kernel
theorem d_T_has_7 : decode prog_11_method_9_code 7 = .ok (.lushr, 1) := by decide +kernel
theorem d_T_has_8 : decode prog_11_method_9_code 8 = .ok (.lconst 1, 1) := by decide +kernel
theorem d_T_has_9 : decode prog_11_method_9_code 9 = .ok (.land, 1) := by decide +kernel
theorem d_T_has_10 : decode prog_11_method_9_code 10 = .ok (.lconst 1, 1) := by decide +kernel
theorem d_T_has_11 : decode prog_11_method_9_code 11 = .ok (.lcmp, 1) := by decide +kernel
theorem d_T_has_12 : decode prog_11_method_9_code 12 = .ok (.ifCond .ne 7, 3) := by decide +kernel
theorem d_T_has_19 : decode prog_11_method_9_code 19 = .ok (.iconst 0, 1) := by decide +kernel
theorem d_T_has_20 : decode prog_11_method_9_code 20 = .ok (.ireturn, 1) := by decide +kernel
theorem d_T_has_15 : decode prog_11_method_9_code 15 = .ok (.iconst 1, 1) := by decide +kernel
theorem d_T_has_16 : decode prog_11_method_9_code 16 = .ok (.goto 4, 3) := by decide +kernel
set_option maxHeartbeats 4000000 in
set_option maxRecDepth 100000 in
theorem v_Thas (l : Launch) (D : va_G) (dA : Nat → ClassId) (sz : Nat) (ws : va_W) (ta : Nat → Nat) (t : TB) (r : Nat) (w : Nat) (h1 : r < 256) : Met l ⟨"SeriesVault$Table", "has", "(II)Z"⟩ [Cond.code ⟨"SeriesVault$Table", "has", "(II)Z"⟩ prog_11_method_9_code 3 (some FieldType.boolean)] { frames := 1, cells := 0, slots := 0, locals := 0 } (pC D dA [.ref (ta 0), .int (nI r), .int (nI w)] (TbW dA ta t ++ (ws)) sz) (va_Qi (fun (r9 : Int32) (u9 : Unit) => r9 = bI (hasB (t.th r) w)) (fun (u9 : Unit) t9 => bW D (va_A (TbW dA ta t ++ (ws)) sz) (TbW dA ta t ++ (ws)) t9) (va_A (TbW dA ta t ++ (ws)) sz)) 0 0 (va_A (TbW dA ta t ++ (ws)) sz) := by
  refine mkC (y := ⟨"SeriesVault$Table", "has", "(II)Z"⟩) (cc := prog_11_method_9_code) (maxL := 3) (av := [.ref (ta 0), .int (nI r), .int (nI w)]) (ws := TbW dA ta t ++ (ws)) (sz := sz) (Qc := fun A => va_Qi (fun (r9 : Int32) (u9 : Unit) => r9 = bI (hasB (t.th r) w)) (fun (u9 : Unit) t9 => bW D A (TbW dA ta t ++ (ws)) t9) A) (by decide) (Nat.le_of_ble_eq_true rfl) ?_
  intro A p e s m below meth c ls hsz hB
  obtain ⟨hx, hb, hr, hml, hown, hin, hlk, hE, hK, hP, hD, hS, hA, hN, hl⟩ := hB
  have hown : s.vm.findClass "SeriesVault$Table" = some m.cls := hown
  have hl : lv_has ls 3 [(0, .ref (ta 0)), (1, .int (nI r)), (2, .int (nI w))] := hl
  obtain ⟨H, hH⟩ : ∃ z, z = s.heap := ⟨_, rfl⟩
  have hP : va_P D vwCl (TbW dA ta t ++ (ws)) H := by rw [hH]; exact hP
  have hS : va_S A s.heap H [] := by rw [hH]; exact hS
  rw [← hH]
  refine lv_aload_n hx hb d_T_has_0 rfl (lv_at hl 0 rfl) ?_
  refine gF (v := .ref (ta 3)) hx hb hown hE hK hP 0 rfl rfl layT 5 (by decide) w788 rfl d_T_has_1 ?_
  refine lv_iload_n hx hb d_T_has_4 rfl (lv_at hl 1 rfl) ?_
  refine nlld (f := t.th) (n := 256) hx hb hK hP (3) 2 rfl rfl (r) (by omega) (by decide) d_T_has_5 ?_
  refine lv_iload_n hx hb d_T_has_6 rfl (lv_at hl 2 rfl) ?_
  refine lv_lushr (v := ushL (t.th r) (nI w)) hx hb d_T_has_7 rfl ?_
  refine lv_lconst (v := 1) hx hb d_T_has_8 (by decide) ?_
  refine lv_land hx hb d_T_has_9 ?_
  refine lv_lconst (v := 1) hx hb d_T_has_10 (by decide) ?_
  refine W.lcmp hx hb d_T_has_11 ?_
  refine lv_if_ne hx hb d_T_has_12 (tgt := 19) rfl (fun g1 => ?_) (fun g1 => ?_)
  · have g1 := mt (lg_cmp_eq _ _).mpr g1
    refine lv_iconst (v := 0) hx hb d_T_has_19 (by decide) ?_
    exact rfZ hx hb hr (bI_nar false) hlk hS () (by unfold hasB; rw [decide_eq_false g1]; rfl) hP hD (Nat.le_of_ble_eq_true rfl) (Nat.le_of_ble_eq_true rfl) d_T_has_20
  · have g1 := (lg_cmp_eq _ _).mp g1
    refine lv_iconst (v := 1) hx hb d_T_has_15 (by decide) ?_
    refine lv_goto hx hb d_T_has_16 (tgt := 20) rfl ?_
    exact rfZ hx hb hr (bI_nar true) hlk hS () (by unfold hasB; rw [decide_eq_true g1]; rfl) hP hD (Nat.le_of_ble_eq_true rfl) (Nat.le_of_ble_eq_true rfl) d_T_has_20
theorem d_T_put_0 : decode prog_11_method_11_code 0 = .ok (.aload_n 0, 1) := by decide +kernel
theorem d_T_put_1 : decode prog_11_method_11_code 1 = .ok (.getfield 27, 3) := by decide +kernel
theorem d_T_put_4 : decode prog_11_method_11_code 4 = .ok (.iload_n 1, 1) := by decide +kernel
theorem d_T_put_5 : decode prog_11_method_11_code 5 = .ok (.aload_n 0, 1) := by decide +kernel
theorem d_T_put_6 : decode prog_11_method_11_code 6 = .ok (.getfield 30, 3) := by decide +kernel
theorem d_T_put_9 : decode prog_11_method_11_code 9 = .ok (.imul, 1) := by decide +kernel
theorem d_T_put_10 : decode prog_11_method_11_code 10 = .ok (.iload_n 2, 1) := by decide +kernel
theorem d_T_put_11 : decode prog_11_method_11_code 11 = .ok (.iadd, 1) := by decide +kernel
theorem d_T_put_12 : decode prog_11_method_11_code 12 = .ok (.lload_n 3, 1) := by decide +kernel
theorem d_T_put_13 : decode prog_11_method_11_code 13 = .ok (.lastore, 1) := by decide +kernel
theorem d_T_put_14 : decode prog_11_method_11_code 14 = .ok (.aload_n 0, 1) := by decide +kernel
theorem d_T_put_15 : decode prog_11_method_11_code 15 = .ok (.getfield 23, 3) := by decide +kernel
theorem d_T_put_18 : decode prog_11_method_11_code 18 = .ok (.iload_n 1, 1) := by decide +kernel
theorem d_T_put_19 : decode prog_11_method_11_code 19 = .ok (.dup2, 1) := by decide +kernel
theorem d_T_put_20 : decode prog_11_method_11_code 20 = .ok (.laload, 1) := by decide +kernel
theorem d_T_put_21 : decode prog_11_method_11_code 21 = .ok (.lconst 1, 1) := by decide +kernel
theorem d_T_put_22 : decode prog_11_method_11_code 22 = .ok (.iload_n 2, 1) := by decide +kernel
theorem d_T_put_23 : decode prog_11_method_11_code 23 = .ok (.lshl, 1) := by decide +kernel
theorem d_T_put_24 : decode prog_11_method_11_code 24 = .ok (.lor, 1) := by decide +kernel
theorem d_T_put_25 : decode prog_11_method_11_code 25 = .ok (.lastore, 1) := by decide +kernel
theorem d_T_put_26 : decode prog_11_method_11_code 26 = .ok (.return_, 1) := by decide +kernel
set_option maxHeartbeats 4000000 in
set_option maxRecDepth 100000 in
theorem v_Tput (l : Launch) (D : va_G) (dA : Nat → ClassId) (sz : Nat) (ws : va_W) (ta : Nat → Nat) (t : TB) (r : Nat) (w : Nat) (v : Int64) (hN : t.cN ≤ 65536) (h1 : r * t.wi + w < t.cN) (h2 : r < 256) : Met l ⟨"SeriesVault$Table", "put", "(IIJ)V"⟩ [Cond.code ⟨"SeriesVault$Table", "put", "(IIJ)V"⟩ prog_11_method_11_code 5 none] { frames := 1, cells := 0, slots := 0, locals := 0 } (pC D dA [.ref (ta 0), .int (nI r), .int (nI w), .long v] (TbW dA ta t ++ (ws)) sz) (va_Qv (fun (u9 : Unit) => True) (fun (u9 : Unit) t9 => bW D (va_A (TbW dA ta t ++ (ws)) sz) (TbW dA ta (TB.s_ce (TB.s_th t (va_up t.th r (t.th r ||| bitL w))) (va_up t.ce (r * t.wi + w) v)) ++ (ws)) t9) (va_A (TbW dA ta t ++ (ws)) sz)) 0 0 (va_A (TbW dA ta t ++ (ws)) sz) := by
  refine mkC (y := ⟨"SeriesVault$Table", "put", "(IIJ)V"⟩) (cc := prog_11_method_11_code) (maxL := 5) (av := [.ref (ta 0), .int (nI r), .int (nI w), .long v]) (ws := TbW dA ta t ++ (ws)) (sz := sz) (Qc := fun A => va_Qv (fun (u9 : Unit) => True) (fun (u9 : Unit) t9 => bW D A (TbW dA ta (TB.s_ce (TB.s_th t (va_up t.th r (t.th r ||| bitL w))) (va_up t.ce (r * t.wi + w) v)) ++ (ws)) t9) A) (by decide) (Nat.le_of_ble_eq_true rfl) ?_
  intro A p e s m below meth c ls hsz hB
  obtain ⟨hx, hb, hr, hml, hown, hin, hlk, hE, hK, hP, hD, hS, hA, hN, hl⟩ := hB
  have hown : s.vm.findClass "SeriesVault$Table" = some m.cls := hown
  have hl : lv_has ls 5 [(0, .ref (ta 0)), (1, .int (nI r)), (2, .int (nI w)), (3, .long v)] := hl
  obtain ⟨H, hH⟩ : ∃ z, z = s.heap := ⟨_, rfl⟩
  have hP : va_P D vwCl (TbW dA ta t ++ (ws)) H := by rw [hH]; exact hP
  have hS : va_S A s.heap H [] := by rw [hH]; exact hS
  rw [← hH]
  refine lv_aload_n hx hb d_T_put_0 rfl (lv_at hl 0 rfl) ?_
  refine gF (v := .ref t.cA) hx hb hown hE hK hP 0 rfl rfl layT 6 (by decide) w789 rfl d_T_put_1 ?_
  refine lv_iload_n hx hb d_T_put_4 rfl (lv_at hl 1 rfl) ?_
  refine lv_aload_n hx hb d_T_put_5 rfl (lv_at hl 0 rfl) ?_
  refine gF (v := .int (nI t.wi)) hx hb hown hE hK hP 0 rfl rfl layT 2 (by decide) w1367 rfl d_T_put_6 ?_
  refine lv_imul hx hb d_T_put_9 (tpi (y := nI (r * t.wi)) (pk_mul (r) (t.wi)) ?_)
  refine lv_iload_n hx hb d_T_put_10 rfl (lv_at hl 2 rfl) ?_
  refine lv_iadd hx hb d_T_put_11 (tpi (y := nI ((r * t.wi) + w)) (nI_add (r * t.wi) (w)) ?_)
  refine lv_lload_n hx hb d_T_put_12 rfl (lv_at hl 3 rfl) ?_
  refine nlst (n := t.cN) hx hb hK hP hD hS (4) 2 rfl rfl ((r * t.wi) + w) (by omega) (by omega) d_T_put_13 (fun H locs hP hD hS => ?_)
  have hP : va_P D vwCl (TbW dA ta (TB.s_ce t (va_up t.ce ((r * t.wi) + w) v)) ++ (ws)) H := hP
  have hD : va_D A (TbW dA ta (TB.s_ce t (va_up t.ce ((r * t.wi) + w) v)) ++ (ws)) := hD
  refine lv_aload_n hx hb d_T_put_14 rfl (lv_at hl 0 rfl) ?_
  refine gF (v := .ref (ta 3)) hx hb hown hE hK hP 0 rfl rfl layT 5 (by decide) w788 rfl d_T_put_15 ?_
  refine lv_iload_n hx hb d_T_put_18 rfl (lv_at hl 1 rfl) ?_
  refine lv_dup2_11 hx hb d_T_put_19 rfl rfl ?_
  refine nlld (f := t.th) (n := 256) hx hb hK hP (3) 2 rfl rfl (r) (by omega) (by decide) d_T_put_20 ?_
  refine lv_lconst (v := 1) hx hb d_T_put_21 (by decide) ?_
  refine lv_iload_n hx hb d_T_put_22 rfl (lv_at hl 2 rfl) ?_
  refine lv_lshl hx hb d_T_put_23 rfl ?_
  refine lv_lor hx hb d_T_put_24 ?_
  refine nlst (n := 256) hx hb hK hP hD hS (3) 2 rfl rfl (r) (by omega) (by decide) d_T_put_25 (fun H locs hP hD hS => ?_)
  have hP : va_P D vwCl (TbW dA ta (TB.s_ce (TB.s_th t (va_up t.th r ((t.th r) ||| (1 <<< ((nI w).toInt64 &&& 63))))) (va_up t.ce ((r * t.wi) + w) v)) ++ (ws)) H := hP
  have hD : va_D A (TbW dA ta (TB.s_ce (TB.s_th t (va_up t.th r ((t.th r) ||| (1 <<< ((nI w).toInt64 &&& 63))))) (va_up t.ce ((r * t.wi) + w) v)) ++ (ws)) := hD
  have e9 : (TB.s_ce (TB.s_th t (va_up t.th r ((t.th r) ||| (1 <<< ((nI w).toInt64 &&& 63))))) (va_up t.ce ((r * t.wi) + w) v) : TB) = TB.s_ce (TB.s_th t (va_up t.th r (t.th r ||| bitL w))) (va_up t.ce (r * t.wi + w) v) := by rw [show (va_up t.th r (t.th r ||| bitL w)) = (va_up t.th r ((t.th r) ||| (1 <<< ((nI w).toInt64 &&& 63)))) from by rfl, show (va_up t.ce (r * t.wi + w) v) = (va_up t.ce ((r * t.wi) + w) v) from by rfl] <;> rfl
  rw [e9] at hP hD
  exact rfV hx hb hr hlk hS () trivial hP hD (Nat.le_of_ble_eq_true rfl) (Nat.le_of_ble_eq_true rfl) d_T_put_26
theorem d_T_turn_0 : decode prog_11_method_13_code 0 = .ok (.iconst 0, 1) := by decide +kernel
theorem d_T_turn_1 : decode prog_11_method_13_code 1 = .ok (.istore_n 1, 1) := by decide +kernel
theorem d_T_turn_2 : decode prog_11_method_13_code 2 = .ok (.iload_n 1, 1) := by decide +kernel
theorem d_T_turn_3 : decode prog_11_method_13_code 3 = .ok (.aload_n 0, 1) := by decide +kernel
theorem d_T_turn_4 : decode prog_11_method_13_code 4 = .ok (.getfield 37, 3) := by decide +kernel
theorem d_T_turn_7 : decode prog_11_method_13_code 7 = .ok (.aload_n 0, 1) := by decide +kernel
theorem d_T_turn_8 : decode prog_11_method_13_code 8 = .ok (.getfield 30, 3) := by decide +kernel
theorem d_T_turn_11 : decode prog_11_method_13_code 11 = .ok (.imul, 1) := by decide +kernel
theorem d_T_turn_12 : decode prog_11_method_13_code 12 = .ok (.if_icmp .ge 22, 3) := by decide +kernel
theorem d_T_turn_34 : decode prog_11_method_13_code 34 = .ok (.return_, 1) := by decide +kernel
theorem d_T_turn_15 : decode prog_11_method_13_code 15 = .ok (.aload_n 0, 1) := by decide +kernel
theorem d_T_turn_16 : decode prog_11_method_13_code 16 = .ok (.getfield 27, 3) := by decide +kernel
theorem d_T_turn_19 : decode prog_11_method_13_code 19 = .ok (.iload_n 1, 1) := by decide +kernel
theorem d_T_turn_20 : decode prog_11_method_13_code 20 = .ok (.aload_n 0, 1) := by decide +kernel
theorem d_T_turn_21 : decode prog_11_method_13_code 21 = .ok (.getfield 27, 3) := by decide +kernel
theorem d_T_turn_24 : decode prog_11_method_13_code 24 = .ok (.iload_n 1, 1) := by decide +kernel
theorem d_T_turn_25 : decode prog_11_method_13_code 25 = .ok (.laload, 1) := by decide +kernel
theorem d_T_turn_26 : decode prog_11_method_13_code 26 = .ok (.lneg, 1) := by decide +kernel
theorem d_T_turn_27 : decode prog_11_method_13_code 27 = .ok (.lastore, 1) := by decide +kernel
theorem d_T_turn_28 : decode prog_11_method_13_code 28 = .ok (.iinc 1 1, 3) := by decide +kernel
theorem d_T_turn_31 : decode prog_11_method_13_code 31 = .ok (.goto (-29), 3) := by decide +kernel
theorem w1368 : Cond.fieldLink "SeriesVault$Table" 37 "SeriesVault$Table" "rowCount" "I" ∈ aW := aw_of (tb_2 (List.mem_of_getElem? (i := 59) rfl)) rfl
set_option maxHeartbeats 4000000 in
set_option maxRecDepth 100000 in
theorem v_Tturn (l : Launch) (D : va_G) (dA : Nat → ClassId) (sz : Nat) (ws : va_W) (ta : Nat → Nat) (t : TB) (hN : t.cN ≤ 65536) (h1 : t.rc * t.wi ≤ t.cN) : Met l ⟨"SeriesVault$Table", "turn", "()V"⟩ [Cond.code ⟨"SeriesVault$Table", "turn", "()V"⟩ prog_11_method_13_code 2 none] { frames := 1, cells := 0, slots := 0, locals := 0 } (pC D dA [.ref (ta 0)] (TbW dA ta t ++ (ws)) sz) (va_Qv (fun (u9 : Unit) => True) (fun (u9 : Unit) t9 => bW D (va_A (TbW dA ta t ++ (ws)) sz) (TbW dA ta (TB.s_ce t (tnG t.ce (t.rc * t.wi))) ++ (ws)) t9) (va_A (TbW dA ta t ++ (ws)) sz)) 0 0 (va_A (TbW dA ta t ++ (ws)) sz) := by
  refine mkC (y := ⟨"SeriesVault$Table", "turn", "()V"⟩) (cc := prog_11_method_13_code) (maxL := 2) (av := [.ref (ta 0)]) (ws := TbW dA ta t ++ (ws)) (sz := sz) (Qc := fun A => va_Qv (fun (u9 : Unit) => True) (fun (u9 : Unit) t9 => bW D A (TbW dA ta (TB.s_ce t (tnG t.ce (t.rc * t.wi))) ++ (ws)) t9) A) (by decide) (Nat.le_of_ble_eq_true rfl) ?_
  intro A p e s m below meth c ls hsz hB
  obtain ⟨hx, hb, hr, hml, hown, hin, hlk, hE, hK, hP, hD, hS, hA, hN, hl⟩ := hB
  have hown : s.vm.findClass "SeriesVault$Table" = some m.cls := hown
  have hl : lv_has ls 2 [(0, .ref (ta 0))] := hl
  obtain ⟨H, hH⟩ : ∃ z, z = s.heap := ⟨_, rfl⟩
  have hP : va_P D vwCl (TbW dA ta t ++ (ws)) H := by rw [hH]; exact hP
  have hS : va_S A s.heap H [] := by rw [hH]; exact hS
  rw [← hH]
  refine lv_iconst (v := 0) hx hb d_T_turn_0 (by decide) ?_
  refine lv_istore_n hx hb d_T_turn_1 rfl hl (by decide) rfl (fun ls hl => ?_)
  have hl : lv_has ls 2 [(1, .int 0), (0, .ref (ta 0))] := hl
  have L2 : ∀ (k9 : Nat) (i : Nat) (i1 : i ≤ t.rc * t.wi) (hk9 : t.rc * t.wi - i = k9), ∀ (H : Heap) (locs : List Loc) (ls : Array Slot) (hP : va_P D vwCl (TbW dA ta (TB.s_ce t (tnG t.ce i)) ++ (ws)) H) (hD : va_D A (TbW dA ta (TB.s_ce t (tnG t.ce i)) ++ (ws))) (hS : va_S A s.heap H locs) (hl : lv_has ls 2 [(1, .int (nI i)), (0, .ref (ta 0))]), W p l e ({ frames := 1, cells := 0, slots := 0, locals := 0 } : Room) s m ([.ref (ta 0)] : List Value).toArray below meth c H locs 0 0 (MQ below (va_Qv (fun (u9 : Unit) => True) (fun (u9 : Unit) t9 => bW D A (TbW dA ta (TB.s_ce t (tnG t.ce (t.rc * t.wi))) ++ (ws)) t9) A) ([.ref (ta 0)] : List Value).toArray s 0 0 A) (F0 m 2 ls []) := by
    intro k9
    induction k9 using Nat.strongRecOn with
    | ind k9 ih2 =>
      intro i i1 hk9 H locs ls hP hD hS hl
      refine lv_iload_n hx hb d_T_turn_2 rfl (lv_at hl 0 rfl) ?_
      refine lv_aload_n hx hb d_T_turn_3 rfl (lv_at hl 1 rfl) ?_
      refine gF (v := .int (nI t.rc)) hx hb hown hE hK hP 0 rfl rfl layT 3 (by decide) w1368 rfl d_T_turn_4 ?_
      refine lv_aload_n hx hb d_T_turn_7 rfl (lv_at hl 1 rfl) ?_
      refine gF (v := .int (nI t.wi)) hx hb hown hE hK hP 0 rfl rfl layT 2 (by decide) w1367 rfl d_T_turn_8 ?_
      refine lv_imul hx hb d_T_turn_11 (tpi (y := nI (t.rc * t.wi)) (pk_mul (t.rc) (t.wi)) ?_)
      refine lv_icmp_ge hx hb d_T_turn_12 (tgt := 34) rfl (fun g1 => ?_) (fun g1 => ?_)
      · have g1 := (nI_leI (a := t.rc * t.wi) (b := i) (by omega) (by omega)).mp g1
        have e9 : (TB.s_ce t (tnG t.ce i) : TB) = TB.s_ce t (tnG t.ce (t.rc * t.wi)) := by rw [show (tnG t.ce (t.rc * t.wi)) = (tnG t.ce i) from by (rw [show t.rc * t.wi = i by omega])] <;> rfl
        rw [e9] at hP hD
        exact rfV hx hb hr hlk hS () trivial hP hD (Nat.le_of_ble_eq_true rfl) (Nat.le_of_ble_eq_true rfl) d_T_turn_34
      · have g1 := mt (nI_leI (a := t.rc * t.wi) (b := i) (by omega) (by omega)).mpr g1
        refine lv_aload_n hx hb d_T_turn_15 rfl (lv_at hl 1 rfl) ?_
        refine gF (v := .ref t.cA) hx hb hown hE hK hP 0 rfl rfl layT 6 (by decide) w789 rfl d_T_turn_16 ?_
        refine lv_iload_n hx hb d_T_turn_19 rfl (lv_at hl 0 rfl) ?_
        refine lv_aload_n hx hb d_T_turn_20 rfl (lv_at hl 1 rfl) ?_
        refine gF (v := .ref t.cA) hx hb hown hE hK hP 0 rfl rfl layT 6 (by decide) w789 rfl d_T_turn_21 ?_
        refine lv_iload_n hx hb d_T_turn_24 rfl (lv_at hl 0 rfl) ?_
        refine nlld (f := (tnG t.ce i)) (n := t.cN) hx hb hK hP (4) 2 rfl rfl (i) (by omega) (by omega) d_T_turn_25 ?_
        refine tpl (y := (t.ce i)) (tnG_at _ (Nat.le_refl i)) ?_
        refine lv_lneg hx hb d_T_turn_26 ?_
        refine nlst (n := t.cN) hx hb hK hP hD hS (4) 2 rfl rfl (i) (by omega) (by omega) d_T_turn_27 (fun H locs hP hD hS => ?_)
        have hP : va_P D vwCl (TbW dA ta (TB.s_ce t (va_up (tnG t.ce i) i (-(t.ce i)))) ++ (ws)) H := hP
        have hD : va_D A (TbW dA ta (TB.s_ce t (va_up (tnG t.ce i) i (-(t.ce i)))) ++ (ws)) := hD
        refine lv_iinc (k := 0) (v := nI (i + 1)) hx hb d_T_turn_28 hl rfl (iincN (i) 1 1 (by decide)) (by decide) rfl (fun ls hl => ?_)
        have hl : lv_has ls 2 [(1, .int (nI (i + 1))), (0, .ref (ta 0))] := hl
        refine lv_goto hx hb d_T_turn_31 (tgt := 2) rfl ?_
        have e9 : (TB.s_ce t (va_up (tnG t.ce i) i (-(t.ce i))) : TB) = TB.s_ce t (tnG t.ce (i + 1)) := by rw [show (tnG t.ce (i + 1)) = (va_up (tnG t.ce i) i (-(t.ce i))) from rfl] <;> rfl
        rw [e9] at hP hD
        exact ih2 _ (by omega) (i + 1) (by omega) rfl H _ ls hP hD hS (lv_sub hl [0, 1] rfl)
  have e9 : (t : TB) = TB.s_ce t (tnG t.ce 0) := by rw [show (tnG t.ce 0) = t.ce from rfl] <;> rfl
  rw [e9] at hP hD
  exact L2 _ 0 (Nat.zero_le _) rfl H _ ls hP hD hS (lv_sub hl [0, 1] rfl)
theorem d_Arrays_rangeCheck_0 : decode prog_38_method_30_code 0 = .ok (.iload_n 1, 1) := by decide +kernel
theorem d_Arrays_rangeCheck_1 : decode prog_38_method_30_code 1 = .ok (.iload_n 2, 1) := by decide +kernel
theorem d_Arrays_rangeCheck_2 : decode prog_38_method_30_code 2 = .ok (.if_icmp .le 44, 3) := by decide +kernel
theorem d_Arrays_rangeCheck_46 : decode prog_38_method_30_code 46 = .ok (.iload_n 1, 1) := by decide +kernel
theorem d_Arrays_rangeCheck_47 : decode prog_38_method_30_code 47 = .ok (.ifCond .ge 12, 3) := by decide +kernel
theorem d_Arrays_rangeCheck_59 : decode prog_38_method_30_code 59 = .ok (.iload_n 2, 1) := by decide +kernel
theorem d_Arrays_rangeCheck_60 : decode prog_38_method_30_code 60 = .ok (.iload_n 0, 1) := by decide +kernel
theorem d_Arrays_rangeCheck_61 : decode prog_38_method_30_code 61 = .ok (.if_icmp .le 12, 3) := by decide +kernel
theorem d_Arrays_rangeCheck_73 : decode prog_38_method_30_code 73 = .ok (.return_, 1) := by decide +kernel
set_option maxHeartbeats 4000000 in
set_option maxRecDepth 100000 in
theorem v_rangeCheck (l : Launch) (D : va_G) (dA : Nat → ClassId) (sz : Nat) (n : Nat) (a : Nat) (b : Nat) (h1 : a ≤ b) (h2 : b ≤ n) (h3 : n ≤ 65536) : Met l ⟨"java/util/Arrays", "rangeCheck", "(III)V"⟩ [Cond.code ⟨"java/util/Arrays", "rangeCheck", "(III)V"⟩ prog_38_method_30_code 3 none] { frames := 1, cells := 0, slots := 0, locals := 0 } (pC D dA [.int (nI n), .int (nI a), .int (nI b)] ([]) sz) (va_Qv (fun (u9 : Unit) => True) (fun (u9 : Unit) t9 => bW D (va_A ([]) sz) ([]) t9) (va_A ([]) sz)) 0 0 (va_A ([]) sz) := by
  refine mkC (y := ⟨"java/util/Arrays", "rangeCheck", "(III)V"⟩) (cc := prog_38_method_30_code) (maxL := 3) (av := [.int (nI n), .int (nI a), .int (nI b)]) (ws := []) (sz := sz) (Qc := fun A => va_Qv (fun (u9 : Unit) => True) (fun (u9 : Unit) t9 => bW D A ([]) t9) A) (by decide) (Nat.le_of_ble_eq_true rfl) ?_
  intro A p e s m below meth c ls hsz hB
  obtain ⟨hx, hb, hr, hml, hown, hin, hlk, hE, hK, hP, hD, hS, hA, hN, hl⟩ := hB
  have hown : s.vm.findClass "java/util/Arrays" = some m.cls := hown
  have hl : lv_has ls 3 [(0, .int (nI n)), (1, .int (nI a)), (2, .int (nI b))] := hl
  obtain ⟨H, hH⟩ : ∃ z, z = s.heap := ⟨_, rfl⟩
  have hP : va_P D vwCl ([]) H := by rw [hH]; exact hP
  have hS : va_S A s.heap H [] := by rw [hH]; exact hS
  rw [← hH]
  refine lv_iload_n hx hb d_Arrays_rangeCheck_0 rfl (lv_at hl 1 rfl) ?_
  refine lv_iload_n hx hb d_Arrays_rangeCheck_1 rfl (lv_at hl 2 rfl) ?_
  refine lv_icmp_le hx hb d_Arrays_rangeCheck_2 (tgt := 46) rfl (fun _ => ?_) (fun h9 => absurd ((nI_leI (a := a) (b := b) (by omega) (by omega)).mpr h1) h9)
  refine lv_iload_n hx hb d_Arrays_rangeCheck_46 rfl (lv_at hl 1 rfl) ?_
  refine lv_if_ge hx hb d_Arrays_rangeCheck_47 (tgt := 59) rfl (fun _ => ?_) (fun h9 => absurd (nI_pos' (n := a) (by omega)) h9)
  refine lv_iload_n hx hb d_Arrays_rangeCheck_59 rfl (lv_at hl 2 rfl) ?_
  refine lv_iload_n hx hb d_Arrays_rangeCheck_60 rfl (lv_at hl 0 rfl) ?_
  refine lv_icmp_le hx hb d_Arrays_rangeCheck_61 (tgt := 73) rfl (fun _ => ?_) (fun h9 => absurd ((nI_leI (a := b) (b := n) (by omega) (by omega)).mpr h2) h9)
  exact rfV hx hb hr hlk hS () trivial hP hD (Nat.le_of_ble_eq_true rfl) (Nat.le_of_ble_eq_true rfl) d_Arrays_rangeCheck_73
theorem d_Arrays_fill_6c8_0 : decode prog_38_method_102_code 0 = .ok (.aload_n 0, 1) := by decide +kernel
theorem d_Arrays_fill_6c8_1 : decode prog_38_method_102_code 1 = .ok (.arraylength, 1) := by decide +kernel
theorem d_Arrays_fill_6c8_2 : decode prog_38_method_102_code 2 = .ok (.iload_n 1, 1) := by decide +kernel
theorem d_Arrays_fill_6c8_3 : decode prog_38_method_102_code 3 = .ok (.iload_n 2, 1) := by decide +kernel
theorem d_Arrays_fill_6c8_4 : decode prog_38_method_102_code 4 = .ok (.invokestatic 13, 3) := by decide +kernel
theorem d_Arrays_fill_6c8_7 : decode prog_38_method_102_code 7 = .ok (.iload_n 1, 1) := by decide +kernel
theorem d_Arrays_fill_6c8_8 : decode prog_38_method_102_code 8 = .ok (.istore 5, 2) := by decide +kernel
theorem d_Arrays_fill_6c8_10 : decode prog_38_method_102_code 10 = .ok (.iload 5, 2) := by decide +kernel
theorem d_Arrays_fill_6c8_12 : decode prog_38_method_102_code 12 = .ok (.iload_n 2, 1) := by decide +kernel
theorem d_Arrays_fill_6c8_13 : decode prog_38_method_102_code 13 = .ok (.if_icmp .ge 14, 3) := by decide +kernel
theorem d_Arrays_fill_6c8_27 : decode prog_38_method_102_code 27 = .ok (.return_, 1) := by decide +kernel
theorem d_Arrays_fill_6c8_16 : decode prog_38_method_102_code 16 = .ok (.aload_n 0, 1) := by decide +kernel
theorem d_Arrays_fill_6c8_17 : decode prog_38_method_102_code 17 = .ok (.iload 5, 2) := by decide +kernel
theorem d_Arrays_fill_6c8_19 : decode prog_38_method_102_code 19 = .ok (.lload_n 3, 1) := by decide +kernel
theorem d_Arrays_fill_6c8_20 : decode prog_38_method_102_code 20 = .ok (.lastore, 1) := by decide +kernel
theorem d_Arrays_fill_6c8_21 : decode prog_38_method_102_code 21 = .ok (.iinc 5 1, 3) := by decide +kernel
theorem d_Arrays_fill_6c8_24 : decode prog_38_method_102_code 24 = .ok (.goto (-14), 3) := by decide +kernel
theorem w1369 : Cond.methodLink "java/util/Arrays" 13 ⟨"java/util/Arrays", "rangeCheck", "(III)V"⟩ ∈ aW := aw_of (tb_7 (List.mem_of_getElem? (i := 152) rfl)) rfl
theorem w1370 : Cond.code ⟨"java/util/Arrays", "rangeCheck", "(III)V"⟩ prog_38_method_30_code 3 none ∈ aW := aw_of (tb_7 (List.mem_of_getElem? (i := 154) rfl)) rfl
theorem w1371 : Cond.static ⟨"java/util/Arrays", "rangeCheck", "(III)V"⟩ ∈ aW := aw_of (tb_7 (List.mem_of_getElem? (i := 153) rfl)) rfl
set_option maxHeartbeats 4000000 in
set_option maxRecDepth 100000 in
theorem v_Tfill_c (l : Launch) (D : va_G) (dA : Nat → ClassId) (sz : Nat) (ws : va_W) (ta : Nat → Nat) (t : TB) (b : Nat) (hN : t.cN ≤ 65536) (h1 : b ≤ t.cN) : Met l ⟨"java/util/Arrays", "fill", "([JIIJ)V"⟩ [Cond.code ⟨"java/util/Arrays", "fill", "([JIIJ)V"⟩ prog_38_method_102_code 6 none] { frames := 2, cells := 0, slots := 0, locals := 22 } (pC D dA [.ref t.cA, .int 0, .int (nI b), .long 0] (TbW dA ta t ++ (ws)) sz) (va_Qv (fun (u9 : Unit) => True) (fun (u9 : Unit) t9 => bW D (va_A (TbW dA ta t ++ (ws)) sz) (TbW dA ta (TB.s_ce t (filG t.ce 0 0 b)) ++ (ws)) t9) (va_A (TbW dA ta t ++ (ws)) sz)) 0 0 (va_A (TbW dA ta t ++ (ws)) sz) := by
  refine mkC (y := ⟨"java/util/Arrays", "fill", "([JIIJ)V"⟩) (cc := prog_38_method_102_code) (maxL := 6) (av := [.ref t.cA, .int 0, .int (nI b), .long 0]) (ws := TbW dA ta t ++ (ws)) (sz := sz) (Qc := fun A => va_Qv (fun (u9 : Unit) => True) (fun (u9 : Unit) t9 => bW D A (TbW dA ta (TB.s_ce t (filG t.ce 0 0 b)) ++ (ws)) t9) A) (by decide) (Nat.le_of_ble_eq_true rfl) ?_
  intro A p e s m below meth c ls hsz hB
  obtain ⟨hx, hb, hr, hml, hown, hin, hlk, hE, hK, hP, hD, hS, hA, hN, hl⟩ := hB
  have hown : s.vm.findClass "java/util/Arrays" = some m.cls := hown
  have hl : lv_has ls 6 [(0, .ref t.cA), (1, .int 0), (2, .int (nI b)), (3, .long 0)] := hl
  obtain ⟨H, hH⟩ : ∃ z, z = s.heap := ⟨_, rfl⟩
  have hP : va_P D vwCl (TbW dA ta t ++ (ws)) H := by rw [hH]; exact hP
  have hS : va_S A s.heap H [] := by rw [hH]; exact hS
  rw [← hH]
  refine lv_aload_n hx hb d_Arrays_fill_6c8_0 rfl (lv_at hl 0 rfl) ?_
  refine va_alen (v := nI t.cN) hx hb hK hP (4) 2 rfl rfl rfl d_Arrays_fill_6c8_1 ?_
  refine lv_iload_n hx hb d_Arrays_fill_6c8_2 rfl (lv_at hl 1 rfl) ?_
  refine lv_iload_n hx hb d_Arrays_fill_6c8_3 rfl (lv_at hl 2 rfl) ?_
  have hPc := hP.sub (ws' := []) [] rfl
  have hDc := hD.sub (ws' := []) [] (by decide) rfl
  refine jpV (rnS (As := [.int (nI t.cN), .int 0, .int (nI b)]) (rest := []) hx hb hml hown hE hK (hN _ _ hS) hPc hDc (v_rangeCheck l D dA H.size t.cN 0 b (show 0 ≤ b from by omega) (show b ≤ t.cN from by omega) (show t.cN ≤ 65536 from by omega)) w1370 w1369 w1371 w712 rfl rfl ⟨⟨by decide, by decide⟩, rfl⟩ ⟨(Nat.le_of_ble_eq_true rfl), (Nat.le_of_ble_eq_true rfl)⟩ rfl hl.1 rfl (Nat.le_of_ble_eq_true rfl) d_Arrays_fill_6c8_4 ⟨(Nat.le_of_ble_eq_true rfl), (Nat.le_of_ble_eq_true rfl)⟩) hP hD hS hA (fun u9 H locs hp9 hP hD hS => ?_)
  have hP : va_P D vwCl (TbW dA ta t ++ (ws)) H := hP
  have hD : va_D A (TbW dA ta t ++ (ws)) := hD
  refine lv_iload_n hx hb d_Arrays_fill_6c8_7 rfl (lv_at hl 1 rfl) ?_
  refine lv_istore hx hb d_Arrays_fill_6c8_8 hl (by decide) rfl (fun ls hl => ?_)
  have hl : lv_has ls 6 [(5, .int 0), (0, .ref t.cA), (1, .int 0), (2, .int (nI b)), (3, .long 0)] := hl
  have L10 : ∀ (k9 : Nat) (k : Nat) (i1 : k ≤ b) (hk9 : b - k = k9), ∀ (H : Heap) (locs : List Loc) (ls : Array Slot) (hP : va_P D vwCl (TbW dA ta (TB.s_ce t (filG t.ce 0 0 k)) ++ (ws)) H) (hD : va_D A (TbW dA ta (TB.s_ce t (filG t.ce 0 0 k)) ++ (ws))) (hS : va_S A s.heap H locs) (hl : lv_has ls 6 [(5, .int (nI k)), (0, .ref t.cA), (1, .int 0), (2, .int (nI b)), (3, .long 0)]), W p l e ({ frames := 2, cells := 0, slots := 0, locals := 22 } : Room) s m ([.ref t.cA, .int 0, .int (nI b), .long 0] : List Value).toArray below meth c H locs 0 0 (MQ below (va_Qv (fun (u9 : Unit) => True) (fun (u9 : Unit) t9 => bW D A (TbW dA ta (TB.s_ce t (filG t.ce 0 0 b)) ++ (ws)) t9) A) ([.ref t.cA, .int 0, .int (nI b), .long 0] : List Value).toArray s 0 0 A) (F0 m 10 ls []) := by
    intro k9
    induction k9 using Nat.strongRecOn with
    | ind k9 ih10 =>
      intro k i1 hk9 H locs ls hP hD hS hl
      refine lv_iload hx hb d_Arrays_fill_6c8_10 (lv_at hl 0 rfl) ?_
      refine lv_iload_n hx hb d_Arrays_fill_6c8_12 rfl (lv_at hl 3 rfl) ?_
      refine lv_icmp_ge hx hb d_Arrays_fill_6c8_13 (tgt := 27) rfl (fun g3 => ?_) (fun g3 => ?_)
      · have g3 := (nI_leI (a := b) (b := k) (by omega) (by omega)).mp g3
        have e9 : (TB.s_ce t (filG t.ce 0 0 k) : TB) = TB.s_ce t (filG t.ce 0 0 b) := by rw [show (filG t.ce 0 0 b) = (filG t.ce 0 0 k) from by (rw [show b = k by omega])] <;> rfl
        rw [e9] at hP hD
        exact rfV hx hb hr hlk hS () trivial hP hD (Nat.le_of_ble_eq_true rfl) (Nat.le_of_ble_eq_true rfl) d_Arrays_fill_6c8_27
      · have g3 := mt (nI_leI (a := b) (b := k) (by omega) (by omega)).mpr g3
        refine lv_aload_n hx hb d_Arrays_fill_6c8_16 rfl (lv_at hl 1 rfl) ?_
        refine lv_iload hx hb d_Arrays_fill_6c8_17 (lv_at hl 0 rfl) ?_
        refine lv_lload_n hx hb d_Arrays_fill_6c8_19 rfl (lv_at hl 4 rfl) ?_
        refine nlst (n := t.cN) hx hb hK hP hD hS (4) 2 rfl rfl (k) (by omega) (by omega) d_Arrays_fill_6c8_20 (fun H locs hP hD hS => ?_)
        have hP : va_P D vwCl (TbW dA ta (TB.s_ce t (va_up (filG t.ce 0 0 k) k 0)) ++ (ws)) H := hP
        have hD : va_D A (TbW dA ta (TB.s_ce t (va_up (filG t.ce 0 0 k) k 0)) ++ (ws)) := hD
        refine lv_iinc (k := 0) (v := nI (k + 1)) hx hb d_Arrays_fill_6c8_21 hl rfl (iincN (k) 1 1 (by decide)) (by decide) rfl (fun ls hl => ?_)
        have hl : lv_has ls 6 [(5, .int (nI (k + 1))), (0, .ref t.cA), (1, .int 0), (2, .int (nI b)), (3, .long 0)] := hl
        refine lv_goto hx hb d_Arrays_fill_6c8_24 (tgt := 10) rfl ?_
        have e9 : (TB.s_ce t (va_up (filG t.ce 0 0 k) k 0) : TB) = TB.s_ce t (filG t.ce 0 0 (k + 1)) := by rw [show (filG t.ce 0 0 (k + 1)) = (va_up (filG t.ce 0 0 k) k 0) from (show va_up _ (0 + k) 0 = _ by rw [Nat.zero_add])] <;> rfl
        rw [e9] at hP hD
        exact ih10 _ (by omega) (k + 1) (by omega) rfl H _ ls hP hD hS (lv_sub hl [0, 1, 2, 3, 4] rfl)
  have e9 : (t : TB) = TB.s_ce t (filG t.ce 0 0 0) := by rw [show (filG t.ce 0 0 0) = t.ce from rfl] <;> rfl
  rw [e9] at hP hD
  exact L10 _ 0 (Nat.zero_le _) rfl H _ ls hP hD hS (lv_sub hl [0, 1, 2, 3, 4] rfl)
set_option maxHeartbeats 4000000 in
set_option maxRecDepth 100000 in
theorem v_Tfill_t (l : Launch) (D : va_G) (dA : Nat → ClassId) (sz : Nat) (ws : va_W) (ta : Nat → Nat) (t : TB) (b : Nat) (hN : t.cN ≤ 65536) (h1 : b ≤ 256) : Met l ⟨"java/util/Arrays", "fill", "([JIIJ)V"⟩ [Cond.code ⟨"java/util/Arrays", "fill", "([JIIJ)V"⟩ prog_38_method_102_code 6 none] { frames := 2, cells := 0, slots := 0, locals := 22 } (pC D dA [.ref (ta 3), .int 0, .int (nI b), .long 0] (TbW dA ta t ++ (ws)) sz) (va_Qv (fun (u9 : Unit) => True) (fun (u9 : Unit) t9 => bW D (va_A (TbW dA ta t ++ (ws)) sz) (TbW dA ta (TB.s_th t (filG t.th 0 0 b)) ++ (ws)) t9) (va_A (TbW dA ta t ++ (ws)) sz)) 0 0 (va_A (TbW dA ta t ++ (ws)) sz) := by
  refine mkC (y := ⟨"java/util/Arrays", "fill", "([JIIJ)V"⟩) (cc := prog_38_method_102_code) (maxL := 6) (av := [.ref (ta 3), .int 0, .int (nI b), .long 0]) (ws := TbW dA ta t ++ (ws)) (sz := sz) (Qc := fun A => va_Qv (fun (u9 : Unit) => True) (fun (u9 : Unit) t9 => bW D A (TbW dA ta (TB.s_th t (filG t.th 0 0 b)) ++ (ws)) t9) A) (by decide) (Nat.le_of_ble_eq_true rfl) ?_
  intro A p e s m below meth c ls hsz hB
  obtain ⟨hx, hb, hr, hml, hown, hin, hlk, hE, hK, hP, hD, hS, hA, hN, hl⟩ := hB
  have hown : s.vm.findClass "java/util/Arrays" = some m.cls := hown
  have hl : lv_has ls 6 [(0, .ref (ta 3)), (1, .int 0), (2, .int (nI b)), (3, .long 0)] := hl
  obtain ⟨H, hH⟩ : ∃ z, z = s.heap := ⟨_, rfl⟩
  have hP : va_P D vwCl (TbW dA ta t ++ (ws)) H := by rw [hH]; exact hP
  have hS : va_S A s.heap H [] := by rw [hH]; exact hS
  rw [← hH]
  refine lv_aload_n hx hb d_Arrays_fill_6c8_0 rfl (lv_at hl 0 rfl) ?_
  refine va_alen (v := 256) hx hb hK hP (3) 2 rfl rfl rfl d_Arrays_fill_6c8_1 ?_
  refine lv_iload_n hx hb d_Arrays_fill_6c8_2 rfl (lv_at hl 1 rfl) ?_
  refine lv_iload_n hx hb d_Arrays_fill_6c8_3 rfl (lv_at hl 2 rfl) ?_
  have hPc := hP.sub (ws' := []) [] rfl
  have hDc := hD.sub (ws' := []) [] (by decide) rfl
  refine jpV (rnS (As := [.int 256, .int 0, .int (nI b)]) (rest := []) hx hb hml hown hE hK (hN _ _ hS) hPc hDc (v_rangeCheck l D dA H.size 256 0 b (show 0 ≤ b from by omega) (show b ≤ 256 from by omega) (show 256 ≤ 65536 from by omega)) w1370 w1369 w1371 w712 rfl rfl ⟨⟨by decide, by decide⟩, rfl⟩ ⟨(Nat.le_of_ble_eq_true rfl), (Nat.le_of_ble_eq_true rfl)⟩ rfl hl.1 rfl (Nat.le_of_ble_eq_true rfl) d_Arrays_fill_6c8_4 ⟨(Nat.le_of_ble_eq_true rfl), (Nat.le_of_ble_eq_true rfl)⟩) hP hD hS hA (fun u9 H locs hp9 hP hD hS => ?_)
  have hP : va_P D vwCl (TbW dA ta t ++ (ws)) H := hP
  have hD : va_D A (TbW dA ta t ++ (ws)) := hD
  refine lv_iload_n hx hb d_Arrays_fill_6c8_7 rfl (lv_at hl 1 rfl) ?_
  refine lv_istore hx hb d_Arrays_fill_6c8_8 hl (by decide) rfl (fun ls hl => ?_)
  have hl : lv_has ls 6 [(5, .int 0), (0, .ref (ta 3)), (1, .int 0), (2, .int (nI b)), (3, .long 0)] := hl
  have L10 : ∀ (k9 : Nat) (k : Nat) (i1 : k ≤ b) (hk9 : b - k = k9), ∀ (H : Heap) (locs : List Loc) (ls : Array Slot) (hP : va_P D vwCl (TbW dA ta (TB.s_th t (filG t.th 0 0 k)) ++ (ws)) H) (hD : va_D A (TbW dA ta (TB.s_th t (filG t.th 0 0 k)) ++ (ws))) (hS : va_S A s.heap H locs) (hl : lv_has ls 6 [(5, .int (nI k)), (0, .ref (ta 3)), (1, .int 0), (2, .int (nI b)), (3, .long 0)]), W p l e ({ frames := 2, cells := 0, slots := 0, locals := 22 } : Room) s m ([.ref (ta 3), .int 0, .int (nI b), .long 0] : List Value).toArray below meth c H locs 0 0 (MQ below (va_Qv (fun (u9 : Unit) => True) (fun (u9 : Unit) t9 => bW D A (TbW dA ta (TB.s_th t (filG t.th 0 0 b)) ++ (ws)) t9) A) ([.ref (ta 3), .int 0, .int (nI b), .long 0] : List Value).toArray s 0 0 A) (F0 m 10 ls []) := by
    intro k9
    induction k9 using Nat.strongRecOn with
    | ind k9 ih10 =>
      intro k i1 hk9 H locs ls hP hD hS hl
      refine lv_iload hx hb d_Arrays_fill_6c8_10 (lv_at hl 0 rfl) ?_
      refine lv_iload_n hx hb d_Arrays_fill_6c8_12 rfl (lv_at hl 3 rfl) ?_
      refine lv_icmp_ge hx hb d_Arrays_fill_6c8_13 (tgt := 27) rfl (fun g3 => ?_) (fun g3 => ?_)
      · have g3 := (nI_leI (a := b) (b := k) (by omega) (by omega)).mp g3
        have e9 : (TB.s_th t (filG t.th 0 0 k) : TB) = TB.s_th t (filG t.th 0 0 b) := by rw [show (filG t.th 0 0 b) = (filG t.th 0 0 k) from by (rw [show b = k by omega])] <;> rfl
        rw [e9] at hP hD
        exact rfV hx hb hr hlk hS () trivial hP hD (Nat.le_of_ble_eq_true rfl) (Nat.le_of_ble_eq_true rfl) d_Arrays_fill_6c8_27
      · have g3 := mt (nI_leI (a := b) (b := k) (by omega) (by omega)).mpr g3
        refine lv_aload_n hx hb d_Arrays_fill_6c8_16 rfl (lv_at hl 1 rfl) ?_
        refine lv_iload hx hb d_Arrays_fill_6c8_17 (lv_at hl 0 rfl) ?_
        refine lv_lload_n hx hb d_Arrays_fill_6c8_19 rfl (lv_at hl 4 rfl) ?_
        refine nlst (n := 256) hx hb hK hP hD hS (3) 2 rfl rfl (k) (by omega) (by decide) d_Arrays_fill_6c8_20 (fun H locs hP hD hS => ?_)
        have hP : va_P D vwCl (TbW dA ta (TB.s_th t (va_up (filG t.th 0 0 k) k 0)) ++ (ws)) H := hP
        have hD : va_D A (TbW dA ta (TB.s_th t (va_up (filG t.th 0 0 k) k 0)) ++ (ws)) := hD
        refine lv_iinc (k := 0) (v := nI (k + 1)) hx hb d_Arrays_fill_6c8_21 hl rfl (iincN (k) 1 1 (by decide)) (by decide) rfl (fun ls hl => ?_)
        have hl : lv_has ls 6 [(5, .int (nI (k + 1))), (0, .ref (ta 3)), (1, .int 0), (2, .int (nI b)), (3, .long 0)] := hl
        refine lv_goto hx hb d_Arrays_fill_6c8_24 (tgt := 10) rfl ?_
        have e9 : (TB.s_th t (va_up (filG t.th 0 0 k) k 0) : TB) = TB.s_th t (filG t.th 0 0 (k + 1)) := by rw [show (filG t.th 0 0 (k + 1)) = (va_up (filG t.th 0 0 k) k 0) from (show va_up _ (0 + k) 0 = _ by rw [Nat.zero_add])] <;> rfl
        rw [e9] at hP hD
        exact ih10 _ (by omega) (k + 1) (by omega) rfl H _ ls hP hD hS (lv_sub hl [0, 1, 2, 3, 4] rfl)
  have e9 : (t : TB) = TB.s_th t (filG t.th 0 0 0) := by rw [show (filG t.th 0 0 0) = t.th from rfl] <;> rfl
  rw [e9] at hP hD
  exact L10 _ 0 (Nat.zero_le _) rfl H _ ls hP hD hS (lv_sub hl [0, 1, 2, 3, 4] rfl)
theorem d_T_clearCells_0 : decode prog_11_method_8_code 0 = .ok (.aload_n 0, 1) := by decide +kernel
theorem d_T_clearCells_1 : decode prog_11_method_8_code 1 = .ok (.getfield 37, 3) := by decide +kernel
theorem d_T_clearCells_4 : decode prog_11_method_8_code 4 = .ok (.aload_n 0, 1) := by decide +kernel
theorem d_T_clearCells_5 : decode prog_11_method_8_code 5 = .ok (.getfield 30, 3) := by decide +kernel
theorem d_T_clearCells_8 : decode prog_11_method_8_code 8 = .ok (.imul, 1) := by decide +kernel
theorem d_T_clearCells_9 : decode prog_11_method_8_code 9 = .ok (.istore_n 1, 1) := by decide +kernel
theorem d_T_clearCells_10 : decode prog_11_method_8_code 10 = .ok (.iload_n 1, 1) := by decide +kernel
theorem d_T_clearCells_11 : decode prog_11_method_8_code 11 = .ok (.aload_n 0, 1) := by decide +kernel
theorem d_T_clearCells_12 : decode prog_11_method_8_code 12 = .ok (.getfield 27, 3) := by decide +kernel
theorem d_T_clearCells_15 : decode prog_11_method_8_code 15 = .ok (.arraylength, 1) := by decide +kernel
theorem d_T_clearCells_16 : decode prog_11_method_8_code 16 = .ok (.if_icmp .le 20, 3) := by decide +kernel
theorem d_T_clearCells_36 : decode prog_11_method_8_code 36 = .ok (.aload_n 0, 1) := by decide +kernel
theorem d_T_clearCells_37 : decode prog_11_method_8_code 37 = .ok (.getfield 27, 3) := by decide +kernel
theorem d_T_clearCells_40 : decode prog_11_method_8_code 40 = .ok (.iconst 0, 1) := by decide +kernel
theorem d_T_clearCells_41 : decode prog_11_method_8_code 41 = .ok (.iload_n 1, 1) := by decide +kernel
theorem d_T_clearCells_42 : decode prog_11_method_8_code 42 = .ok (.lconst 0, 1) := by decide +kernel
theorem d_T_clearCells_43 : decode prog_11_method_8_code 43 = .ok (.invokestatic 73, 3) := by decide +kernel
theorem d_T_clearCells_46 : decode prog_11_method_8_code 46 = .ok (.aload_n 0, 1) := by decide +kernel
theorem d_T_clearCells_47 : decode prog_11_method_8_code 47 = .ok (.getfield 23, 3) := by decide +kernel
theorem d_T_clearCells_50 : decode prog_11_method_8_code 50 = .ok (.iconst 0, 1) := by decide +kernel
theorem d_T_clearCells_51 : decode prog_11_method_8_code 51 = .ok (.aload_n 0, 1) := by decide +kernel
theorem d_T_clearCells_52 : decode prog_11_method_8_code 52 = .ok (.getfield 37, 3) := by decide +kernel
theorem d_T_clearCells_55 : decode prog_11_method_8_code 55 = .ok (.lconst 0, 1) := by decide +kernel
theorem d_T_clearCells_56 : decode prog_11_method_8_code 56 = .ok (.invokestatic 73, 3) := by decide +kernel
theorem d_T_clearCells_59 : decode prog_11_method_8_code 59 = .ok (.return_, 1) := by decide +kernel
theorem w1372 : Cond.methodLink "SeriesVault$Table" 73 ⟨"java/util/Arrays", "fill", "([JIIJ)V"⟩ ∈ aW := aw_of (tb_7 (List.mem_of_getElem? (i := 149) rfl)) rfl
theorem w1373 : Cond.code ⟨"java/util/Arrays", "fill", "([JIIJ)V"⟩ prog_38_method_102_code 6 none ∈ aW := aw_of (tb_7 (List.mem_of_getElem? (i := 151) rfl)) rfl
theorem w1374 : Cond.static ⟨"java/util/Arrays", "fill", "([JIIJ)V"⟩ ∈ aW := aw_of (tb_7 (List.mem_of_getElem? (i := 150) rfl)) rfl
set_option maxHeartbeats 4000000 in
set_option maxRecDepth 100000 in
theorem v_TclearCells_0 (l : Launch) (D : va_G) (dA : Nat → ClassId) (sz : Nat) (ws : va_W) (ta : Nat → Nat) (t : TB) (hN : t.cN ≤ 65536) (h1 : t.rc * t.wi ≤ t.cN) (h2 : t.rc ≤ 256) : Met l ⟨"SeriesVault$Table", "clearCells", "()V"⟩ [Cond.code ⟨"SeriesVault$Table", "clearCells", "()V"⟩ prog_11_method_8_code 2 none] { frames := 3, cells := 0, slots := 0, locals := 47 } (pC D dA [.ref (ta 0)] (TbW dA ta t ++ (ws)) sz) (va_Qv (fun (u9 : Unit) => True) (fun (u9 : Unit) t9 => bW D (va_A (TbW dA ta t ++ (ws)) sz) (TbW dA ta (TB.s_ce (TB.s_th t (filG t.th 0 0 t.rc)) (filG t.ce 0 0 (t.rc * t.wi))) ++ (ws)) t9) (va_A (TbW dA ta t ++ (ws)) sz)) 0 0 (va_A (TbW dA ta t ++ (ws)) sz) := by
  refine mkC (y := ⟨"SeriesVault$Table", "clearCells", "()V"⟩) (cc := prog_11_method_8_code) (maxL := 2) (av := [.ref (ta 0)]) (ws := TbW dA ta t ++ (ws)) (sz := sz) (Qc := fun A => va_Qv (fun (u9 : Unit) => True) (fun (u9 : Unit) t9 => bW D A (TbW dA ta (TB.s_ce (TB.s_th t (filG t.th 0 0 t.rc)) (filG t.ce 0 0 (t.rc * t.wi))) ++ (ws)) t9) A) (by decide) (Nat.le_of_ble_eq_true rfl) ?_
  intro A p e s m below meth c ls hsz hB
  obtain ⟨hx, hb, hr, hml, hown, hin, hlk, hE, hK, hP, hD, hS, hA, hN, hl⟩ := hB
  have hown : s.vm.findClass "SeriesVault$Table" = some m.cls := hown
  have hl : lv_has ls 2 [(0, .ref (ta 0))] := hl
  obtain ⟨H, hH⟩ : ∃ z, z = s.heap := ⟨_, rfl⟩
  have hP : va_P D vwCl (TbW dA ta t ++ (ws)) H := by rw [hH]; exact hP
  have hS : va_S A s.heap H [] := by rw [hH]; exact hS
  rw [← hH]
  refine lv_aload_n hx hb d_T_clearCells_0 rfl (lv_at hl 0 rfl) ?_
  refine gF (v := .int (nI t.rc)) hx hb hown hE hK hP 0 rfl rfl layT 3 (by decide) w1368 rfl d_T_clearCells_1 ?_
  refine lv_aload_n hx hb d_T_clearCells_4 rfl (lv_at hl 0 rfl) ?_
  refine gF (v := .int (nI t.wi)) hx hb hown hE hK hP 0 rfl rfl layT 2 (by decide) w1367 rfl d_T_clearCells_5 ?_
  refine lv_imul hx hb d_T_clearCells_8 (tpi (y := nI (t.rc * t.wi)) (pk_mul (t.rc) (t.wi)) ?_)
  refine lv_istore_n hx hb d_T_clearCells_9 rfl hl (by decide) rfl (fun ls hl => ?_)
  have hl : lv_has ls 2 [(1, .int (nI (t.rc * t.wi))), (0, .ref (ta 0))] := hl
  refine lv_iload_n hx hb d_T_clearCells_10 rfl (lv_at hl 0 rfl) ?_
  refine lv_aload_n hx hb d_T_clearCells_11 rfl (lv_at hl 1 rfl) ?_
  refine gF (v := .ref t.cA) hx hb hown hE hK hP 0 rfl rfl layT 6 (by decide) w789 rfl d_T_clearCells_12 ?_
  refine va_alen (v := nI t.cN) hx hb hK hP (4) 2 rfl rfl rfl d_T_clearCells_15 ?_
  refine lv_icmp_le hx hb d_T_clearCells_16 (tgt := 36) rfl (fun _ => ?_) (fun h9 => absurd ((nI_leI (a := t.rc * t.wi) (b := t.cN) (by omega) (by omega)).mpr h1) h9)
  refine lv_aload_n hx hb d_T_clearCells_36 rfl (lv_at hl 1 rfl) ?_
  refine gF (v := .ref t.cA) hx hb hown hE hK hP 0 rfl rfl layT 6 (by decide) w789 rfl d_T_clearCells_37 ?_
  refine lv_iconst (v := 0) hx hb d_T_clearCells_40 (by decide) ?_
  refine lv_iload_n hx hb d_T_clearCells_41 rfl (lv_at hl 0 rfl) ?_
  refine lv_lconst (v := 0) hx hb d_T_clearCells_42 (by decide) ?_
  refine jkV (wr := []) (rnS (As := [.ref t.cA, .int 0, .int (nI (t.rc * t.wi)), .long 0]) (rest := []) hx hb hml hown hE hK (hN _ _ hS) hP hD (v_Tfill_c l D dA H.size ws ta t (t.rc * t.wi) (show t.cN ≤ 65536 from by omega) (show (t.rc * t.wi) ≤ t.cN from by omega)) w1373 w1372 w1374 w712 rfl rfl ⟨⟨by decide, by decide⟩, rfl⟩ ⟨(Nat.le_of_ble_eq_true rfl), (Nat.le_of_ble_eq_true rfl)⟩ rfl hl.1 rfl (Nat.le_of_ble_eq_true rfl) d_T_clearCells_43 ⟨(Nat.le_of_ble_eq_true rfl), (Nat.le_of_ble_eq_true rfl)⟩) hP hD hS hA (fun u2 H locs hp9 hP hD hS => ?_)
  have hP : va_P D vwCl (TbW dA ta (TB.s_ce t (filG t.ce 0 0 (t.rc * t.wi))) ++ (ws)) H := hP
  have hD : va_D A (TbW dA ta (TB.s_ce t (filG t.ce 0 0 (t.rc * t.wi))) ++ (ws)) := hD
  refine lv_aload_n hx hb d_T_clearCells_46 rfl (lv_at hl 1 rfl) ?_
  refine gF (v := .ref (ta 3)) hx hb hown hE hK hP 0 rfl rfl layT 5 (by decide) w788 rfl d_T_clearCells_47 ?_
  refine lv_iconst (v := 0) hx hb d_T_clearCells_50 (by decide) ?_
  refine lv_aload_n hx hb d_T_clearCells_51 rfl (lv_at hl 1 rfl) ?_
  refine gF (v := .int (nI t.rc)) hx hb hown hE hK hP 0 rfl rfl layT 3 (by decide) w1368 rfl d_T_clearCells_52 ?_
  refine lv_lconst (v := 0) hx hb d_T_clearCells_55 (by decide) ?_
  refine jkV (wr := []) (rnS (As := [.ref (ta 3), .int 0, .int (nI t.rc), .long 0]) (rest := []) hx hb hml hown hE hK (hN _ _ hS) hP hD (v_Tfill_t l D dA H.size ws ta (TB.s_ce t (filG t.ce 0 0 (t.rc * t.wi))) t.rc (show t.cN ≤ 65536 from by omega) (show t.rc ≤ 256 from by omega)) w1373 w1372 w1374 w712 rfl rfl ⟨⟨by decide, by decide⟩, rfl⟩ ⟨(Nat.le_of_ble_eq_true rfl), (Nat.le_of_ble_eq_true rfl)⟩ rfl hl.1 rfl (Nat.le_of_ble_eq_true rfl) d_T_clearCells_56 ⟨(Nat.le_of_ble_eq_true rfl), (Nat.le_of_ble_eq_true rfl)⟩) hP hD hS hA (fun u4 H locs hp9 hP hD hS => ?_)
  have hP : va_P D vwCl (TbW dA ta (TB.s_ce (TB.s_th t (filG t.th 0 0 t.rc)) (filG t.ce 0 0 (t.rc * t.wi))) ++ (ws)) H := hP
  have hD : va_D A (TbW dA ta (TB.s_ce (TB.s_th t (filG t.th 0 0 t.rc)) (filG t.ce 0 0 (t.rc * t.wi))) ++ (ws)) := hD
  exact rfV hx hb hr hlk hS () trivial hP hD (Nat.le_of_ble_eq_true rfl) (Nat.le_of_ble_eq_true rfl) d_T_clearCells_59
theorem d_T_clearCells_19 : decode prog_11_method_8_code 19 = .ok (.aload_n 0, 1) := by decide +kernel
theorem d_T_clearCells_20 : decode prog_11_method_8_code 20 = .ok (.iload_n 1, 1) := by decide +kernel
theorem d_T_clearCells_21 : decode prog_11_method_8_code 21 = .ok (.iconst 2, 1) := by decide +kernel
theorem d_T_clearCells_22 : decode prog_11_method_8_code 22 = .ok (.aload_n 0, 1) := by decide +kernel
theorem d_T_clearCells_23 : decode prog_11_method_8_code 23 = .ok (.getfield 27, 3) := by decide +kernel
theorem d_T_clearCells_26 : decode prog_11_method_8_code 26 = .ok (.arraylength, 1) := by decide +kernel
theorem d_T_clearCells_27 : decode prog_11_method_8_code 27 = .ok (.imul, 1) := by decide +kernel
theorem d_T_clearCells_28 : decode prog_11_method_8_code 28 = .ok (.invokestatic 67, 3) := by decide +kernel
theorem d_T_clearCells_31 : decode prog_11_method_8_code 31 = .ok (.newarray .long, 2) := by decide +kernel
theorem d_T_clearCells_33 : decode prog_11_method_8_code 33 = .ok (.putfield 27, 3) := by decide +kernel
theorem w1375 : Cond.methodLink "SeriesVault$Table" 67 ⟨"java/lang/Math", "max", "(II)I"⟩ ∈ aW := aw_of (tb_7 (List.mem_of_getElem? (i := 148) rfl)) rfl
set_option maxHeartbeats 4000000 in
set_option maxRecDepth 100000 in
theorem v_TclearCells_1 (l : Launch) (D : va_G) (dA : Nat → ClassId) (sz : Nat) (ws : va_W) (ta : Nat → Nat) (t : TB) (hN : t.cN ≤ 65536) (h1 : t.cN < t.rc * t.wi) (h2 : t.rc ≤ 256) (h3 : t.rc * t.wi ≤ 16384) : Met l ⟨"SeriesVault$Table", "clearCells", "()V"⟩ [Cond.code ⟨"SeriesVault$Table", "clearCells", "()V"⟩ prog_11_method_8_code 2 none] { frames := 3, cells := 1, slots := max (t.rc * t.wi) (2 * t.cN), locals := 47 } (pC D dA [.ref (ta 0)] (TbW dA ta t ++ (ws)) sz) (va_Qv (fun (u9 : Nat) => True) (fun (u9 : Nat) t9 => bW D (va_A (TbW dA ta t ++ (ws)) sz) (TbW dA ta (TB.s_ce (TB.s_cN (TB.s_cA (TB.s_th t (filG t.th 0 0 t.rc)) u9) (max (t.rc * t.wi) (2 * t.cN))) (filG (fun _ => 0) 0 0 (t.rc * t.wi))) ++ (ws)) t9) (va_A (TbW dA ta t ++ (ws)) sz)) 1 (max (t.rc * t.wi) (2 * t.cN)) (va_A (TbW dA ta t ++ (ws)) sz) := by
  refine mkC (y := ⟨"SeriesVault$Table", "clearCells", "()V"⟩) (cc := prog_11_method_8_code) (maxL := 2) (av := [.ref (ta 0)]) (ws := TbW dA ta t ++ (ws)) (sz := sz) (Qc := fun A => va_Qv (fun (u9 : Nat) => True) (fun (u9 : Nat) t9 => bW D A (TbW dA ta (TB.s_ce (TB.s_cN (TB.s_cA (TB.s_th t (filG t.th 0 0 t.rc)) u9) (max (t.rc * t.wi) (2 * t.cN))) (filG (fun _ => 0) 0 0 (t.rc * t.wi))) ++ (ws)) t9) A) (by decide) (Nat.le_of_ble_eq_true rfl) ?_
  intro A p e s m below meth c ls hsz hB
  obtain ⟨hx, hb, hr, hml, hown, hin, hlk, hE, hK, hP, hD, hS, hA, hN, hl⟩ := hB
  have hown : s.vm.findClass "SeriesVault$Table" = some m.cls := hown
  have hl : lv_has ls 2 [(0, .ref (ta 0))] := hl
  obtain ⟨H, hH⟩ : ∃ z, z = s.heap := ⟨_, rfl⟩
  have hP : va_P D vwCl (TbW dA ta t ++ (ws)) H := by rw [hH]; exact hP
  have hS : va_S A s.heap H [] := by rw [hH]; exact hS
  rw [← hH]
  refine lv_aload_n hx hb d_T_clearCells_0 rfl (lv_at hl 0 rfl) ?_
  refine gF (v := .int (nI t.rc)) hx hb hown hE hK hP 0 rfl rfl layT 3 (by decide) w1368 rfl d_T_clearCells_1 ?_
  refine lv_aload_n hx hb d_T_clearCells_4 rfl (lv_at hl 0 rfl) ?_
  refine gF (v := .int (nI t.wi)) hx hb hown hE hK hP 0 rfl rfl layT 2 (by decide) w1367 rfl d_T_clearCells_5 ?_
  refine lv_imul hx hb d_T_clearCells_8 (tpi (y := nI (t.rc * t.wi)) (pk_mul (t.rc) (t.wi)) ?_)
  refine lv_istore_n hx hb d_T_clearCells_9 rfl hl (by decide) rfl (fun ls hl => ?_)
  have hl : lv_has ls 2 [(1, .int (nI (t.rc * t.wi))), (0, .ref (ta 0))] := hl
  refine lv_iload_n hx hb d_T_clearCells_10 rfl (lv_at hl 0 rfl) ?_
  refine lv_aload_n hx hb d_T_clearCells_11 rfl (lv_at hl 1 rfl) ?_
  refine gF (v := .ref t.cA) hx hb hown hE hK hP 0 rfl rfl layT 6 (by decide) w789 rfl d_T_clearCells_12 ?_
  refine va_alen (v := nI t.cN) hx hb hK hP (4) 2 rfl rfl rfl d_T_clearCells_15 ?_
  refine lv_icmp_le hx hb d_T_clearCells_16 (tgt := 36) rfl (fun h9 => absurd h9 (mt (nI_leI (a := t.rc * t.wi) (b := t.cN) (by omega) (by omega)).mp (Nat.not_le.mpr h1))) (fun _ => ?_)
  refine lv_aload_n hx hb d_T_clearCells_19 rfl (lv_at hl 1 rfl) ?_
  refine lv_iload_n hx hb d_T_clearCells_20 rfl (lv_at hl 0 rfl) ?_
  refine lv_iconst (v := 2) hx hb d_T_clearCells_21 (by decide) ?_
  refine lv_aload_n hx hb d_T_clearCells_22 rfl (lv_at hl 1 rfl) ?_
  refine gF (v := .ref t.cA) hx hb hown hE hK hP 0 rfl rfl layT 6 (by decide) w789 rfl d_T_clearCells_23 ?_
  refine va_alen (v := nI t.cN) hx hb hK hP (4) 2 rfl rfl rfl d_T_clearCells_26 ?_
  refine lv_imul hx hb d_T_clearCells_27 (tpi (y := nI (2 * t.cN)) (pk_mul (2) (t.cN)) ?_)
  refine va_mmax hx hb (hml.trans hl.1.symm) hown (hE.t w1375 rfl) (hE.t w764 rfl) (hE.t w549 rfl) (hE.t w765 rfl) (Nat.le_of_ble_eq_true rfl) (Nat.le_of_ble_eq_true rfl) (show 0 ≤ 1 by omega) (show 0 ≤ max (t.rc * t.wi) (2 * t.cN) by omega) d_T_clearCells_28 (tpi (y := nI (max (t.rc * t.wi) (2 * t.cN))) (nI_max (a := t.rc * t.wi) (b := 2 * t.cN) (by omega) (by omega)) ?_)
  refine nnA (atype := .long) (ty := .long) (N' := max (t.rc * t.wi) (2 * t.cN)) (a0 := (max (t.rc * t.wi) (2 * t.cN), .inr (.inl (fun _ => 0)))) hx hb hE rfl w186 hK hP hD hS hA 2 rfl (fun _ => rfl) (by omega) (show (max (t.rc * t.wi) (2 * t.cN)) * 8 ≤ 536870912 by omega) (show 0 + 1 ≤ 1 by omega) (show 0 + (max (t.rc * t.wi) (2 * t.cN)) ≤ max (t.rc * t.wi) (2 * t.cN) by omega) d_T_clearCells_31 (fun q0 H hP hD hS => ?_)
  have hP : va_P D vwCl ([(q0, .inl (dA 2, max (t.rc * t.wi) (2 * t.cN), .inr (.inl (fun _ => 0))))] ++ (TbW dA ta t ++ (ws))) H := hP
  have hD : va_D A ([(q0, .inl (dA 2, max (t.rc * t.wi) (2 * t.cN), .inr (.inl (fun _ => 0))))] ++ (TbW dA ta t ++ (ws))) := hD
  refine pF (v := .ref q0) hx hb hown hE hK hP hD hS 1 rfl rfl layT tyT tokT nmT 6 (by decide) w789 rfl rfl rfl (Nat.le_of_ble_eq_true rfl) d_T_clearCells_33 (fun H locs hP hD hS => ?_)
  have hP : va_P D vwCl ([(q0, .inl (dA 2, max (t.rc * t.wi) (2 * t.cN), .inr (.inl (fun _ => 0))))] ++ (TbWf dA ta t (TB.s_cA t q0) ++ (ws))) H := hP
  have hD : va_D A ([(q0, .inl (dA 2, max (t.rc * t.wi) (2 * t.cN), .inr (.inl (fun _ => 0))))] ++ (TbWf dA ta t (TB.s_cA t q0) ++ (ws))) := hD
  have hP := swP 4 hP
  have hD := swD 4 hD
  have hP : va_P D vwCl (TbW dA ta (TB.s_ce (TB.s_cN (TB.s_cA t q0) (max (t.rc * t.wi) (2 * t.cN))) (fun _ => 0)) ++ (ws)) H := hP
  have hD : va_D A (TbW dA ta (TB.s_ce (TB.s_cN (TB.s_cA t q0) (max (t.rc * t.wi) (2 * t.cN))) (fun _ => 0)) ++ (ws)) := hD
  refine lv_aload_n hx hb d_T_clearCells_36 rfl (lv_at hl 1 rfl) ?_
  refine gF (v := .ref q0) hx hb hown hE hK hP 0 rfl rfl layT 6 (by decide) w789 rfl d_T_clearCells_37 ?_
  refine lv_iconst (v := 0) hx hb d_T_clearCells_40 (by decide) ?_
  refine lv_iload_n hx hb d_T_clearCells_41 rfl (lv_at hl 0 rfl) ?_
  refine lv_lconst (v := 0) hx hb d_T_clearCells_42 (by decide) ?_
  refine jkV (wr := []) (rnS (As := [.ref q0, .int 0, .int (nI (t.rc * t.wi)), .long 0]) (rest := []) hx hb hml hown hE hK (hN _ _ hS) hP hD (v_Tfill_c l D dA H.size ws ta (TB.s_ce (TB.s_cN (TB.s_cA t q0) (max (t.rc * t.wi) (2 * t.cN))) (fun _ => 0)) (t.rc * t.wi) (show (max (t.rc * t.wi) (2 * t.cN)) ≤ 65536 from by omega) (show (t.rc * t.wi) ≤ (max (t.rc * t.wi) (2 * t.cN)) from by omega)) w1373 w1372 w1374 w712 rfl rfl ⟨⟨by decide, by decide⟩, rfl⟩ ⟨(Nat.le_of_ble_eq_true rfl), (Nat.le_of_ble_eq_true rfl)⟩ rfl hl.1 rfl (Nat.le_of_ble_eq_true rfl) d_T_clearCells_43 ⟨(show 0 + 1 + 0 ≤ 1 by omega), (show 0 + (max (t.rc * t.wi) (2 * t.cN)) + 0 ≤ max (t.rc * t.wi) (2 * t.cN) by omega)⟩) hP hD hS hA (fun u2 H locs hp9 hP hD hS => ?_)
  have hP : va_P D vwCl (TbW dA ta (TB.s_ce (TB.s_cN (TB.s_cA t q0) (max (t.rc * t.wi) (2 * t.cN))) (filG (fun _ => 0) 0 0 (t.rc * t.wi))) ++ (ws)) H := hP
  have hD : va_D A (TbW dA ta (TB.s_ce (TB.s_cN (TB.s_cA t q0) (max (t.rc * t.wi) (2 * t.cN))) (filG (fun _ => 0) 0 0 (t.rc * t.wi))) ++ (ws)) := hD
  refine lv_aload_n hx hb d_T_clearCells_46 rfl (lv_at hl 1 rfl) ?_
  refine gF (v := .ref (ta 3)) hx hb hown hE hK hP 0 rfl rfl layT 5 (by decide) w788 rfl d_T_clearCells_47 ?_
  refine lv_iconst (v := 0) hx hb d_T_clearCells_50 (by decide) ?_
  refine lv_aload_n hx hb d_T_clearCells_51 rfl (lv_at hl 1 rfl) ?_
  refine gF (v := .int (nI t.rc)) hx hb hown hE hK hP 0 rfl rfl layT 3 (by decide) w1368 rfl d_T_clearCells_52 ?_
  refine lv_lconst (v := 0) hx hb d_T_clearCells_55 (by decide) ?_
  refine jkV (wr := []) (rnS (As := [.ref (ta 3), .int 0, .int (nI t.rc), .long 0]) (rest := []) hx hb hml hown hE hK (hN _ _ hS) hP hD (v_Tfill_t l D dA H.size ws ta (TB.s_ce (TB.s_cN (TB.s_cA t q0) (max (t.rc * t.wi) (2 * t.cN))) (filG (fun _ => 0) 0 0 (t.rc * t.wi))) t.rc (show (max (t.rc * t.wi) (2 * t.cN)) ≤ 65536 from by omega) (show t.rc ≤ 256 from by omega)) w1373 w1372 w1374 w712 rfl rfl ⟨⟨by decide, by decide⟩, rfl⟩ ⟨(Nat.le_of_ble_eq_true rfl), (Nat.le_of_ble_eq_true rfl)⟩ rfl hl.1 rfl (Nat.le_of_ble_eq_true rfl) d_T_clearCells_56 ⟨(show 0 + 1 + 0 + 0 ≤ 1 by omega), (show 0 + (max (t.rc * t.wi) (2 * t.cN)) + 0 + 0 ≤ max (t.rc * t.wi) (2 * t.cN) by omega)⟩) hP hD hS hA (fun u4 H locs hp9 hP hD hS => ?_)
  have hP : va_P D vwCl (TbW dA ta (TB.s_ce (TB.s_cN (TB.s_cA (TB.s_th t (filG t.th 0 0 t.rc)) q0) (max (t.rc * t.wi) (2 * t.cN))) (filG (fun _ => 0) 0 0 (t.rc * t.wi))) ++ (ws)) H := hP
  have hD : va_D A (TbW dA ta (TB.s_ce (TB.s_cN (TB.s_cA (TB.s_th t (filG t.th 0 0 t.rc)) q0) (max (t.rc * t.wi) (2 * t.cN))) (filG (fun _ => 0) 0 0 (t.rc * t.wi))) ++ (ws)) := hD
  exact rfV hx hb hr hlk hS q0 trivial hP hD (show 0 + 1 + 0 + 0 ≤ 1 by omega) (show 0 + (max (t.rc * t.wi) (2 * t.cN)) + 0 + 0 ≤ max (t.rc * t.wi) (2 * t.cN) by omega) d_T_clearCells_59
set_option maxHeartbeats 4000000 in
set_option maxRecDepth 100000 in
theorem v_SvalueOf2 (l : Launch) (D : va_G) (dA : Nat → ClassId) (sz : Nat) (ws : va_W) (w0 : va_W) (a : Nat) (S : List LB) (wb : Nat) (M : List Int32) (hsub : ∀ c, c ∈ w0 → c ∈ ws) (hsr : isSer dA w0 a S) (hso : serOk S) (hwwb : isWo dA ws wb M) (hlwb : M.length ≤ 65536) : Met l ⟨"SeriesVault$Series", "valueOf", "(LSeriesVault$Word;)LSeriesVault$Word;"⟩ [Cond.code ⟨"SeriesVault$Series", "valueOf", "(LSeriesVault$Word;)LSeriesVault$Word;"⟩ prog_7_method_5_code 3 (some (FieldType.object "SeriesVault$Word"))] { frames := 2, cells := 0, slots := 0, locals := 22 } (pC D dA [.ref a, .ref wb] (ws) sz) (va_Qr (fun (_ : Unit) => True) (fun (u9 : Unit) (r9 : Nat) t9 => (isWo dA w0 r9 (valS S M)) ∧ bW D (va_A (ws) sz) (ws) t9) (va_A (ws) sz)) 0 0 (va_A (ws) sz) := by
  refine mkC (y := ⟨"SeriesVault$Series", "valueOf", "(LSeriesVault$Word;)LSeriesVault$Word;"⟩) (cc := prog_7_method_5_code) (maxL := 3) (av := [.ref a, .ref wb]) (ws := ws) (sz := sz) (Qc := fun A => va_Qr (fun (_ : Unit) => True) (fun (u9 : Unit) (r9 : Nat) t9 => (isWo dA w0 r9 (valS S M)) ∧ bW D A (ws) t9) A) (by decide) (Nat.le_of_ble_eq_true rfl) ?_
  intro A p e s m below meth c ls hsz hB
  obtain ⟨hx, hb, hr, hml, hown, hin, hlk, hE, hK, hP, hD, hS, hA, hN, hl⟩ := hB
  have hown : s.vm.findClass "SeriesVault$Series" = some m.cls := hown
  have hl : lv_has ls 3 [(0, .ref a), (1, .ref wb)] := hl
  obtain ⟨H, hH⟩ : ∃ z, z = s.heap := ⟨_, rfl⟩
  have hP : va_P D vwCl (ws) H := by rw [hH]; exact hP
  have hS : va_S A s.heap H [] := by rw [hH]; exact hS
  rw [← hH]
  obtain ⟨na, va, no, tx, fn, fv, n1, n2, n3, wno, wtx, hel⟩ := hsr
  have so1 := hso.1
  refine lv_iconst (v := 0) hx hb d_S_valueOf_0 (by decide) ?_
  refine lv_istore_n hx hb d_S_valueOf_1 rfl hl (by decide) rfl (fun ls hl => ?_)
  have hl : lv_has ls 3 [(2, .int 0), (0, .ref a), (1, .ref wb)] := hl
  have L2 : ∀ (k9 : Nat) (i : Nat) (i1 : i ≤ S.length) (i2 : frst (vsB S M) (S.length - i) i = frst (vsB S M) S.length 0) (hk9 : S.length - i = k9), ∀ (H : Heap) (locs : List Loc) (ls : Array Slot) (hP : va_P D vwCl (ws) H) (hD : va_D A (ws)) (hS : va_S A s.heap H locs) (hl : lv_has ls 3 [(2, .int (nI i)), (0, .ref a), (1, .ref wb)]), W p l e ({ frames := 2, cells := 0, slots := 0, locals := 22 } : Room) s m ([.ref a, .ref wb] : List Value).toArray below meth c H locs 0 0 (MQ below (va_Qr (fun (_ : Unit) => True) (fun (u9 : Unit) (r9 : Nat) t9 => (isWo dA w0 r9 (valS S M)) ∧ bW D A (ws) t9) A) ([.ref a, .ref wb] : List Value).toArray s 0 0 A) (F0 m 2 ls []) := by
    intro k9
    induction k9 using Nat.strongRecOn with
    | ind k9 ih2 =>
      intro i i1 i2 hk9 H locs ls hP hD hS hl
      refine lv_iload_n hx hb d_S_valueOf_2 rfl (lv_at hl 0 rfl) ?_
      refine lv_aload_n hx hb d_S_valueOf_3 rfl (lv_at hl 1 rfl) ?_
      obtain ⟨qp1, ep2⟩ := List.getElem?_of_mem (show ((a, .inr (11, [.ref na, .ref va, .ref no, .ref tx])) : Nat × va_E) ∈ ws from (hsub _ n1))
      refine gF (v := .ref na) hx hb hown hE hK hP qp1 ep2 rfl layS 0 (by decide) w1278 rfl d_S_valueOf_4 ?_
      obtain ⟨qp3, ep4⟩ := List.getElem?_of_mem (show ((na, .inl (dA 6, S.length, .inr (.inr (.inr (.inr fn))))) : Nat × va_E) ∈ ws from (hsub _ n2))
      refine va_alen (v := nI S.length) hx hb hK hP (qp3) 6 ep4 rfl rfl d_S_valueOf_7 ?_
      refine lv_icmp_ge hx hb d_S_valueOf_8 (tgt := 37) rfl (fun g5 => ?_) (fun g5 => ?_)
      · have g5 := (nI_leI (a := S.length) (b := i) (by omega) (by omega)).mp g5
        refine lv_aload_n hx hb d_S_valueOf_37 rfl (lv_at hl 1 rfl) ?_
        obtain ⟨qp6, ep7⟩ := List.getElem?_of_mem (show ((a, .inr (11, [.ref na, .ref va, .ref no, .ref tx])) : Nat × va_E) ∈ ws from (hsub _ n1))
        refine gF (v := .ref no) hx hb hown hE hK hP qp6 ep7 rfl layS 2 (by decide) w1279 rfl d_S_valueOf_38 ?_
        exact rkR hx hb hr (Or.inl ⟨_, rfl⟩) hlk hS () (by rw [valS_n (by rw [← i2, show S.length - i = 0 by omega]; rfl)]; exact wno) hP hD (Nat.le_of_ble_eq_true rfl) (Nat.le_of_ble_eq_true rfl) d_S_valueOf_41
      · have g5 := mt (nI_leI (a := S.length) (b := i) (by omega) (by omega)).mpr g5
        obtain ⟨p1, q1, e1, w1, e2, w2⟩ := hel i (by omega)
        have so2 := hso.2 i (by omega)
        have w1c := w1
        have w2c := w2
        obtain ⟨b1, f1, k1, k2, y1, hf1⟩ := w1c
        obtain ⟨b2, f2, k3, k4, y2, hf2⟩ := w2c
        refine lv_aload_n hx hb d_S_valueOf_11 rfl (lv_at hl 1 rfl) ?_
        obtain ⟨qp8, ep9⟩ := List.getElem?_of_mem (show ((a, .inr (11, [.ref na, .ref va, .ref no, .ref tx])) : Nat × va_E) ∈ ws from (hsub _ n1))
        refine gF (v := .ref na) hx hb hown hE hK hP qp8 ep9 rfl layS 0 (by decide) w1278 rfl d_S_valueOf_12 ?_
        refine lv_iload_n hx hb d_S_valueOf_15 rfl (lv_at hl 0 rfl) ?_
        obtain ⟨qp10, ep11⟩ := List.getElem?_of_mem (show ((na, .inl (dA 6, S.length, .inr (.inr (.inr (.inr fn))))) : Nat × va_E) ∈ ws from (hsub _ n2))
        refine nqld (f := fn) (n := S.length) hx hb hK hP (qp10) 6 ep11 rfl (i) (by omega) (by omega) e1 d_S_valueOf_16 ?_
        refine lv_aload_n hx hb d_S_valueOf_17 rfl (lv_at hl 2 rfl) ?_
        obtain ⟨qp12, ep13⟩ := List.getElem?_of_mem (show ((p1, .inr (10, [.ref b1])) : Nat × va_E) ∈ ws from (hsub _ k1))
        refine jkI (wr := []) (rnV (As := [.ref wb]) (rest := []) hx hb hml hown hE hK (hN _ _ hS) hP hD (v_Wsame l D dA H.size ws p1 ((lab S i).1) wb M (isWo_m hsub w1) (show (lab S i).1.length ≤ 65536 by omega) hwwb hlwb) (q0 := qp12) ep13 rfl w1282 w1280 w1283 w1284 w1281 rfl rfl ⟨⟨by decide, by decide⟩, rfl⟩ ⟨(Nat.le_of_ble_eq_true rfl), (Nat.le_of_ble_eq_true rfl)⟩ rfl hl.1 rfl (Nat.le_of_ble_eq_true rfl) d_S_valueOf_18 ⟨(Nat.le_of_ble_eq_true rfl), (Nat.le_of_ble_eq_true rfl)⟩) hP hD hS hA (fun r14 u15 H locs hp9 hP hD hS => ?_)
        have hP : va_P D vwCl (ws) H := hP
        have hD : va_D A (ws) := hD
        replace hp9 : bI (sameW ((lab S i).1) M) = r14 := Eq.symm hp9
        subst hp9
        refine lv_if_eq hx hb d_S_valueOf_21 (tgt := 31) rfl (fun g16 => ?_) (fun g16 => ?_)
        · have g16 := bI_0 g16
          refine lv_iinc (k := 0) (v := nI (i + 1)) hx hb d_S_valueOf_31 hl rfl (iincN (i) 1 1 (by decide)) (by decide) rfl (fun ls hl => ?_)
          have hl : lv_has ls 3 [(2, .int (nI (i + 1))), (0, .ref a), (1, .ref wb)] := hl
          refine lv_goto hx hb d_S_valueOf_34 (tgt := 2) rfl ?_
          exact ih2 _ (by omega) (i + 1) (by omega) (by rw [← i2, frst_f (n := S.length - i) (by omega) (show vsB S M i = false from g16), show S.length - i - 1 = S.length - (i + 1) by omega]) rfl H _ ls hP hD hS (lv_sub hl [0, 1, 2] rfl)
        · have g16 := bI_n0 g16
          refine lv_aload_n hx hb d_S_valueOf_24 rfl (lv_at hl 1 rfl) ?_
          obtain ⟨qp17, ep18⟩ := List.getElem?_of_mem (show ((a, .inr (11, [.ref na, .ref va, .ref no, .ref tx])) : Nat × va_E) ∈ ws from (hsub _ n1))
          refine gF (v := .ref va) hx hb hown hE hK hP qp17 ep18 rfl layS 1 (by decide) w1285 rfl d_S_valueOf_25 ?_
          refine lv_iload_n hx hb d_S_valueOf_28 rfl (lv_at hl 0 rfl) ?_
          obtain ⟨qp19, ep20⟩ := List.getElem?_of_mem (show ((va, .inl (dA 6, S.length, .inr (.inr (.inr (.inr fv))))) : Nat × va_E) ∈ ws from (hsub _ n3))
          refine nqld (f := fv) (n := S.length) hx hb hK hP (qp19) 6 ep20 rfl (i) (by omega) (by omega) e2 d_S_valueOf_29 ?_
          exact rkR hx hb hr (Or.inl ⟨_, rfl⟩) hlk hS () (by rw [valS_s (i := i) (by rw [← i2, frst_t (n := S.length - i) (by omega) (show vsB S M i = true from g16)])]; exact w2) hP hD (Nat.le_of_ble_eq_true rfl) (Nat.le_of_ble_eq_true rfl) d_S_valueOf_30
  exact L2 _ 0 (Nat.zero_le _) rfl rfl H _ ls hP hD hS (lv_sub hl [0, 1, 2] rfl)
theorem d_T_compareTexts_0 : decode prog_11_method_7_code 0 = .ok (.iconst 0, 1) := by decide +kernel
theorem d_T_compareTexts_1 : decode prog_11_method_7_code 1 = .ok (.istore_n 3, 1) := by decide +kernel
theorem d_T_compareTexts_2 : decode prog_11_method_7_code 2 = .ok (.iload_n 3, 1) := by decide +kernel
theorem d_T_compareTexts_3 : decode prog_11_method_7_code 3 = .ok (.aload_n 0, 1) := by decide +kernel
theorem d_T_compareTexts_4 : decode prog_11_method_7_code 4 = .ok (.getfield 34, 3) := by decide +kernel
theorem d_T_compareTexts_7 : decode prog_11_method_7_code 7 = .ok (.if_icmp .ge 42, 3) := by decide +kernel
theorem d_T_compareTexts_49 : decode prog_11_method_7_code 49 = .ok (.iconst 0, 1) := by decide +kernel
theorem d_T_compareTexts_50 : decode prog_11_method_7_code 50 = .ok (.ireturn, 1) := by decide +kernel
theorem d_T_compareTexts_10 : decode prog_11_method_7_code 10 = .ok (.aload_n 1, 1) := by decide +kernel
theorem d_T_compareTexts_11 : decode prog_11_method_7_code 11 = .ok (.aload_n 0, 1) := by decide +kernel
theorem d_T_compareTexts_12 : decode prog_11_method_7_code 12 = .ok (.getfield 11, 3) := by decide +kernel
theorem d_T_compareTexts_15 : decode prog_11_method_7_code 15 = .ok (.iload_n 3, 1) := by decide +kernel
theorem d_T_compareTexts_16 : decode prog_11_method_7_code 16 = .ok (.aaload, 1) := by decide +kernel
theorem d_T_compareTexts_17 : decode prog_11_method_7_code 17 = .ok (.invokevirtual 59, 3) := by decide +kernel
theorem d_T_compareTexts_20 : decode prog_11_method_7_code 20 = .ok (.aload_n 2, 1) := by decide +kernel
theorem d_T_compareTexts_21 : decode prog_11_method_7_code 21 = .ok (.aload_n 0, 1) := by decide +kernel
theorem d_T_compareTexts_22 : decode prog_11_method_7_code 22 = .ok (.getfield 11, 3) := by decide +kernel
theorem d_T_compareTexts_25 : decode prog_11_method_7_code 25 = .ok (.iload_n 3, 1) := by decide +kernel
theorem d_T_compareTexts_26 : decode prog_11_method_7_code 26 = .ok (.aaload, 1) := by decide +kernel
theorem d_T_compareTexts_27 : decode prog_11_method_7_code 27 = .ok (.invokevirtual 59, 3) := by decide +kernel
theorem d_T_compareTexts_30 : decode prog_11_method_7_code 30 = .ok (.invokevirtual 63, 3) := by decide +kernel
theorem d_T_compareTexts_33 : decode prog_11_method_7_code 33 = .ok (.istore 4, 2) := by decide +kernel
theorem d_T_compareTexts_35 : decode prog_11_method_7_code 35 = .ok (.iload 4, 2) := by decide +kernel
theorem d_T_compareTexts_37 : decode prog_11_method_7_code 37 = .ok (.ifCond .eq 6, 3) := by decide +kernel
theorem d_T_compareTexts_43 : decode prog_11_method_7_code 43 = .ok (.iinc 3 1, 3) := by decide +kernel
theorem d_T_compareTexts_46 : decode prog_11_method_7_code 46 = .ok (.goto (-44), 3) := by decide +kernel
theorem d_T_compareTexts_40 : decode prog_11_method_7_code 40 = .ok (.iload 4, 2) := by decide +kernel
theorem d_T_compareTexts_42 : decode prog_11_method_7_code 42 = .ok (.ireturn, 1) := by decide +kernel
theorem w1376 : Cond.fieldLink "SeriesVault$Table" 34 "SeriesVault$Table" "nameCount" "I" ∈ aW := aw_of (tb_2 (List.mem_of_getElem? (i := 54) rfl)) rfl
theorem w1377 : Cond.methodLink "SeriesVault$Table" 59 ⟨"SeriesVault$Series", "valueOf", "(LSeriesVault$Word;)LSeriesVault$Word;"⟩ ∈ aW := aw_of (tb_7 (List.mem_of_getElem? (i := 221) rfl)) rfl
theorem w1378 : Cond.code ⟨"SeriesVault$Series", "valueOf", "(LSeriesVault$Word;)LSeriesVault$Word;"⟩ prog_7_method_5_code 3 (some (FieldType.object "SeriesVault$Word")) ∈ aW := aw_of (tb_7 (List.mem_of_getElem? (i := 200) rfl)) rfl
theorem w1379 : Cond.instanceMethod ⟨"SeriesVault$Series", "valueOf", "(LSeriesVault$Word;)LSeriesVault$Word;"⟩ ∈ aW := aw_of (tb_7 (List.mem_of_getElem? (i := 198) rfl)) rfl
theorem w1380 : Cond.selects "SeriesVault$Series" ⟨"SeriesVault$Series", "valueOf", "(LSeriesVault$Word;)LSeriesVault$Word;"⟩ ⟨"SeriesVault$Series", "valueOf", "(LSeriesVault$Word;)LSeriesVault$Word;"⟩ ∈ aW := aw_of (tb_7 (List.mem_of_getElem? (i := 199) rfl)) rfl
theorem w1381 : Cond.methodLink "SeriesVault$Table" 63 ⟨"SeriesVault$Word", "compare", "(LSeriesVault$Word;)I"⟩ ∈ aW := aw_of (tb_7 (List.mem_of_getElem? (i := 222) rfl)) rfl
set_option maxHeartbeats 4000000 in
set_option maxRecDepth 100000 in
theorem v_TcompareTexts (l : Launch) (D : va_G) (dA : Nat → ClassId) (sz : Nat) (ws : va_W) (ta : Nat → Nat) (t : TB) (NL : Nat → List Int32) (a : Nat) (S : List LB) (b : Nat) (S2 : List LB) (hnm : nmOk dA ws t.nm t.nc NL) (hnc : t.nc ≤ 6) (hsa : isSer dA ws a S) (hoa : serOk S) (hsb : isSer dA ws b S2) (hob : serOk S2) : Met l ⟨"SeriesVault$Table", "compareTexts", "(LSeriesVault$Series;LSeriesVault$Series;)I"⟩ [Cond.code ⟨"SeriesVault$Table", "compareTexts", "(LSeriesVault$Series;LSeriesVault$Series;)I"⟩ prog_11_method_7_code 5 (some FieldType.int)] { frames := 3, cells := 0, slots := 0, locals := 44 } (pC D dA [.ref (ta 0), .ref a, .ref b] (TbW dA ta t ++ (ws)) sz) (va_Qi (fun (r9 : Int32) (u9 : Unit) => r9 = cmT NL t.nc S S2) (fun (u9 : Unit) t9 => bW D (va_A (TbW dA ta t ++ (ws)) sz) (TbW dA ta t ++ (ws)) t9) (va_A (TbW dA ta t ++ (ws)) sz)) 0 0 (va_A (TbW dA ta t ++ (ws)) sz) := by
  refine mkC (y := ⟨"SeriesVault$Table", "compareTexts", "(LSeriesVault$Series;LSeriesVault$Series;)I"⟩) (cc := prog_11_method_7_code) (maxL := 5) (av := [.ref (ta 0), .ref a, .ref b]) (ws := TbW dA ta t ++ (ws)) (sz := sz) (Qc := fun A => va_Qi (fun (r9 : Int32) (u9 : Unit) => r9 = cmT NL t.nc S S2) (fun (u9 : Unit) t9 => bW D A (TbW dA ta t ++ (ws)) t9) A) (by decide) (Nat.le_of_ble_eq_true rfl) ?_
  intro A p e s m below meth c ls hsz hB
  obtain ⟨hx, hb, hr, hml, hown, hin, hlk, hE, hK, hP, hD, hS, hA, hN, hl⟩ := hB
  have hown : s.vm.findClass "SeriesVault$Table" = some m.cls := hown
  have hl : lv_has ls 5 [(0, .ref (ta 0)), (1, .ref a), (2, .ref b)] := hl
  obtain ⟨H, hH⟩ : ∃ z, z = s.heap := ⟨_, rfl⟩
  have hP : va_P D vwCl (TbW dA ta t ++ (ws)) H := by rw [hH]; exact hP
  have hS : va_S A s.heap H [] := by rw [hH]; exact hS
  rw [← hH]
  have hcx := hsa
  obtain ⟨nax, vax, nox, txx, fnx, fvx, n1x, -⟩ := hcx
  have hcy := hsb
  obtain ⟨nay, vay, noy, txy, fny, fvy, n1y, -⟩ := hcy
  refine lv_iconst (v := 0) hx hb d_T_compareTexts_0 (by decide) ?_
  refine lv_istore_n hx hb d_T_compareTexts_1 rfl hl (by decide) rfl (fun ls hl => ?_)
  have hl : lv_has ls 5 [(3, .int 0), (0, .ref (ta 0)), (1, .ref a), (2, .ref b)] := hl
  have L2 : ∀ (k9 : Nat) (k : Nat) (i1 : k ≤ t.nc) (i2 : frst (ctB NL S S2) (t.nc - k) k = frst (ctB NL S S2) t.nc 0) (hk9 : t.nc - k = k9), ∀ (H : Heap) (locs : List Loc) (ls : Array Slot) (hP : va_P D vwCl (TbW dA ta t ++ (ws)) H) (hD : va_D A (TbW dA ta t ++ (ws))) (hS : va_S A s.heap H locs) (hl : lv_has ls 5 [(3, .int (nI k)), (0, .ref (ta 0)), (1, .ref a), (2, .ref b)]), W p l e ({ frames := 3, cells := 0, slots := 0, locals := 44 } : Room) s m ([.ref (ta 0), .ref a, .ref b] : List Value).toArray below meth c H locs 0 0 (MQ below (va_Qi (fun (r9 : Int32) (u9 : Unit) => r9 = cmT NL t.nc S S2) (fun (u9 : Unit) t9 => bW D A (TbW dA ta t ++ (ws)) t9) A) ([.ref (ta 0), .ref a, .ref b] : List Value).toArray s 0 0 A) (F0 m 2 ls []) := by
    intro k9
    induction k9 using Nat.strongRecOn with
    | ind k9 ih2 =>
      intro k i1 i2 hk9 H locs ls hP hD hS hl
      refine lv_iload_n hx hb d_T_compareTexts_2 rfl (lv_at hl 0 rfl) ?_
      refine lv_aload_n hx hb d_T_compareTexts_3 rfl (lv_at hl 1 rfl) ?_
      refine gF (v := .int (nI t.nc)) hx hb hown hE hK hP 0 rfl rfl layT 1 (by decide) w1376 rfl d_T_compareTexts_4 ?_
      refine lv_icmp_ge hx hb d_T_compareTexts_7 (tgt := 49) rfl (fun g1 => ?_) (fun g1 => ?_)
      · have g1 := (nI_leI (a := t.nc) (b := k) (by omega) (by omega)).mp g1
        refine lv_iconst (v := 0) hx hb d_T_compareTexts_49 (by decide) ?_
        exact rfI hx hb hr hlk hS () (by rw [cmT_n (by rw [← i2, show t.nc - k = 0 by omega]; rfl)]) hP hD (Nat.le_of_ble_eq_true rfl) (Nat.le_of_ble_eq_true rfl) d_T_compareTexts_50
      · have g1 := mt (nI_leI (a := t.nc) (b := k) (by omega) (by omega)).mpr g1
        obtain ⟨p1, ep1, wp1, lp1⟩ := hnm k (by omega)
        have wpc := wp1
        obtain ⟨bp1, fp1, kp1, -⟩ := wpc
        have vl1 := valS_le (M := NL k) hoa
        have vl2 := valS_le (M := NL k) hob
        refine lv_aload_n hx hb d_T_compareTexts_10 rfl (lv_at hl 2 rfl) ?_
        refine lv_aload_n hx hb d_T_compareTexts_11 rfl (lv_at hl 1 rfl) ?_
        refine gF (v := .ref (ta 1)) hx hb hown hE hK hP 0 rfl rfl layT 0 (by decide) w784 rfl d_T_compareTexts_12 ?_
        refine lv_iload_n hx hb d_T_compareTexts_15 rfl (lv_at hl 0 rfl) ?_
        refine nqld (f := t.nm) (n := 6) hx hb hK hP (1) 6 rfl rfl (k) (by omega) (by decide) ep1 d_T_compareTexts_16 ?_
        obtain ⟨qp2, ep3⟩ := List.getElem?_of_mem (show ((a, .inr (11, [.ref nax, .ref vax, .ref nox, .ref txx])) : Nat × va_E) ∈ TbW dA ta t ++ (ws) from (List.mem_append_right _ n1x))
        refine jkR (wr := []) (rnV (As := [.ref p1]) (rest := []) hx hb hml hown hE hK (hN _ _ hS) hP hD (v_SvalueOf2 l D dA H.size (TbW dA ta t ++ (ws)) ws a S p1 (NL k) (fun _ hm => (List.mem_append_right _ hm)) hsa hoa (isWo_m (fun _ hm => (List.mem_append_right _ hm)) wp1) lp1) (q0 := qp2) ep3 rfl w1378 w1377 w1379 w1380 w1288 rfl rfl ⟨⟨by decide, by decide⟩, rfl⟩ ⟨(Nat.le_of_ble_eq_true rfl), (Nat.le_of_ble_eq_true rfl)⟩ rfl hl.1 rfl (Nat.le_of_ble_eq_true rfl) d_T_compareTexts_17 ⟨(Nat.le_of_ble_eq_true rfl), (Nat.le_of_ble_eq_true rfl)⟩) hP hD hS hA (fun u4 v1 H locs hp9 hP hD hS => ?_)
        have hP : va_P D vwCl (TbW dA ta t ++ (ws)) H := hP
        have hD : va_D A (TbW dA ta t ++ (ws)) := hD
        have f_w_5 := hp9
        have wv1c := f_w_5
        obtain ⟨bv1, fv1, kv1, -⟩ := wv1c
        refine lv_aload_n hx hb d_T_compareTexts_20 rfl (lv_at hl 3 rfl) ?_
        refine lv_aload_n hx hb d_T_compareTexts_21 rfl (lv_at hl 1 rfl) ?_
        refine gF (v := .ref (ta 1)) hx hb hown hE hK hP 0 rfl rfl layT 0 (by decide) w784 rfl d_T_compareTexts_22 ?_
        refine lv_iload_n hx hb d_T_compareTexts_25 rfl (lv_at hl 0 rfl) ?_
        refine nqld (f := t.nm) (n := 6) hx hb hK hP (1) 6 rfl rfl (k) (by omega) (by decide) ep1 d_T_compareTexts_26 ?_
        obtain ⟨qp6, ep7⟩ := List.getElem?_of_mem (show ((b, .inr (11, [.ref nay, .ref vay, .ref noy, .ref txy])) : Nat × va_E) ∈ TbW dA ta t ++ (ws) from (List.mem_append_right _ n1y))
        refine jkR (wr := []) (rnV (As := [.ref p1]) (rest := [.ref v1]) hx hb hml hown hE hK (hN _ _ hS) hP hD (v_SvalueOf2 l D dA H.size (TbW dA ta t ++ (ws)) ws b S2 p1 (NL k) (fun _ hm => (List.mem_append_right _ hm)) hsb hob (isWo_m (fun _ hm => (List.mem_append_right _ hm)) wp1) lp1) (q0 := qp6) ep7 rfl w1378 w1377 w1379 w1380 w1288 rfl rfl ⟨⟨by decide, by decide⟩, rfl⟩ ⟨(Nat.le_of_ble_eq_true rfl), (Nat.le_of_ble_eq_true rfl)⟩ rfl hl.1 rfl (Nat.le_of_ble_eq_true rfl) d_T_compareTexts_27 ⟨(Nat.le_of_ble_eq_true rfl), (Nat.le_of_ble_eq_true rfl)⟩) hP hD hS hA (fun u8 v2 H locs hp9 hP hD hS => ?_)
        have hP : va_P D vwCl (TbW dA ta t ++ (ws)) H := hP
        have hD : va_D A (TbW dA ta t ++ (ws)) := hD
        have f_w_9 := hp9
        obtain ⟨qp10, ep11⟩ := List.getElem?_of_mem (show ((v1, .inr (10, [.ref bv1])) : Nat × va_E) ∈ TbW dA ta t ++ (ws) from (List.mem_append_right _ kv1))
        refine jkI (wr := []) (rnV (As := [.ref v2]) (rest := []) hx hb hml hown hE hK (hN _ _ hS) hP hD (v_Wcmp l D dA H.size (TbW dA ta t ++ (ws)) v1 (valS S (NL k)) v2 (valS S2 (NL k)) (isWo_m (fun _ hm => (List.mem_append_right _ hm)) f_w_5) (show (valS S (NL k)).length ≤ 65536 by omega) (isWo_m (fun _ hm => (List.mem_append_right _ hm)) f_w_9) (show (valS S2 (NL k)).length ≤ 65536 by omega)) (q0 := qp10) ep11 rfl w1318 w1381 w1319 w1320 w1281 rfl rfl ⟨⟨by decide, by decide⟩, rfl⟩ ⟨(Nat.le_of_ble_eq_true rfl), (Nat.le_of_ble_eq_true rfl)⟩ rfl hl.1 rfl (Nat.le_of_ble_eq_true rfl) d_T_compareTexts_30 ⟨(Nat.le_of_ble_eq_true rfl), (Nat.le_of_ble_eq_true rfl)⟩) hP hD hS hA (fun r12 u13 H locs hp9 hP hD hS => ?_)
        have hP : va_P D vwCl (TbW dA ta t ++ (ws)) H := hP
        have hD : va_D A (TbW dA ta t ++ (ws)) := hD
        replace hp9 : cmpW (valS S (NL k)) (valS S2 (NL k)) = r12 := Eq.symm hp9
        subst hp9
        refine tpi (y := ctC NL S S2 k) rfl ?_
        refine lv_istore hx hb d_T_compareTexts_33 hl (by decide) rfl (fun ls hl => ?_)
        have hl : lv_has ls 5 [(4, .int (ctC NL S S2 k)), (3, .int (nI k)), (0, .ref (ta 0)), (1, .ref a), (2, .ref b)] := hl
        refine lv_iload hx hb d_T_compareTexts_35 (lv_at hl 0 rfl) ?_
        refine lv_if_eq hx hb d_T_compareTexts_37 (tgt := 43) rfl (fun g14 => ?_) (fun g14 => ?_)
        · have g14 := g14
          refine lv_iinc (k := 1) (v := nI (k + 1)) hx hb d_T_compareTexts_43 hl rfl (iincN (k) 1 1 (by decide)) (by decide) rfl (fun ls hl => ?_)
          have hl : lv_has ls 5 [(3, .int (nI (k + 1))), (4, .int (ctC NL S S2 k)), (0, .ref (ta 0)), (1, .ref a), (2, .ref b)] := hl
          refine lv_goto hx hb d_T_compareTexts_46 (tgt := 2) rfl ?_
          exact ih2 _ (by omega) (k + 1) (by omega) (by rw [← i2, frst_f (n := t.nc - k) (by omega) (show ctB NL S S2 k = false by unfold ctB; rw [decide_eq_true g14]; rfl), show t.nc - k - 1 = t.nc - (k + 1) by omega]) rfl H _ ls hP hD hS (lv_sub hl [0, 2, 3, 4] rfl)
        · have g14 := g14
          refine lv_iload hx hb d_T_compareTexts_40 (lv_at hl 0 rfl) ?_
          exact rfI hx hb hr hlk hS () (by rw [cmT_s (k := k) (by rw [← i2, frst_t (n := t.nc - k) (by omega) (show ctB NL S S2 k = true by unfold ctB; rw [decide_eq_false g14]; rfl)])]) hP hD (Nat.le_of_ble_eq_true rfl) (Nat.le_of_ble_eq_true rfl) d_T_compareTexts_42
  exact L2 _ 0 (Nat.zero_le _) rfl rfl H _ ls hP hD hS (lv_sub hl [0, 1, 2, 3] rfl)
end
section
theorem psOk_m {dA : Nat → ClassId} {nP : Nat → Option Nat} {n : Nat} {pl pl2 : va_W} {PS : Nat → PT} (hs : ∀ c, c ∈ pl → c ∈ pl2) (h : psOk dA nP n pl PS) : psOk dA nP n pl2 PS := by
  intro k hk
  obtain ⟨pp, e, hp, ho⟩ := h k hk
  obtain ⟨o, t, v, m1, m2, m3, m4⟩ := hp
  exact ⟨pp, e, ⟨o, t, v, hs _ m1, hs _ m2, hs _ m3, hs _ m4⟩, ho⟩
theorem psOk_a {dA : Nat → ClassId} {nP : Nat → Option Nat} {n pp : Nat} {pl : va_W} {PS : Nat → PT} {P : PT} (h : psOk dA nP n pl PS) (hp : isPc dA pl pp P) (ho : pcOk P) : psOk dA (va_up nP n (some pp)) (n + 1) pl (va_up PS n P) := by
  intro k hk
  by_cases e : k = n
  · subst e
    rw [va_up_self, va_up_self]
    exact ⟨pp, rfl, hp, ho⟩
  · rw [va_up_ne _ _ e, va_up_ne _ _ e]
    exact h k (by omega)
theorem knOk_m {dA : Nat → ClassId} {kn : Nat → Option Nat} {n : Nat} {pl pl2 : va_W} {SS : Nat → List LB} (hs : ∀ c, c ∈ pl → c ∈ pl2) (h : knOk dA kn n pl SS) : knOk dA kn n pl2 SS := by
  intro k hk
  obtain ⟨a, e, hp, ho⟩ := h k hk
  exact ⟨a, e, isSer_m hs hp, ho⟩
theorem mkP_ok {n : Nat} {O : Nat → Nat} {T V : Nat → Int64} (hn : n ≤ 12000) (h : ∀ q, O q < 256) : pcOk (mkP n O T V) := ⟨hn, fun i _ => h i⟩
set_option maxHeartbeats 4000000 in
set_option maxRecDepth 100000 in
theorem v_flush_z (l : Launch) (D : va_G) (dA : Nat → ClassId) (sz : Nat) (h : Nat) (ad : Nat → Nat) (x : VS) (ho : x.powered = true) (hj0 : x.jsize = 0) : Met l ⟨"SeriesVault", "flush", "()I"⟩ [Cond.code ⟨"SeriesVault", "flush", "()I"⟩ prog_1_method_36_code 4 (some FieldType.int)] { frames := 2, cells := 0, slots := 0, locals := 20 } (pC D dA [.ref h] (VW dA h ad x) sz) (va_Qi (fun (r9 : Int32) (u9 : Unit) => r9 = 0) (fun (u9 : Unit) t9 => bW D (va_A (VW dA h ad x) sz) (VW dA h ad x) t9) (va_A (VW dA h ad x) sz)) 0 0 (va_A (VW dA h ad x) sz) := by
  refine mkC (y := ⟨"SeriesVault", "flush", "()I"⟩) (cc := prog_1_method_36_code) (maxL := 4) (av := [.ref h]) (ws := VW dA h ad x) (sz := sz) (Qc := fun A => va_Qi (fun (r9 : Int32) (u9 : Unit) => r9 = 0) (fun (u9 : Unit) t9 => bW D A (VW dA h ad x) t9) A) (by decide) (Nat.le_of_ble_eq_true rfl) ?_
  intro A p e s m below meth c ls hsz hB
  obtain ⟨hx, hb, hr, hml, hown, hin, hlk, hE, hK, hP, hD, hS, hA, hN, hl⟩ := hB
  have hown : s.vm.findClass "SeriesVault" = some m.cls := hown
  have hl : lv_has ls 4 [(0, .ref h)] := hl
  obtain ⟨H, hH⟩ : ∃ z, z = s.heap := ⟨_, rfl⟩
  have hP : va_P D vwCl (VW dA h ad x) H := by rw [hH]; exact hP
  have hS : va_S A s.heap H [] := by rw [hH]; exact hS
  rw [← hH]
  refine lv_aload_n hx hb d_V_flush_0 rfl (lv_at hl 0 rfl) ?_
  refine jkV (wr := []) (rnV (As := []) (rest := []) hx hb hml hown hE hK (hN _ _ hS) hP hD (v_checkPower l D dA H.size h ad x ho) (q0 := 0) rfl rfl w278 w276 w279 w280 w277 rfl rfl ⟨⟨by decide, by decide⟩, rfl⟩ ⟨(Nat.le_of_ble_eq_true rfl), (Nat.le_of_ble_eq_true rfl)⟩ rfl hl.1 rfl (Nat.le_of_ble_eq_true rfl) d_V_flush_1 ⟨(Nat.le_of_ble_eq_true rfl), (Nat.le_of_ble_eq_true rfl)⟩) hP hD hS hA (fun u2 H locs hp9 hP hD hS => ?_)
  have hP : va_P D vwCl (VW dA h ad x) H := hP
  have hD : va_D A (VW dA h ad x) := hD
  refine lv_aload_n hx hb d_V_flush_4 rfl (lv_at hl 0 rfl) ?_
  refine gF (v := .ref (ad 0)) hx hb hown hE hK hP 0 rfl rfl layV 8 (by decide) w312 rfl d_V_flush_5 ?_
  refine gFN (v := .int (nI x.jsize)) hx hb hown hE hK hP 2 rfl rfl layJ 6 (by decide) w318 rfl d_V_flush_8 ?_
  refine lv_if_ne hx hb d_V_flush_11 (tgt := 16) rfl (fun h9 => absurd ((nI_eq (a := x.jsize) (b := 0) (by omega) (by omega)).mpr hj0) h9) (fun _ => ?_)
  refine lv_iconst (v := 0) hx hb d_V_flush_14 (by decide) ?_
  exact rfI hx hb hr hlk hS () rfl hP hD (Nat.le_of_ble_eq_true rfl) (Nat.le_of_ble_eq_true rfl) d_V_flush_15
theorem d_V_flush_16 : decode prog_1_method_36_code 16 = .ok (.aload_n 0, 1) := by decide +kernel
theorem d_V_flush_17 : decode prog_1_method_36_code 17 = .ok (.aload_n 0, 1) := by decide +kernel
theorem d_V_flush_18 : decode prog_1_method_36_code 18 = .ok (.getfield 23, 3) := by decide +kernel
theorem d_V_flush_21 : decode prog_1_method_36_code 21 = .ok (.invokevirtual 294, 3) := by decide +kernel
theorem d_V_flush_24 : decode prog_1_method_36_code 24 = .ok (.astore_n 1, 1) := by decide +kernel
theorem d_V_flush_25 : decode prog_1_method_36_code 25 = .ok (.aload_n 0, 1) := by decide +kernel
theorem d_V_flush_26 : decode prog_1_method_36_code 26 = .ok (.invokevirtual 298, 3) := by decide +kernel
theorem d_V_flush_29 : decode prog_1_method_36_code 29 = .ok (.istore_n 2, 1) := by decide +kernel
theorem d_V_flush_30 : decode prog_1_method_36_code 30 = .ok (.aload_n 1, 1) := by decide +kernel
theorem d_V_flush_31 : decode prog_1_method_36_code 31 = .ok (.invokestatic 301, 3) := by decide +kernel
theorem d_V_flush_34 : decode prog_1_method_36_code 34 = .ok (.iload_n 2, 1) := by decide +kernel
theorem d_V_flush_35 : decode prog_1_method_36_code 35 = .ok (.iadd, 1) := by decide +kernel
theorem d_V_flush_36 : decode prog_1_method_36_code 36 = .ok (.istore_n 3, 1) := by decide +kernel
theorem d_V_flush_37 : decode prog_1_method_36_code 37 = .ok (.aload_n 1, 1) := by decide +kernel
theorem d_V_flush_38 : decode prog_1_method_36_code 38 = .ok (.ifnull 15, 3) := by decide +kernel
theorem d_V_flush_53 : decode prog_1_method_36_code 53 = .ok (.iload_n 3, 1) := by decide +kernel
theorem d_V_flush_54 : decode prog_1_method_36_code 54 = .ok (.aload_n 0, 1) := by decide +kernel
theorem d_V_flush_55 : decode prog_1_method_36_code 55 = .ok (.invokevirtual 308, 3) := by decide +kernel
theorem d_V_flush_58 : decode prog_1_method_36_code 58 = .ok (.if_icmp .le 11, 3) := by decide +kernel
theorem d_V_flush_69 : decode prog_1_method_36_code 69 = .ok (.aload_n 0, 1) := by decide +kernel
theorem d_V_flush_70 : decode prog_1_method_36_code 70 = .ok (.iload_n 3, 1) := by decide +kernel
theorem d_V_flush_71 : decode prog_1_method_36_code 71 = .ok (.iconst 1, 1) := by decide +kernel
theorem d_V_flush_72 : decode prog_1_method_36_code 72 = .ok (.iadd, 1) := by decide +kernel
theorem d_V_flush_73 : decode prog_1_method_36_code 73 = .ok (.invokevirtual 311, 3) := by decide +kernel
theorem d_V_flush_76 : decode prog_1_method_36_code 76 = .ok (.aload_n 0, 1) := by decide +kernel
theorem d_V_flush_77 : decode prog_1_method_36_code 77 = .ok (.getfield 33, 3) := by decide +kernel
theorem d_V_flush_80 : decode prog_1_method_36_code 80 = .ok (.aload_n 1, 1) := by decide +kernel
theorem d_V_flush_81 : decode prog_1_method_36_code 81 = .ok (.invokevirtual 314, 3) := by decide +kernel
theorem d_V_flush_84 : decode prog_1_method_36_code 84 = .ok (.aload_n 0, 1) := by decide +kernel
theorem d_V_flush_85 : decode prog_1_method_36_code 85 = .ok (.getfield 33, 3) := by decide +kernel
theorem d_V_flush_88 : decode prog_1_method_36_code 88 = .ok (.iload_n 2, 1) := by decide +kernel
theorem d_V_flush_89 : decode prog_1_method_36_code 89 = .ok (.putfield 318, 3) := by decide +kernel
theorem d_V_flush_92 : decode prog_1_method_36_code 92 = .ok (.aload_n 0, 1) := by decide +kernel
theorem d_V_flush_93 : decode prog_1_method_36_code 93 = .ok (.getfield 37, 3) := by decide +kernel
theorem d_V_flush_96 : decode prog_1_method_36_code 96 = .ok (.aload_n 0, 1) := by decide +kernel
theorem d_V_flush_97 : decode prog_1_method_36_code 97 = .ok (.getfield 33, 3) := by decide +kernel
theorem d_V_flush_100 : decode prog_1_method_36_code 100 = .ok (.invokevirtual 143, 3) := by decide +kernel
theorem d_V_flush_103 : decode prog_1_method_36_code 103 = .ok (.aload_n 0, 1) := by decide +kernel
theorem d_V_flush_104 : decode prog_1_method_36_code 104 = .ok (.getfield 37, 3) := by decide +kernel
theorem d_V_flush_107 : decode prog_1_method_36_code 107 = .ok (.aload_n 0, 1) := by decide +kernel
theorem d_V_flush_108 : decode prog_1_method_36_code 108 = .ok (.getfield 33, 3) := by decide +kernel
theorem d_V_flush_111 : decode prog_1_method_36_code 111 = .ok (.invokevirtual 147, 3) := by decide +kernel
theorem d_V_flush_114 : decode prog_1_method_36_code 114 = .ok (.aload_n 0, 1) := by decide +kernel
theorem d_V_flush_115 : decode prog_1_method_36_code 115 = .ok (.getfield 23, 3) := by decide +kernel
theorem d_V_flush_118 : decode prog_1_method_36_code 118 = .ok (.invokevirtual 120, 3) := by decide +kernel
theorem d_V_flush_121 : decode prog_1_method_36_code 121 = .ok (.aload_n 0, 1) := by decide +kernel
theorem d_V_flush_122 : decode prog_1_method_36_code 122 = .ok (.getfield 16, 3) := by decide +kernel
theorem d_V_flush_125 : decode prog_1_method_36_code 125 = .ok (.invokevirtual 320, 3) := by decide +kernel
theorem d_V_flush_128 : decode prog_1_method_36_code 128 = .ok (.iload_n 3, 1) := by decide +kernel
theorem d_V_flush_129 : decode prog_1_method_36_code 129 = .ok (.iconst 1, 1) := by decide +kernel
theorem d_V_flush_130 : decode prog_1_method_36_code 130 = .ok (.iadd, 1) := by decide +kernel
theorem d_V_flush_131 : decode prog_1_method_36_code 131 = .ok (.ireturn, 1) := by decide +kernel
theorem w1382 : Cond.methodLink "SeriesVault" 294 ⟨"SeriesVault", "packed", "(LSeriesVault$Points;)LSeriesVault$Parcel;"⟩ ∈ aW := aw_of (tb_5 (List.mem_of_getElem? (i := 237) rfl)) rfl
theorem w1383 : Cond.code ⟨"SeriesVault", "packed", "(LSeriesVault$Points;)LSeriesVault$Parcel;"⟩ prog_1_method_37_code 2 (some (FieldType.object "SeriesVault$Parcel")) ∈ aW := aw_of (tb_6 (List.mem_of_getElem? (i := 0) rfl)) rfl
theorem w1384 : Cond.instanceMethod ⟨"SeriesVault", "packed", "(LSeriesVault$Points;)LSeriesVault$Parcel;"⟩ ∈ aW := aw_of (tb_5 (List.mem_of_getElem? (i := 239) rfl)) rfl
theorem w1385 : Cond.selects "SeriesVault" ⟨"SeriesVault", "packed", "(LSeriesVault$Points;)LSeriesVault$Parcel;"⟩ ⟨"SeriesVault", "packed", "(LSeriesVault$Points;)LSeriesVault$Parcel;"⟩ ∈ aW := aw_pr (List.mem_map.mpr ⟨_, pv_2 (List.mem_of_getElem? (i := 11) rfl), rfl⟩) rfl
theorem w1386 : Cond.methodLink "SeriesVault" 298 ⟨"SeriesVault", "catalogBlocks", "()I"⟩ ∈ aW := aw_of (tb_6 (List.mem_of_getElem? (i := 83) rfl)) rfl
theorem w1387 : Cond.code ⟨"SeriesVault", "catalogBlocks", "()I"⟩ prog_1_method_39_code 5 (some FieldType.int) ∈ aW := aw_of (tb_6 (List.mem_of_getElem? (i := 86) rfl)) rfl
theorem w1388 : Cond.instanceMethod ⟨"SeriesVault", "catalogBlocks", "()I"⟩ ∈ aW := aw_of (tb_6 (List.mem_of_getElem? (i := 85) rfl)) rfl
theorem w1389 : Cond.selects "SeriesVault" ⟨"SeriesVault", "catalogBlocks", "()I"⟩ ⟨"SeriesVault", "catalogBlocks", "()I"⟩ ∈ aW := aw_pr (List.mem_map.mpr ⟨_, pv_2 (List.mem_of_getElem? (i := 12) rfl), rfl⟩) rfl
theorem w1390 : Cond.methodLink "SeriesVault" 301 ⟨"SeriesVault", "blocksOf", "(LSeriesVault$Parcel;)I"⟩ ∈ aW := aw_of (tb_6 (List.mem_of_getElem? (i := 87) rfl)) rfl
theorem w1391 : Cond.code ⟨"SeriesVault", "blocksOf", "(LSeriesVault$Parcel;)I"⟩ prog_1_method_38_code 1 (some FieldType.int) ∈ aW := aw_of (tb_6 (List.mem_of_getElem? (i := 89) rfl)) rfl
theorem w1392 : Cond.static ⟨"SeriesVault", "blocksOf", "(LSeriesVault$Parcel;)I"⟩ ∈ aW := aw_of (tb_6 (List.mem_of_getElem? (i := 88) rfl)) rfl
theorem w1393 : Cond.methodLink "SeriesVault" 311 ⟨"SeriesVault", "writeBlocks", "(I)V"⟩ ∈ aW := aw_of (tb_6 (List.mem_of_getElem? (i := 98) rfl)) rfl
theorem w1394 : Cond.code ⟨"SeriesVault", "writeBlocks", "(I)V"⟩ prog_1_method_16_code 3 none ∈ aW := aw_of (tb_6 (List.mem_of_getElem? (i := 101) rfl)) rfl
theorem w1395 : Cond.instanceMethod ⟨"SeriesVault", "writeBlocks", "(I)V"⟩ ∈ aW := aw_of (tb_6 (List.mem_of_getElem? (i := 100) rfl)) rfl
theorem w1396 : Cond.selects "SeriesVault" ⟨"SeriesVault", "writeBlocks", "(I)V"⟩ ⟨"SeriesVault", "writeBlocks", "(I)V"⟩ ∈ aW := aw_pr (List.mem_map.mpr ⟨_, pv_2 (List.mem_of_getElem? (i := 14) rfl), rfl⟩) rfl
theorem w1397 : Cond.methodLink "SeriesVault" 314 ⟨"SeriesVault$Shelf", "addParcel", "(LSeriesVault$Parcel;)V"⟩ ∈ aW := aw_of (tb_6 (List.mem_of_getElem? (i := 102) rfl)) rfl
theorem w1398 : Cond.code ⟨"SeriesVault$Shelf", "addParcel", "(LSeriesVault$Parcel;)V"⟩ prog_9_method_7_code 2 none ∈ aW := aw_of (tb_6 (List.mem_of_getElem? (i := 105) rfl)) rfl
theorem w1399 : Cond.instanceMethod ⟨"SeriesVault$Shelf", "addParcel", "(LSeriesVault$Parcel;)V"⟩ ∈ aW := aw_of (tb_6 (List.mem_of_getElem? (i := 103) rfl)) rfl
theorem w1400 : Cond.selects "SeriesVault$Shelf" ⟨"SeriesVault$Shelf", "addParcel", "(LSeriesVault$Parcel;)V"⟩ ⟨"SeriesVault$Shelf", "addParcel", "(LSeriesVault$Parcel;)V"⟩ ∈ aW := aw_of (tb_6 (List.mem_of_getElem? (i := 104) rfl)) rfl
theorem w1401 : Cond.fieldLinkNest "SeriesVault" 318 "SeriesVault$Shelf" "catalogBlocks" "I" "SeriesVault" ∈ aW := aw_of (tb_1 (List.mem_of_getElem? (i := 160) rfl)) rfl
theorem w1402 : Cond.methodLink "SeriesVault" 147 ⟨"SeriesVault$Shelf", "takeCatalog", "(LSeriesVault$Shelf;)V"⟩ ∈ aW := aw_of (tb_6 (List.mem_of_getElem? (i := 111) rfl)) rfl
theorem w1403 : Cond.code ⟨"SeriesVault$Shelf", "takeCatalog", "(LSeriesVault$Shelf;)V"⟩ prog_9_method_4_code 2 none ∈ aW := aw_of (tb_6 (List.mem_of_getElem? (i := 114) rfl)) rfl
theorem w1404 : Cond.instanceMethod ⟨"SeriesVault$Shelf", "takeCatalog", "(LSeriesVault$Shelf;)V"⟩ ∈ aW := aw_of (tb_6 (List.mem_of_getElem? (i := 112) rfl)) rfl
theorem w1405 : Cond.selects "SeriesVault$Shelf" ⟨"SeriesVault$Shelf", "takeCatalog", "(LSeriesVault$Shelf;)V"⟩ ⟨"SeriesVault$Shelf", "takeCatalog", "(LSeriesVault$Shelf;)V"⟩ ∈ aW := aw_of (tb_6 (List.mem_of_getElem? (i := 113) rfl)) rfl
theorem w1406 : Cond.methodLink "SeriesVault" 320 ⟨"SeriesVault$Journal", "clear", "()V"⟩ ∈ aW := aw_of (tb_6 (List.mem_of_getElem? (i := 115) rfl)) rfl
set_option maxHeartbeats 4000000 in
set_option maxRecDepth 100000 in
theorem v_flush_0 (l : Launch) (D : va_G) (dA : Nat → ClassId) (sz : Nat) (h : Nat) (ad : Nat → Nat) (x : VS) (PS : Nat → PT) (SS : Nat → List LB) (ho : x.powered = true) (hj0 : 0 < x.jsize) (hj1 : x.jsize < 2 ^ 31) (hps : psOk dA x.nP x.npc x.pl PS) (hpn : x.npc ≤ 32) (hfr : x.jlimit + 2 + (x.ncat + sumN x.npc (blN PS)) ≤ x.diskBlocks) (hkn : knOk dA x.kn x.nser x.pl SS) (hn : x.nser ≤ 256) (hdk : x.diskBlocks ≤ 256) (hj2 : x.jN ≤ 65536) (hj3 : x.jkept < 2 ^ 31) (h2 : x.nsc ≤ 64) (hz : x.hsize = 0) (hf : (ctG2 SS x.nser).1 ≤ x.fr PS) (hcz : ∀ j : Nat, j < (ctG2 SS x.nser).1 + 1 → ¬ cutN x.cutLeft j = 0) : Met l ⟨"SeriesVault", "flush", "()I"⟩ [Cond.code ⟨"SeriesVault", "flush", "()I"⟩ prog_1_method_36_code 4 (some FieldType.int)] { frames := 3, cells := 0, slots := 0, locals := 61 } (pC D dA [.ref h] (VW dA h ad x) sz) (va_Qi (fun (r9 : Int32) (u9 : Unit) => r9 = nI ((ctG2 SS x.nser).1 + 1)) (fun (u9 : Unit) t9 => bW D (va_A (VW dA h ad x) sz) (VW dA h ad (VS.s_scat (VS.s_slast (VS.s_sser (VS.s_shor (VS.s_ssc (VS.s_ssT (VS.s_ssF (VS.s_ssO (VS.s_spc (VS.s_sP (VS.s_ncat (VS.s_hsize (VS.s_jch (VS.s_jfill (VS.s_jblock (VS.s_junits (VS.s_jkept (VS.s_jsize (VS.s_writes (VS.s_cutLeft x (cutN x.cutLeft ((ctG2 SS x.nser).1 + 1))) (x.writes + ((ctG2 SS x.nser).1 + 1))) 0) 0) 0) 0) 0) false) 0) ((ctG2 SS x.nser).1)) (va_cpy x.nP x.sP 0 0 x.npc)) x.npc) (va_cpy x.nsO x.ssO 0 0 x.nsc)) (va_cpy x.nsF x.ssF 0 0 x.nsc)) (va_cpy x.nsT x.ssT 0 0 x.nsc)) x.nsc) x.nhor) x.nser) (va_cpy x.nlast x.slast 0 0 x.nser)) ((ctG2 SS x.nser).1))) t9) (va_A (VW dA h ad x) sz)) 0 0 (va_A (VW dA h ad x) sz) := by
  refine mkC (y := ⟨"SeriesVault", "flush", "()I"⟩) (cc := prog_1_method_36_code) (maxL := 4) (av := [.ref h]) (ws := VW dA h ad x) (sz := sz) (Qc := fun A => va_Qi (fun (r9 : Int32) (u9 : Unit) => r9 = nI ((ctG2 SS x.nser).1 + 1)) (fun (u9 : Unit) t9 => bW D A (VW dA h ad (VS.s_scat (VS.s_slast (VS.s_sser (VS.s_shor (VS.s_ssc (VS.s_ssT (VS.s_ssF (VS.s_ssO (VS.s_spc (VS.s_sP (VS.s_ncat (VS.s_hsize (VS.s_jch (VS.s_jfill (VS.s_jblock (VS.s_junits (VS.s_jkept (VS.s_jsize (VS.s_writes (VS.s_cutLeft x (cutN x.cutLeft ((ctG2 SS x.nser).1 + 1))) (x.writes + ((ctG2 SS x.nser).1 + 1))) 0) 0) 0) 0) 0) false) 0) ((ctG2 SS x.nser).1)) (va_cpy x.nP x.sP 0 0 x.npc)) x.npc) (va_cpy x.nsO x.ssO 0 0 x.nsc)) (va_cpy x.nsF x.ssF 0 0 x.nsc)) (va_cpy x.nsT x.ssT 0 0 x.nsc)) x.nsc) x.nhor) x.nser) (va_cpy x.nlast x.slast 0 0 x.nser)) ((ctG2 SS x.nser).1))) t9) A) (by decide) (Nat.le_of_ble_eq_true rfl) ?_
  intro A p e s m below meth c ls hsz hB
  obtain ⟨hx, hb, hr, hml, hown, hin, hlk, hE, hK, hP, hD, hS, hA, hN, hl⟩ := hB
  have hown : s.vm.findClass "SeriesVault" = some m.cls := hown
  have hl : lv_has ls 4 [(0, .ref h)] := hl
  obtain ⟨H, hH⟩ : ∃ z, z = s.heap := ⟨_, rfl⟩
  have hP : va_P D vwCl (VW dA h ad x) H := by rw [hH]; exact hP
  have hS : va_S A s.heap H [] := by rw [hH]; exact hS
  rw [← hH]
  refine lv_aload_n hx hb d_V_flush_0 rfl (lv_at hl 0 rfl) ?_
  refine jkV (wr := []) (rnV (As := []) (rest := []) hx hb hml hown hE hK (hN _ _ hS) hP hD (v_checkPower l D dA H.size h ad x ho) (q0 := 0) rfl rfl w278 w276 w279 w280 w277 rfl rfl ⟨⟨by decide, by decide⟩, rfl⟩ ⟨(Nat.le_of_ble_eq_true rfl), (Nat.le_of_ble_eq_true rfl)⟩ rfl hl.1 rfl (Nat.le_of_ble_eq_true rfl) d_V_flush_1 ⟨(Nat.le_of_ble_eq_true rfl), (Nat.le_of_ble_eq_true rfl)⟩) hP hD hS hA (fun u2 H locs hp9 hP hD hS => ?_)
  have hP : va_P D vwCl (VW dA h ad x) H := hP
  have hD : va_D A (VW dA h ad x) := hD
  refine lv_aload_n hx hb d_V_flush_4 rfl (lv_at hl 0 rfl) ?_
  refine gF (v := .ref (ad 0)) hx hb hown hE hK hP 0 rfl rfl layV 8 (by decide) w312 rfl d_V_flush_5 ?_
  refine gFN (v := .int (nI x.jsize)) hx hb hown hE hK hP 2 rfl rfl layJ 6 (by decide) w318 rfl d_V_flush_8 ?_
  refine lv_if_ne hx hb d_V_flush_11 (tgt := 16) rfl (fun g3 => ?_) (fun g3 => ?_)
  rotate_left
  · have g3 := (nI_eq (a := x.jsize) (b := 0) (by omega) (by decide)).mp g3; exfalso; omega
  have g3 := mt (nI_eq (a := x.jsize) (b := 0) (by omega) (by decide)).mpr g3
  refine lv_aload_n hx hb d_V_flush_16 rfl (lv_at hl 0 rfl) ?_
  refine lv_aload_n hx hb d_V_flush_17 rfl (lv_at hl 0 rfl) ?_
  refine gF (v := .ref (ad 1)) hx hb hown hE hK hP 0 rfl rfl layV 9 (by decide) w576 rfl d_V_flush_18 ?_
  refine jkN (wr := []) (rnV (As := [.ref (ad 1)]) (rest := []) hx hb hml hown hE hK (hN _ _ hS) hP hD (v_packed_0h l D dA H.size h ad x hz) (q0 := 0) rfl rfl w1383 w1382 w1384 w1385 w277 rfl rfl ⟨⟨by decide, by decide⟩, rfl⟩ ⟨(Nat.le_of_ble_eq_true rfl), (Nat.le_of_ble_eq_true rfl)⟩ rfl hl.1 rfl (Nat.le_of_ble_eq_true rfl) d_V_flush_21 ⟨(Nat.le_of_ble_eq_true rfl), (Nat.le_of_ble_eq_true rfl)⟩) hP hD hS hA (fun u5 H locs hp9 hP hD hS => ?_)
  have hP : va_P D vwCl (VW dA h ad x) H := hP
  have hD : va_D A (VW dA h ad x) := hD
  refine lv_astore_nN hx hb d_V_flush_24 rfl hl (by decide) rfl (fun ls hl => ?_)
  have hl : lv_has ls 4 [(1, .null), (0, .ref h)] := hl
  refine lv_aload_n hx hb d_V_flush_25 rfl (lv_at hl 1 rfl) ?_
  refine jkI (wr := []) (rnV (As := []) (rest := []) hx hb hml hown hE hK (hN _ _ hS) hP hD (v_catalogBlocks l D dA H.size h ad x SS hkn (show x.nser ≤ 256 from by omega)) (q0 := 0) rfl rfl w1387 w1386 w1388 w1389 w277 rfl rfl ⟨⟨by decide, by decide⟩, rfl⟩ ⟨(Nat.le_of_ble_eq_true rfl), (Nat.le_of_ble_eq_true rfl)⟩ rfl hl.1 rfl (Nat.le_of_ble_eq_true rfl) d_V_flush_26 ⟨(Nat.le_of_ble_eq_true rfl), (Nat.le_of_ble_eq_true rfl)⟩) hP hD hS hA (fun r6 u7 H locs hp9 hP hD hS => ?_)
  have hP : va_P D vwCl (VW dA h ad x) H := hP
  have hD : va_D A (VW dA h ad x) := hD
  replace hp9 : nI (ctG2 SS x.nser).1 = r6 := Eq.symm hp9
  subst hp9
  refine lv_istore_n hx hb d_V_flush_29 rfl hl (by decide) rfl (fun ls hl => ?_)
  have hl : lv_has ls 4 [(2, .int (nI (ctG2 SS x.nser).1)), (1, .null), (0, .ref h)] := hl
  refine lv_aload_nN hx hb d_V_flush_30 rfl (lv_at hl 1 rfl) ?_
  have hPc := hP.sub (ws' := []) [] rfl
  have hDc := hD.sub (ws' := []) [] (by decide) rfl
  refine jpI (rnS (As := [.null]) (rest := []) hx hb hml hown hE hK (hN _ _ hS) hPc hDc (v_blocksOf_0 l D dA H.size ) w1391 w1390 w1392 w277 rfl rfl ⟨⟨by decide, by decide⟩, rfl⟩ ⟨(Nat.le_of_ble_eq_true rfl), (Nat.le_of_ble_eq_true rfl)⟩ rfl hl.1 rfl (Nat.le_of_ble_eq_true rfl) d_V_flush_31 ⟨(Nat.le_of_ble_eq_true rfl), (Nat.le_of_ble_eq_true rfl)⟩) hP hD hS hA (fun r8 u9 H locs hp9 hP hD hS => ?_)
  have hP : va_P D vwCl (VW dA h ad x) H := hP
  have hD : va_D A (VW dA h ad x) := hD
  replace hp9 : 0 = r8 := Eq.symm hp9
  subst hp9
  refine lv_iload_n hx hb d_V_flush_34 rfl (lv_at hl 0 rfl) ?_
  refine lv_iadd hx hb d_V_flush_35 (tpi (y := nI ((ctG2 SS x.nser).1)) ((nI_add 0 ((ctG2 SS x.nser).1)).trans (congrArg nI (Nat.zero_add _))) ?_)
  refine lv_istore_n hx hb d_V_flush_36 rfl hl (by decide) rfl (fun ls hl => ?_)
  have hl : lv_has ls 4 [(3, .int (nI ((ctG2 SS x.nser).1))), (2, .int (nI (ctG2 SS x.nser).1)), (1, .null), (0, .ref h)] := hl
  refine lv_aload_nN hx hb d_V_flush_37 rfl (lv_at hl 2 rfl) ?_
  refine lv_ifnullN hx hb d_V_flush_38 (tgt := 53) rfl ?_
  have fe : x.fr PS = x.diskBlocks - 2 - x.jlimit - (x.ncat + sumN x.npc (blN PS)) := rfl
  refine lv_iload_n hx hb d_V_flush_53 rfl (lv_at hl 0 rfl) ?_
  refine lv_aload_n hx hb d_V_flush_54 rfl (lv_at hl 3 rfl) ?_
  refine jkI (wr := []) (rnV (As := []) (rest := [.int (nI ((ctG2 SS x.nser).1))]) hx hb hml hown hE hK (hN _ _ hS) hP hD (v_freeBlocks l D dA H.size h ad x PS hps (show x.npc ≤ 32 from by omega) (show x.jlimit + 2 + (x.ncat + sumN x.npc (blN PS)) ≤ x.diskBlocks from by omega)) (q0 := 0) rfl rfl w644 w643 w645 w646 w277 rfl rfl ⟨⟨by decide, by decide⟩, rfl⟩ ⟨(Nat.le_of_ble_eq_true rfl), (Nat.le_of_ble_eq_true rfl)⟩ rfl hl.1 rfl (Nat.le_of_ble_eq_true rfl) d_V_flush_55 ⟨(Nat.le_of_ble_eq_true rfl), (Nat.le_of_ble_eq_true rfl)⟩) hP hD hS hA (fun r10 u11 H locs hp9 hP hD hS => ?_)
  have hP : va_P D vwCl (VW dA h ad x) H := hP
  have hD : va_D A (VW dA h ad x) := hD
  replace hp9 : nI (x.fr PS) = r10 := Eq.symm hp9
  subst hp9
  refine lv_icmp_le hx hb d_V_flush_58 (tgt := 69) rfl (fun _ => ?_) (fun h9 => absurd ((nI_leI (a := (ctG2 SS x.nser).1) (b := x.fr PS) (by omega) (by omega)).mpr hf) h9)
  refine lv_aload_n hx hb d_V_flush_69 rfl (lv_at hl 3 rfl) ?_
  refine lv_iload_n hx hb d_V_flush_70 rfl (lv_at hl 0 rfl) ?_
  refine lv_iconst (v := 1) hx hb d_V_flush_71 (by decide) ?_
  refine lv_iadd hx hb d_V_flush_72 (tpi (y := nI (((ctG2 SS x.nser).1) + 1)) (nI_add ((ctG2 SS x.nser).1) (1)) ?_)
  refine jkV (wr := []) (rnV (As := [.int (nI (((ctG2 SS x.nser).1) + 1))]) (rest := []) hx hb hml hown hE hK (hN _ _ hS) hP hD (v_writeBlocks l D dA H.size h ad x (((ctG2 SS x.nser).1) + 1) (show (((ctG2 SS x.nser).1) + 1) < 2 ^ 31 from by omega) hcz) (q0 := 0) rfl rfl w1394 w1393 w1395 w1396 w277 rfl rfl ⟨⟨by decide, by decide⟩, rfl⟩ ⟨(Nat.le_of_ble_eq_true rfl), (Nat.le_of_ble_eq_true rfl)⟩ rfl hl.1 rfl (Nat.le_of_ble_eq_true rfl) d_V_flush_73 ⟨(Nat.le_of_ble_eq_true rfl), (Nat.le_of_ble_eq_true rfl)⟩) hP hD hS hA (fun u13 H locs hp9 hP hD hS => ?_)
  have hP : va_P D vwCl (VW dA h ad (VS.s_writes (VS.s_cutLeft x (cutN x.cutLeft (((ctG2 SS x.nser).1) + 1))) (x.writes + (((ctG2 SS x.nser).1) + 1)))) H := hP
  have hD : va_D A (VW dA h ad (VS.s_writes (VS.s_cutLeft x (cutN x.cutLeft (((ctG2 SS x.nser).1) + 1))) (x.writes + (((ctG2 SS x.nser).1) + 1)))) := hD
  refine lv_aload_n hx hb d_V_flush_76 rfl (lv_at hl 3 rfl) ?_
  refine gF (v := .ref (ad 3)) hx hb hown hE hK hP 0 rfl rfl layV 11 (by decide) w297 rfl d_V_flush_77 ?_
  refine lv_aload_nN hx hb d_V_flush_80 rfl (lv_at hl 2 rfl) ?_
  refine jkV (wr := []) (rnV (As := [.null]) (rest := []) hx hb hml hown hE hK (hN _ _ hS) hP hD (v_addParcel_0 l D dA H.size h ad (VS.s_writes (VS.s_cutLeft x (cutN x.cutLeft (((ctG2 SS x.nser).1) + 1))) (x.writes + (((ctG2 SS x.nser).1) + 1)))) (q0 := 17) rfl rfl w1398 w1397 w1399 w1400 w583 rfl rfl ⟨⟨by decide, by decide⟩, rfl⟩ ⟨(Nat.le_of_ble_eq_true rfl), (Nat.le_of_ble_eq_true rfl)⟩ rfl hl.1 rfl (Nat.le_of_ble_eq_true rfl) d_V_flush_81 ⟨(Nat.le_of_ble_eq_true rfl), (Nat.le_of_ble_eq_true rfl)⟩) hP hD hS hA (fun u15 H locs hp9 hP hD hS => ?_)
  have hP : va_P D vwCl (VW dA h ad (VS.s_writes (VS.s_cutLeft x (cutN x.cutLeft (((ctG2 SS x.nser).1) + 1))) (x.writes + (((ctG2 SS x.nser).1) + 1)))) H := hP
  have hD : va_D A (VW dA h ad (VS.s_writes (VS.s_cutLeft x (cutN x.cutLeft (((ctG2 SS x.nser).1) + 1))) (x.writes + (((ctG2 SS x.nser).1) + 1)))) := hD
  refine lv_aload_n hx hb d_V_flush_84 rfl (lv_at hl 3 rfl) ?_
  refine gF (v := .ref (ad 3)) hx hb hown hE hK hP 0 rfl rfl layV 11 (by decide) w297 rfl d_V_flush_85 ?_
  refine lv_iload_n hx hb d_V_flush_88 rfl (lv_at hl 1 rfl) ?_
  refine pFN (v := .int (nI ((ctG2 SS x.nser).1))) hx hb hown hE hK hP hD hS 17 rfl rfl layH tyH tokH nmH 10 (by decide) w1401 rfl rfl rfl (Nat.le_of_ble_eq_true rfl) d_V_flush_89 (fun H locs hP hD hS => ?_)
  have hP : va_P D vwCl (VW dA h ad (VS.s_ncat (VS.s_writes (VS.s_cutLeft x (cutN x.cutLeft (((ctG2 SS x.nser).1) + 1))) (x.writes + (((ctG2 SS x.nser).1) + 1))) ((ctG2 SS x.nser).1))) H := hP
  have hD : va_D A (VW dA h ad (VS.s_ncat (VS.s_writes (VS.s_cutLeft x (cutN x.cutLeft (((ctG2 SS x.nser).1) + 1))) (x.writes + (((ctG2 SS x.nser).1) + 1))) ((ctG2 SS x.nser).1))) := hD
  refine lv_aload_n hx hb d_V_flush_92 rfl (lv_at hl 3 rfl) ?_
  refine gF (v := .ref (ad 10)) hx hb hown hE hK hP 0 rfl rfl layV 12 (by decide) w587 rfl d_V_flush_93 ?_
  refine lv_aload_n hx hb d_V_flush_96 rfl (lv_at hl 3 rfl) ?_
  refine gF (v := .ref (ad 3)) hx hb hown hE hK hP 0 rfl rfl layV 11 (by decide) w297 rfl d_V_flush_97 ?_
  refine jkV (wr := []) (rnV (As := [.ref (ad 3)]) (rest := []) hx hb hml hown hE hK (hN _ _ hS) hP hD (v_takeParcels_s l D dA H.size h ad (VS.s_ncat (VS.s_writes (VS.s_cutLeft x (cutN x.cutLeft (((ctG2 SS x.nser).1) + 1))) (x.writes + (((ctG2 SS x.nser).1) + 1))) ((ctG2 SS x.nser).1)) PS hps (show x.npc ≤ 32 from by omega) (show x.nsc ≤ 64 from by omega)) (q0 := 24) rfl rfl w728 w727 w729 w730 w583 rfl rfl ⟨⟨by decide, by decide⟩, rfl⟩ ⟨(Nat.le_of_ble_eq_true rfl), (Nat.le_of_ble_eq_true rfl)⟩ rfl hl.1 rfl (Nat.le_of_ble_eq_true rfl) d_V_flush_100 ⟨(Nat.le_of_ble_eq_true rfl), (Nat.le_of_ble_eq_true rfl)⟩) hP hD hS hA (fun u17 H locs hp9 hP hD hS => ?_)
  have hP : va_P D vwCl (VW dA h ad (VS.s_shor (VS.s_ssc (VS.s_ssT (VS.s_ssF (VS.s_ssO (VS.s_spc (VS.s_sP (VS.s_ncat (VS.s_writes (VS.s_cutLeft x (cutN x.cutLeft (((ctG2 SS x.nser).1) + 1))) (x.writes + (((ctG2 SS x.nser).1) + 1))) ((ctG2 SS x.nser).1)) (va_cpy x.nP x.sP 0 0 x.npc)) x.npc) (va_cpy x.nsO x.ssO 0 0 x.nsc)) (va_cpy x.nsF x.ssF 0 0 x.nsc)) (va_cpy x.nsT x.ssT 0 0 x.nsc)) x.nsc) x.nhor)) H := hP
  have hD : va_D A (VW dA h ad (VS.s_shor (VS.s_ssc (VS.s_ssT (VS.s_ssF (VS.s_ssO (VS.s_spc (VS.s_sP (VS.s_ncat (VS.s_writes (VS.s_cutLeft x (cutN x.cutLeft (((ctG2 SS x.nser).1) + 1))) (x.writes + (((ctG2 SS x.nser).1) + 1))) ((ctG2 SS x.nser).1)) (va_cpy x.nP x.sP 0 0 x.npc)) x.npc) (va_cpy x.nsO x.ssO 0 0 x.nsc)) (va_cpy x.nsF x.ssF 0 0 x.nsc)) (va_cpy x.nsT x.ssT 0 0 x.nsc)) x.nsc) x.nhor)) := hD
  refine lv_aload_n hx hb d_V_flush_103 rfl (lv_at hl 3 rfl) ?_
  refine gF (v := .ref (ad 10)) hx hb hown hE hK hP 0 rfl rfl layV 12 (by decide) w587 rfl d_V_flush_104 ?_
  refine lv_aload_n hx hb d_V_flush_107 rfl (lv_at hl 3 rfl) ?_
  refine gF (v := .ref (ad 3)) hx hb hown hE hK hP 0 rfl rfl layV 11 (by decide) w297 rfl d_V_flush_108 ?_
  refine jkV (wr := []) (rnV (As := [.ref (ad 3)]) (rest := []) hx hb hml hown hE hK (hN _ _ hS) hP hD (v_takeCatalog_s l D dA H.size h ad (VS.s_shor (VS.s_ssc (VS.s_ssT (VS.s_ssF (VS.s_ssO (VS.s_spc (VS.s_sP (VS.s_ncat (VS.s_writes (VS.s_cutLeft x (cutN x.cutLeft (((ctG2 SS x.nser).1) + 1))) (x.writes + (((ctG2 SS x.nser).1) + 1))) ((ctG2 SS x.nser).1)) (va_cpy x.nP x.sP 0 0 x.npc)) x.npc) (va_cpy x.nsO x.ssO 0 0 x.nsc)) (va_cpy x.nsF x.ssF 0 0 x.nsc)) (va_cpy x.nsT x.ssT 0 0 x.nsc)) x.nsc) x.nhor) (show x.nser ≤ 256 from by omega)) (q0 := 24) rfl rfl w1403 w1402 w1404 w1405 w583 rfl rfl ⟨⟨by decide, by decide⟩, rfl⟩ ⟨(Nat.le_of_ble_eq_true rfl), (Nat.le_of_ble_eq_true rfl)⟩ rfl hl.1 rfl (Nat.le_of_ble_eq_true rfl) d_V_flush_111 ⟨(Nat.le_of_ble_eq_true rfl), (Nat.le_of_ble_eq_true rfl)⟩) hP hD hS hA (fun u19 H locs hp9 hP hD hS => ?_)
  have hP : va_P D vwCl (VW dA h ad (VS.s_scat (VS.s_slast (VS.s_sser (VS.s_shor (VS.s_ssc (VS.s_ssT (VS.s_ssF (VS.s_ssO (VS.s_spc (VS.s_sP (VS.s_ncat (VS.s_writes (VS.s_cutLeft x (cutN x.cutLeft (((ctG2 SS x.nser).1) + 1))) (x.writes + (((ctG2 SS x.nser).1) + 1))) ((ctG2 SS x.nser).1)) (va_cpy x.nP x.sP 0 0 x.npc)) x.npc) (va_cpy x.nsO x.ssO 0 0 x.nsc)) (va_cpy x.nsF x.ssF 0 0 x.nsc)) (va_cpy x.nsT x.ssT 0 0 x.nsc)) x.nsc) x.nhor) x.nser) (va_cpy x.nlast x.slast 0 0 x.nser)) ((ctG2 SS x.nser).1))) H := hP
  have hD : va_D A (VW dA h ad (VS.s_scat (VS.s_slast (VS.s_sser (VS.s_shor (VS.s_ssc (VS.s_ssT (VS.s_ssF (VS.s_ssO (VS.s_spc (VS.s_sP (VS.s_ncat (VS.s_writes (VS.s_cutLeft x (cutN x.cutLeft (((ctG2 SS x.nser).1) + 1))) (x.writes + (((ctG2 SS x.nser).1) + 1))) ((ctG2 SS x.nser).1)) (va_cpy x.nP x.sP 0 0 x.npc)) x.npc) (va_cpy x.nsO x.ssO 0 0 x.nsc)) (va_cpy x.nsF x.ssF 0 0 x.nsc)) (va_cpy x.nsT x.ssT 0 0 x.nsc)) x.nsc) x.nhor) x.nser) (va_cpy x.nlast x.slast 0 0 x.nser)) ((ctG2 SS x.nser).1))) := hD
  refine lv_aload_n hx hb d_V_flush_114 rfl (lv_at hl 3 rfl) ?_
  refine gF (v := .ref (ad 1)) hx hb hown hE hK hP 0 rfl rfl layV 9 (by decide) w576 rfl d_V_flush_115 ?_
  refine jkV (wr := []) (rnV (As := []) (rest := []) hx hb hml hown hE hK (hN _ _ hS) hP hD (v_pclear_h l D dA H.size h ad (VS.s_scat (VS.s_slast (VS.s_sser (VS.s_shor (VS.s_ssc (VS.s_ssT (VS.s_ssF (VS.s_ssO (VS.s_spc (VS.s_sP (VS.s_ncat (VS.s_writes (VS.s_cutLeft x (cutN x.cutLeft (((ctG2 SS x.nser).1) + 1))) (x.writes + (((ctG2 SS x.nser).1) + 1))) ((ctG2 SS x.nser).1)) (va_cpy x.nP x.sP 0 0 x.npc)) x.npc) (va_cpy x.nsO x.ssO 0 0 x.nsc)) (va_cpy x.nsF x.ssF 0 0 x.nsc)) (va_cpy x.nsT x.ssT 0 0 x.nsc)) x.nsc) x.nhor) x.nser) (va_cpy x.nlast x.slast 0 0 x.nser)) ((ctG2 SS x.nser).1))) (q0 := 9) rfl rfl w579 w577 w580 w581 w578 rfl rfl ⟨⟨by decide, by decide⟩, rfl⟩ ⟨(Nat.le_of_ble_eq_true rfl), (Nat.le_of_ble_eq_true rfl)⟩ rfl hl.1 rfl (Nat.le_of_ble_eq_true rfl) d_V_flush_118 ⟨(Nat.le_of_ble_eq_true rfl), (Nat.le_of_ble_eq_true rfl)⟩) hP hD hS hA (fun u21 H locs hp9 hP hD hS => ?_)
  have hP : va_P D vwCl (VW dA h ad (VS.s_scat (VS.s_slast (VS.s_sser (VS.s_shor (VS.s_ssc (VS.s_ssT (VS.s_ssF (VS.s_ssO (VS.s_spc (VS.s_sP (VS.s_ncat (VS.s_hsize (VS.s_writes (VS.s_cutLeft x (cutN x.cutLeft (((ctG2 SS x.nser).1) + 1))) (x.writes + (((ctG2 SS x.nser).1) + 1))) 0) ((ctG2 SS x.nser).1)) (va_cpy x.nP x.sP 0 0 x.npc)) x.npc) (va_cpy x.nsO x.ssO 0 0 x.nsc)) (va_cpy x.nsF x.ssF 0 0 x.nsc)) (va_cpy x.nsT x.ssT 0 0 x.nsc)) x.nsc) x.nhor) x.nser) (va_cpy x.nlast x.slast 0 0 x.nser)) ((ctG2 SS x.nser).1))) H := hP
  have hD : va_D A (VW dA h ad (VS.s_scat (VS.s_slast (VS.s_sser (VS.s_shor (VS.s_ssc (VS.s_ssT (VS.s_ssF (VS.s_ssO (VS.s_spc (VS.s_sP (VS.s_ncat (VS.s_hsize (VS.s_writes (VS.s_cutLeft x (cutN x.cutLeft (((ctG2 SS x.nser).1) + 1))) (x.writes + (((ctG2 SS x.nser).1) + 1))) 0) ((ctG2 SS x.nser).1)) (va_cpy x.nP x.sP 0 0 x.npc)) x.npc) (va_cpy x.nsO x.ssO 0 0 x.nsc)) (va_cpy x.nsF x.ssF 0 0 x.nsc)) (va_cpy x.nsT x.ssT 0 0 x.nsc)) x.nsc) x.nhor) x.nser) (va_cpy x.nlast x.slast 0 0 x.nser)) ((ctG2 SS x.nser).1))) := hD
  refine lv_aload_n hx hb d_V_flush_121 rfl (lv_at hl 3 rfl) ?_
  refine gF (v := .ref (ad 0)) hx hb hown hE hK hP 0 rfl rfl layV 8 (by decide) w312 rfl d_V_flush_122 ?_
  refine jkV (wr := []) (rnV (As := []) (rest := []) hx hb hml hown hE hK (hN _ _ hS) hP hD (v_jclear l D dA H.size h ad (VS.s_scat (VS.s_slast (VS.s_sser (VS.s_shor (VS.s_ssc (VS.s_ssT (VS.s_ssF (VS.s_ssO (VS.s_spc (VS.s_sP (VS.s_ncat (VS.s_hsize (VS.s_writes (VS.s_cutLeft x (cutN x.cutLeft (((ctG2 SS x.nser).1) + 1))) (x.writes + (((ctG2 SS x.nser).1) + 1))) 0) ((ctG2 SS x.nser).1)) (va_cpy x.nP x.sP 0 0 x.npc)) x.npc) (va_cpy x.nsO x.ssO 0 0 x.nsc)) (va_cpy x.nsF x.ssF 0 0 x.nsc)) (va_cpy x.nsT x.ssT 0 0 x.nsc)) x.nsc) x.nhor) x.nser) (va_cpy x.nlast x.slast 0 0 x.nser)) ((ctG2 SS x.nser).1)) (show x.jN ≤ 65536 from by omega) (show x.jkept < 2 ^ 31 from by omega)) (q0 := 2) rfl rfl w562 w1406 w563 w564 w556 rfl rfl ⟨⟨by decide, by decide⟩, rfl⟩ ⟨(Nat.le_of_ble_eq_true rfl), (Nat.le_of_ble_eq_true rfl)⟩ rfl hl.1 rfl (Nat.le_of_ble_eq_true rfl) d_V_flush_125 ⟨(Nat.le_of_ble_eq_true rfl), (Nat.le_of_ble_eq_true rfl)⟩) hP hD hS hA (fun u23 H locs hp9 hP hD hS => ?_)
  have hP : va_P D vwCl (VW dA h ad (VS.s_scat (VS.s_slast (VS.s_sser (VS.s_shor (VS.s_ssc (VS.s_ssT (VS.s_ssF (VS.s_ssO (VS.s_spc (VS.s_sP (VS.s_ncat (VS.s_hsize (VS.s_jch (VS.s_jfill (VS.s_jblock (VS.s_junits (VS.s_jkept (VS.s_jsize (VS.s_writes (VS.s_cutLeft x (cutN x.cutLeft (((ctG2 SS x.nser).1) + 1))) (x.writes + (((ctG2 SS x.nser).1) + 1))) 0) 0) 0) 0) 0) false) 0) ((ctG2 SS x.nser).1)) (va_cpy x.nP x.sP 0 0 x.npc)) x.npc) (va_cpy x.nsO x.ssO 0 0 x.nsc)) (va_cpy x.nsF x.ssF 0 0 x.nsc)) (va_cpy x.nsT x.ssT 0 0 x.nsc)) x.nsc) x.nhor) x.nser) (va_cpy x.nlast x.slast 0 0 x.nser)) ((ctG2 SS x.nser).1))) H := hP
  have hD : va_D A (VW dA h ad (VS.s_scat (VS.s_slast (VS.s_sser (VS.s_shor (VS.s_ssc (VS.s_ssT (VS.s_ssF (VS.s_ssO (VS.s_spc (VS.s_sP (VS.s_ncat (VS.s_hsize (VS.s_jch (VS.s_jfill (VS.s_jblock (VS.s_junits (VS.s_jkept (VS.s_jsize (VS.s_writes (VS.s_cutLeft x (cutN x.cutLeft (((ctG2 SS x.nser).1) + 1))) (x.writes + (((ctG2 SS x.nser).1) + 1))) 0) 0) 0) 0) 0) false) 0) ((ctG2 SS x.nser).1)) (va_cpy x.nP x.sP 0 0 x.npc)) x.npc) (va_cpy x.nsO x.ssO 0 0 x.nsc)) (va_cpy x.nsF x.ssF 0 0 x.nsc)) (va_cpy x.nsT x.ssT 0 0 x.nsc)) x.nsc) x.nhor) x.nser) (va_cpy x.nlast x.slast 0 0 x.nser)) ((ctG2 SS x.nser).1))) := hD
  refine lv_iload_n hx hb d_V_flush_128 rfl (lv_at hl 0 rfl) ?_
  refine lv_iconst (v := 1) hx hb d_V_flush_129 (by decide) ?_
  refine lv_iadd hx hb d_V_flush_130 (tpi (y := nI (((ctG2 SS x.nser).1) + 1)) (nI_add ((ctG2 SS x.nser).1) (1)) ?_)
  have e9 : (VS.s_scat (VS.s_slast (VS.s_sser (VS.s_shor (VS.s_ssc (VS.s_ssT (VS.s_ssF (VS.s_ssO (VS.s_spc (VS.s_sP (VS.s_ncat (VS.s_hsize (VS.s_jch (VS.s_jfill (VS.s_jblock (VS.s_junits (VS.s_jkept (VS.s_jsize (VS.s_writes (VS.s_cutLeft x (cutN x.cutLeft (((ctG2 SS x.nser).1) + 1))) (x.writes + (((ctG2 SS x.nser).1) + 1))) 0) 0) 0) 0) 0) false) 0) ((ctG2 SS x.nser).1)) (va_cpy x.nP x.sP 0 0 x.npc)) x.npc) (va_cpy x.nsO x.ssO 0 0 x.nsc)) (va_cpy x.nsF x.ssF 0 0 x.nsc)) (va_cpy x.nsT x.ssT 0 0 x.nsc)) x.nsc) x.nhor) x.nser) (va_cpy x.nlast x.slast 0 0 x.nser)) ((ctG2 SS x.nser).1) : VS) = VS.s_scat (VS.s_slast (VS.s_sser (VS.s_shor (VS.s_ssc (VS.s_ssT (VS.s_ssF (VS.s_ssO (VS.s_spc (VS.s_sP (VS.s_ncat (VS.s_hsize (VS.s_jch (VS.s_jfill (VS.s_jblock (VS.s_junits (VS.s_jkept (VS.s_jsize (VS.s_writes (VS.s_cutLeft x (cutN x.cutLeft ((ctG2 SS x.nser).1 + 1))) (x.writes + ((ctG2 SS x.nser).1 + 1))) 0) 0) 0) 0) 0) false) 0) ((ctG2 SS x.nser).1)) (va_cpy x.nP x.sP 0 0 x.npc)) x.npc) (va_cpy x.nsO x.ssO 0 0 x.nsc)) (va_cpy x.nsF x.ssF 0 0 x.nsc)) (va_cpy x.nsT x.ssT 0 0 x.nsc)) x.nsc) x.nhor) x.nser) (va_cpy x.nlast x.slast 0 0 x.nser)) ((ctG2 SS x.nser).1) := by rw [show (cutN x.cutLeft ((ctG2 SS x.nser).1 + 1)) = (cutN x.cutLeft (((ctG2 SS x.nser).1) + 1)) from by rfl, show (x.writes + ((ctG2 SS x.nser).1 + 1)) = (x.writes + (((ctG2 SS x.nser).1) + 1)) from by rfl] <;> rfl
  rw [e9] at hP hD
  exact rfI hx hb hr hlk hS () rfl hP hD (Nat.le_of_ble_eq_true rfl) (Nat.le_of_ble_eq_true rfl) d_V_flush_131
theorem d_V_flush_61 : decode prog_1_method_36_code 61 = .ok (.new 76, 3) := by decide +kernel
theorem d_V_flush_64 : decode prog_1_method_36_code 64 = .ok (.dup, 1) := by decide +kernel
theorem d_V_flush_65 : decode prog_1_method_36_code 65 = .ok (.invokespecial 78, 3) := by decide +kernel
theorem d_V_flush_68 : decode prog_1_method_36_code 68 = .ok (.athrow, 1) := by decide +kernel
set_option maxHeartbeats 4000000 in
set_option maxRecDepth 100000 in
theorem v_flush_u0 (l : Launch) (htr : l.stackTraces = false) (D : va_G) (dA : Nat → ClassId) (sz : Nat) (h : Nat) (ad : Nat → Nat) (x : VS) (PS : Nat → PT) (SS : Nat → List LB) (ho : x.powered = true) (hj0 : 0 < x.jsize) (hj1 : x.jsize < 2 ^ 31) (hps : psOk dA x.nP x.npc x.pl PS) (hpn : x.npc ≤ 32) (hfr : x.jlimit + 2 + (x.ncat + sumN x.npc (blN PS)) ≤ x.diskBlocks) (hkn : knOk dA x.kn x.nser x.pl SS) (hn : x.nser ≤ 256) (hdk : x.diskBlocks ≤ 256) (hz : x.hsize = 0) (hf : x.fr PS < (ctG2 SS x.nser).1) (hc9 : (ctG2 SS x.nser).1 < 2 ^ 31) : mX l ⟨"SeriesVault", "flush", "()I"⟩ [Cond.code ⟨"SeriesVault", "flush", "()I"⟩ prog_1_method_36_code 4 (some FieldType.int)] { frames := 6, cells := 1, slots := 6, locals := 81 } (pC D dA [.ref h] (VW dA h ad x) sz) "java/lang/UnsupportedOperationException" (fun st9 t9 => va_F (va_A (VW dA h ad x) sz) st9 t9 ∧ ∃ u9 : Unit, (True) ∧ bW D (va_A (VW dA h ad x) sz) (VW dA h ad x) t9) 1 6 (va_A (VW dA h ad x) sz) := by
  refine mkX (y := ⟨"SeriesVault", "flush", "()I"⟩) (cc := prog_1_method_36_code) (maxL := 4) (av := [.ref h]) (ws := VW dA h ad x) (sz := sz) (B := fun A => (fun st9 t9 => va_F A st9 t9 ∧ ∃ u9 : Unit, (True) ∧ bW D A (VW dA h ad x) t9)) (by decide) (Nat.le_of_ble_eq_true rfl) ?_
  intro A p e s m below meth c ls hsz hno hB
  obtain ⟨hx, hb, hr, hml, hown, hin, hlk, hE, hK, hP, hD, hS, hA, hN, hl⟩ := hB
  have hown : s.vm.findClass "SeriesVault" = some m.cls := hown
  have hl : lv_has ls 4 [(0, .ref h)] := hl
  obtain ⟨H, hH⟩ : ∃ z, z = s.heap := ⟨_, rfl⟩
  have hP : va_P D vwCl (VW dA h ad x) H := by rw [hH]; exact hP
  have hS : va_S A s.heap H [] := by rw [hH]; exact hS
  rw [← hH]
  refine lv_aload_n hx hb d_V_flush_0 rfl (lv_at hl 0 rfl) ?_
  refine jkV (wr := []) (rnV (As := []) (rest := []) hx hb hml hown hE hK (hN _ _ hS) hP hD (v_checkPower l D dA H.size h ad x ho) (q0 := 0) rfl rfl w278 w276 w279 w280 w277 rfl rfl ⟨⟨by decide, by decide⟩, rfl⟩ ⟨(Nat.le_of_ble_eq_true rfl), (Nat.le_of_ble_eq_true rfl)⟩ rfl hl.1 rfl (Nat.le_of_ble_eq_true rfl) d_V_flush_1 ⟨(show 0 + 0 ≤ 1 by omega), (show 0 + 0 ≤ 6 by omega)⟩) hP hD hS hA (fun u2 H locs hp9 hP hD hS => ?_)
  have hP : va_P D vwCl (VW dA h ad x) H := hP
  have hD : va_D A (VW dA h ad x) := hD
  refine lv_aload_n hx hb d_V_flush_4 rfl (lv_at hl 0 rfl) ?_
  refine gF (v := .ref (ad 0)) hx hb hown hE hK hP 0 rfl rfl layV 8 (by decide) w312 rfl d_V_flush_5 ?_
  refine gFN (v := .int (nI x.jsize)) hx hb hown hE hK hP 2 rfl rfl layJ 6 (by decide) w318 rfl d_V_flush_8 ?_
  refine lv_if_ne hx hb d_V_flush_11 (tgt := 16) rfl (fun g3 => ?_) (fun g3 => ?_)
  rotate_left
  · have g3 := (nI_eq (a := x.jsize) (b := 0) (by omega) (by decide)).mp g3; exfalso; omega
  have g3 := mt (nI_eq (a := x.jsize) (b := 0) (by omega) (by decide)).mpr g3
  refine lv_aload_n hx hb d_V_flush_16 rfl (lv_at hl 0 rfl) ?_
  refine lv_aload_n hx hb d_V_flush_17 rfl (lv_at hl 0 rfl) ?_
  refine gF (v := .ref (ad 1)) hx hb hown hE hK hP 0 rfl rfl layV 9 (by decide) w576 rfl d_V_flush_18 ?_
  refine jkN (wr := []) (rnV (As := [.ref (ad 1)]) (rest := []) hx hb hml hown hE hK (hN _ _ hS) hP hD (v_packed_0h l D dA H.size h ad x hz) (q0 := 0) rfl rfl w1383 w1382 w1384 w1385 w277 rfl rfl ⟨⟨by decide, by decide⟩, rfl⟩ ⟨(Nat.le_of_ble_eq_true rfl), (Nat.le_of_ble_eq_true rfl)⟩ rfl hl.1 rfl (Nat.le_of_ble_eq_true rfl) d_V_flush_21 ⟨(show 0 + 0 + 0 ≤ 1 by omega), (show 0 + 0 + 0 ≤ 6 by omega)⟩) hP hD hS hA (fun u5 H locs hp9 hP hD hS => ?_)
  have hP : va_P D vwCl (VW dA h ad x) H := hP
  have hD : va_D A (VW dA h ad x) := hD
  refine lv_astore_nN hx hb d_V_flush_24 rfl hl (by decide) rfl (fun ls hl => ?_)
  have hl : lv_has ls 4 [(1, .null), (0, .ref h)] := hl
  refine lv_aload_n hx hb d_V_flush_25 rfl (lv_at hl 1 rfl) ?_
  refine jkI (wr := []) (rnV (As := []) (rest := []) hx hb hml hown hE hK (hN _ _ hS) hP hD (v_catalogBlocks l D dA H.size h ad x SS hkn (show x.nser ≤ 256 from by omega)) (q0 := 0) rfl rfl w1387 w1386 w1388 w1389 w277 rfl rfl ⟨⟨by decide, by decide⟩, rfl⟩ ⟨(Nat.le_of_ble_eq_true rfl), (Nat.le_of_ble_eq_true rfl)⟩ rfl hl.1 rfl (Nat.le_of_ble_eq_true rfl) d_V_flush_26 ⟨(show 0 + 0 + 0 + 0 ≤ 1 by omega), (show 0 + 0 + 0 + 0 ≤ 6 by omega)⟩) hP hD hS hA (fun r6 u7 H locs hp9 hP hD hS => ?_)
  have hP : va_P D vwCl (VW dA h ad x) H := hP
  have hD : va_D A (VW dA h ad x) := hD
  replace hp9 : nI (ctG2 SS x.nser).1 = r6 := Eq.symm hp9
  subst hp9
  refine lv_istore_n hx hb d_V_flush_29 rfl hl (by decide) rfl (fun ls hl => ?_)
  have hl : lv_has ls 4 [(2, .int (nI (ctG2 SS x.nser).1)), (1, .null), (0, .ref h)] := hl
  refine lv_aload_nN hx hb d_V_flush_30 rfl (lv_at hl 1 rfl) ?_
  have hPc := hP.sub (ws' := []) [] rfl
  have hDc := hD.sub (ws' := []) [] (by decide) rfl
  refine jpI (rnS (As := [.null]) (rest := []) hx hb hml hown hE hK (hN _ _ hS) hPc hDc (v_blocksOf_0 l D dA H.size ) w1391 w1390 w1392 w277 rfl rfl ⟨⟨by decide, by decide⟩, rfl⟩ ⟨(Nat.le_of_ble_eq_true rfl), (Nat.le_of_ble_eq_true rfl)⟩ rfl hl.1 rfl (Nat.le_of_ble_eq_true rfl) d_V_flush_31 ⟨(show 0 + 0 + 0 + 0 + 0 ≤ 1 by omega), (show 0 + 0 + 0 + 0 + 0 ≤ 6 by omega)⟩) hP hD hS hA (fun r8 u9 H locs hp9 hP hD hS => ?_)
  have hP : va_P D vwCl (VW dA h ad x) H := hP
  have hD : va_D A (VW dA h ad x) := hD
  replace hp9 : 0 = r8 := Eq.symm hp9
  subst hp9
  refine lv_iload_n hx hb d_V_flush_34 rfl (lv_at hl 0 rfl) ?_
  refine lv_iadd hx hb d_V_flush_35 (tpi (y := nI ((ctG2 SS x.nser).1)) ((nI_add 0 ((ctG2 SS x.nser).1)).trans (congrArg nI (Nat.zero_add _))) ?_)
  refine lv_istore_n hx hb d_V_flush_36 rfl hl (by decide) rfl (fun ls hl => ?_)
  have hl : lv_has ls 4 [(3, .int (nI ((ctG2 SS x.nser).1))), (2, .int (nI (ctG2 SS x.nser).1)), (1, .null), (0, .ref h)] := hl
  refine lv_aload_nN hx hb d_V_flush_37 rfl (lv_at hl 2 rfl) ?_
  refine lv_ifnullN hx hb d_V_flush_38 (tgt := 53) rfl ?_
  have fe : x.fr PS = x.diskBlocks - 2 - x.jlimit - (x.ncat + sumN x.npc (blN PS)) := rfl
  refine lv_iload_n hx hb d_V_flush_53 rfl (lv_at hl 0 rfl) ?_
  refine lv_aload_n hx hb d_V_flush_54 rfl (lv_at hl 3 rfl) ?_
  refine jkI (wr := []) (rnV (As := []) (rest := [.int (nI ((ctG2 SS x.nser).1))]) hx hb hml hown hE hK (hN _ _ hS) hP hD (v_freeBlocks l D dA H.size h ad x PS hps (show x.npc ≤ 32 from by omega) (show x.jlimit + 2 + (x.ncat + sumN x.npc (blN PS)) ≤ x.diskBlocks from by omega)) (q0 := 0) rfl rfl w644 w643 w645 w646 w277 rfl rfl ⟨⟨by decide, by decide⟩, rfl⟩ ⟨(Nat.le_of_ble_eq_true rfl), (Nat.le_of_ble_eq_true rfl)⟩ rfl hl.1 rfl (Nat.le_of_ble_eq_true rfl) d_V_flush_55 ⟨(show 0 + 0 + 0 + 0 + 0 + 0 ≤ 1 by omega), (show 0 + 0 + 0 + 0 + 0 + 0 ≤ 6 by omega)⟩) hP hD hS hA (fun r10 u11 H locs hp9 hP hD hS => ?_)
  have hP : va_P D vwCl (VW dA h ad x) H := hP
  have hD : va_D A (VW dA h ad x) := hD
  replace hp9 : nI (x.fr PS) = r10 := Eq.symm hp9
  subst hp9
  refine lv_icmp_le hx hb d_V_flush_58 (tgt := 69) rfl (fun h9 => absurd h9 (mt (nI_leI (a := (ctG2 SS x.nser).1) (b := x.fr PS) (by omega) (by omega)).mp (Nat.not_le.mpr hf))) (fun _ => ?_)
  exact xNew (E := "java/lang/UnsupportedOperationException") (names := ["java/lang/RuntimeException", "java/lang/Exception"]) hx hb htr hown (by decide) (by decide) hE w1156 w1157 (fun U hU => at_V_UOE hU) (hN _ _ hS) (hl.1.trans hml.symm) d_V_flush_61 d_V_flush_64 d_V_flush_65 d_V_flush_68 hno (by decide) (Nat.le_of_ble_eq_true rfl) (show 0 + 0 + 0 + 0 + 0 + 0 + 1 ≤ 1 by omega) (show 0 + 0 + 0 + 0 + 0 + 0 + 6 ≤ 6 by omega) hlk (fun t h1 h2 => xkE () trivial hP hD hS t h1 h2) hS.2.2 (show 0 + 0 + 0 + 0 + 0 + 0 + 1 ≤ 1 by omega) (show 0 + 0 + 0 + 0 + 0 + 0 + 6 ≤ 6 by omega)
set_option maxHeartbeats 4000000 in
set_option maxRecDepth 100000 in
theorem v_writeBlocks_x (l : Launch) (htr : l.stackTraces = false) (D : va_G) (dA : Nat → ClassId) (sz : Nat) (h : Nat) (ad : Nat → Nat) (x : VS) (n : Nat) (k0 : Nat) (hn : n < 2 ^ 31) (hk : k0 < n) (hz : ∀ j : Nat, j < k0 → ¬ cutN x.cutLeft j = 0) (hc : cutN x.cutLeft k0 = 0) : mX l ⟨"SeriesVault", "writeBlocks", "(I)V"⟩ [Cond.code ⟨"SeriesVault", "writeBlocks", "(I)V"⟩ prog_1_method_16_code 3 none] { frames := 7, cells := 1, slots := 6, locals := 101 } (pC D dA [.ref h, .int (nI n)] (VW dA h ad x) sz) "java/lang/IllegalStateException" (fun st9 t9 => va_F (va_A (VW dA h ad x) sz) st9 t9 ∧ bW D (va_A (VW dA h ad x) sz) (VW dA h ad (VS.s_writes (VS.s_cutLeft (VS.s_powered x false) (-1)) (x.writes + k0))) t9) 1 6 (va_A (VW dA h ad x) sz) := by
  refine mkX (y := ⟨"SeriesVault", "writeBlocks", "(I)V"⟩) (cc := prog_1_method_16_code) (maxL := 3) (av := [.ref h, .int (nI n)]) (ws := VW dA h ad x) (sz := sz) (B := fun A => (fun st9 t9 => va_F A st9 t9 ∧ bW D A (VW dA h ad (VS.s_writes (VS.s_cutLeft (VS.s_powered x false) (-1)) (x.writes + k0))) t9)) (by decide) (Nat.le_of_ble_eq_true rfl) ?_
  intro A p e s m below meth c ls hsz hno hB
  obtain ⟨hx, hb, hr, hml, hown, hin, hlk, hE, hK, hP, hD, hS, hA, hN, hl⟩ := hB
  have hown : s.vm.findClass "SeriesVault" = some m.cls := hown
  have hl : lv_has ls 3 [(0, .ref h), (1, .int (nI n))] := hl
  obtain ⟨H, hH⟩ : ∃ z, z = s.heap := ⟨_, rfl⟩
  have hP : va_P D vwCl (VW dA h ad x) H := by rw [hH]; exact hP
  have hS : va_S A s.heap H [] := by rw [hH]; exact hS
  rw [← hH]
  refine lv_iconst (v := 0) hx hb d_V_writeBlocks_0 (by decide) ?_
  refine lv_istore_n hx hb d_V_writeBlocks_1 rfl hl (by decide) rfl (fun ls hl => ?_)
  have hl : lv_has ls 3 [(2, .int 0), (0, .ref h), (1, .int (nI n))] := hl
  have L2 : ∀ (k9 : Nat) (k : Nat) (i1 : k ≤ k0) (hk9 : n - k = k9), ∀ (H : Heap) (locs : List Loc) (ls : Array Slot) (hP : va_P D vwCl (VW dA h ad (VS.s_writes (VS.s_cutLeft x (cutN x.cutLeft k)) (x.writes + k))) H) (hD : va_D A (VW dA h ad (VS.s_writes (VS.s_cutLeft x (cutN x.cutLeft k)) (x.writes + k)))) (hS : va_S A s.heap H locs) (hl : lv_has ls 3 [(2, .int (nI k)), (1, .int (nI n)), (0, .ref h)]), W p l e ({ frames := 7, cells := 1, slots := 6, locals := 101 } : Room) s m ([.ref h, .int (nI n)] : List Value).toArray below meth c H locs 0 0 (xQ below "java/lang/IllegalStateException" (fun st9 t9 => va_F A st9 t9 ∧ bW D A (VW dA h ad (VS.s_writes (VS.s_cutLeft (VS.s_powered x false) (-1)) (x.writes + k0))) t9) s 1 6 A) (F0 m 2 ls []) := by
    intro k9
    induction k9 using Nat.strongRecOn with
    | ind k9 ih2 =>
      intro k i1 hk9 H locs ls hP hD hS hl
      refine lv_iload_n hx hb d_V_writeBlocks_2 rfl (lv_at hl 0 rfl) ?_
      refine lv_iload_n hx hb d_V_writeBlocks_3 rfl (lv_at hl 1 rfl) ?_
      refine lv_icmp_ge hx hb d_V_writeBlocks_4 (tgt := 17) rfl (fun g1 => ?_) (fun g1 => ?_)
      · have g1 := (nI_leI (a := n) (b := k) (by omega) (by omega)).mp g1; exfalso; omega
      have g1 := mt (nI_leI (a := n) (b := k) (by omega) (by omega)).mpr g1
      rcases (show k < k0 ∨ k = k0 by omega) with hlt | heq
      · refine lv_aload_n hx hb d_V_writeBlocks_7 rfl (lv_at hl 2 rfl) ?_
        refine jfV (rnV (As := []) (rest := []) hx hb hml hown hE hK (hN _ _ hS) hP hD (v_writeBlock l D dA H.size h ad (VS.s_writes (VS.s_cutLeft x (cutN x.cutLeft k)) (x.writes + k)) (hz k hlt)) (q0 := 0) rfl rfl w737 w736 w738 w739 w277 rfl rfl ⟨⟨by decide, by decide⟩, rfl⟩ ⟨(Nat.le_of_ble_eq_true rfl), (Nat.le_of_ble_eq_true rfl)⟩ rfl hl.1 rfl (Nat.le_of_ble_eq_true rfl) d_V_writeBlocks_8 ⟨(Nat.le_of_ble_eq_true rfl), (Nat.le_of_ble_eq_true rfl)⟩) hP hD hS hA (fun u3 H locs hp9 hP hD hS => ?_)
        have hP : va_P D vwCl (VW dA h ad (VS.s_writes (VS.s_cutLeft x (cutF (cutN x.cutLeft k))) ((x.writes + k) + 1))) H := hP
        have hD : va_D A (VW dA h ad (VS.s_writes (VS.s_cutLeft x (cutF (cutN x.cutLeft k))) ((x.writes + k) + 1))) := hD
        refine lv_iinc (k := 0) (v := nI (k + 1)) hx hb d_V_writeBlocks_11 hl rfl (iincN (k) 1 1 (by decide)) (by decide) rfl (fun ls hl => ?_)
        have hl : lv_has ls 3 [(2, .int (nI (k + 1))), (1, .int (nI n)), (0, .ref h)] := hl
        refine lv_goto hx hb d_V_writeBlocks_14 (tgt := 2) rfl ?_
        exact ih2 _ (by omega) (k + 1) (by omega) rfl H _ ls hP hD hS (lv_sub hl [0, 1, 2] rfl)
      · refine lv_aload_n hx hb d_V_writeBlocks_7 rfl (lv_at hl 2 rfl) ?_
        refine xfV (w1 := VW dA h ad (VS.s_writes (VS.s_cutLeft (VS.s_powered x false) (-1)) (x.writes + k))) (As := []) (rest := []) hx hb hml hown hE hK (hN _ _ hS) (v_writeBlock_x l htr D dA H.size h ad (VS.s_writes (VS.s_cutLeft x (cutN x.cutLeft k)) (x.writes + k)) (by rw [heq]; exact hc)) (q0 := 0) rfl rfl w737 w736 w738 w739 w277 rfl rfl ⟨⟨by decide, by decide⟩, rfl⟩ ⟨(Nat.le_of_ble_eq_true rfl), (Nat.le_of_ble_eq_true rfl)⟩ rfl hl.1 rfl (Nat.le_of_ble_eq_true rfl) d_V_writeBlocks_8 ⟨(Nat.le_of_ble_eq_true rfl), (Nat.le_of_ble_eq_true rfl)⟩ hP hD hS hA (fun xa4 ce H locs hP hD hS hce hcv hcl => ?_)
        have e9 : (VS.s_writes (VS.s_cutLeft (VS.s_powered x false) (-1)) (x.writes + k) : VS) = VS.s_writes (VS.s_cutLeft (VS.s_powered x false) (-1)) (x.writes + k0) := by rw [show (x.writes + k0) = (x.writes + k) from by (rw [heq])] <;> rfl
        exact xOut hno hlk hce hcv hcl (fun t ht => xEndV (cvPv e9 hP) (cvDv e9 hD) hS t (by rw [ht]; exact Nat.le_refl _) (fun q _ => by rw [ht])) hS.2.2 (Nat.le_of_ble_eq_true rfl) (Nat.le_of_ble_eq_true rfl)
  exact L2 _ 0 (Nat.zero_le _) rfl H _ ls hP hD hS (lv_sub hl [0, 2, 1] rfl)
set_option maxHeartbeats 4000000 in
set_option maxRecDepth 100000 in
theorem v_flush_i0 (l : Launch) (htr : l.stackTraces = false) (D : va_G) (dA : Nat → ClassId) (sz : Nat) (h : Nat) (ad : Nat → Nat) (x : VS) (PS : Nat → PT) (SS : Nat → List LB) (k0 : Nat) (ho : x.powered = true) (hj0 : 0 < x.jsize) (hj1 : x.jsize < 2 ^ 31) (hps : psOk dA x.nP x.npc x.pl PS) (hpn : x.npc ≤ 32) (hfr : x.jlimit + 2 + (x.ncat + sumN x.npc (blN PS)) ≤ x.diskBlocks) (hkn : knOk dA x.kn x.nser x.pl SS) (hn : x.nser ≤ 256) (hdk : x.diskBlocks ≤ 256) (hz : x.hsize = 0) (hf : (ctG2 SS x.nser).1 ≤ x.fr PS) (hk : k0 < (ctG2 SS x.nser).1 + 1) (hcz : ∀ j : Nat, j < k0 → ¬ cutN x.cutLeft j = 0) (hc : cutN x.cutLeft k0 = 0) : mX l ⟨"SeriesVault", "flush", "()I"⟩ [Cond.code ⟨"SeriesVault", "flush", "()I"⟩ prog_1_method_36_code 4 (some FieldType.int)] { frames := 8, cells := 1, slots := 6, locals := 123 } (pC D dA [.ref h] (VW dA h ad x) sz) "java/lang/IllegalStateException" (fun st9 t9 => va_F (va_A (VW dA h ad x) sz) st9 t9 ∧ ∃ u9 : Unit, (True) ∧ bW D (va_A (VW dA h ad x) sz) (VW dA h ad (VS.s_writes (VS.s_cutLeft (VS.s_powered x false) (-1)) (x.writes + k0))) t9) 1 6 (va_A (VW dA h ad x) sz) := by
  refine mkX (y := ⟨"SeriesVault", "flush", "()I"⟩) (cc := prog_1_method_36_code) (maxL := 4) (av := [.ref h]) (ws := VW dA h ad x) (sz := sz) (B := fun A => (fun st9 t9 => va_F A st9 t9 ∧ ∃ u9 : Unit, (True) ∧ bW D A (VW dA h ad (VS.s_writes (VS.s_cutLeft (VS.s_powered x false) (-1)) (x.writes + k0))) t9)) (by decide) (Nat.le_of_ble_eq_true rfl) ?_
  intro A p e s m below meth c ls hsz hno hB
  obtain ⟨hx, hb, hr, hml, hown, hin, hlk, hE, hK, hP, hD, hS, hA, hN, hl⟩ := hB
  have hown : s.vm.findClass "SeriesVault" = some m.cls := hown
  have hl : lv_has ls 4 [(0, .ref h)] := hl
  obtain ⟨H, hH⟩ : ∃ z, z = s.heap := ⟨_, rfl⟩
  have hP : va_P D vwCl (VW dA h ad x) H := by rw [hH]; exact hP
  have hS : va_S A s.heap H [] := by rw [hH]; exact hS
  rw [← hH]
  refine lv_aload_n hx hb d_V_flush_0 rfl (lv_at hl 0 rfl) ?_
  refine jkV (wr := []) (rnV (As := []) (rest := []) hx hb hml hown hE hK (hN _ _ hS) hP hD (v_checkPower l D dA H.size h ad x ho) (q0 := 0) rfl rfl w278 w276 w279 w280 w277 rfl rfl ⟨⟨by decide, by decide⟩, rfl⟩ ⟨(Nat.le_of_ble_eq_true rfl), (Nat.le_of_ble_eq_true rfl)⟩ rfl hl.1 rfl (Nat.le_of_ble_eq_true rfl) d_V_flush_1 ⟨(show 0 + 0 ≤ 1 by omega), (show 0 + 0 ≤ 6 by omega)⟩) hP hD hS hA (fun u2 H locs hp9 hP hD hS => ?_)
  have hP : va_P D vwCl (VW dA h ad x) H := hP
  have hD : va_D A (VW dA h ad x) := hD
  refine lv_aload_n hx hb d_V_flush_4 rfl (lv_at hl 0 rfl) ?_
  refine gF (v := .ref (ad 0)) hx hb hown hE hK hP 0 rfl rfl layV 8 (by decide) w312 rfl d_V_flush_5 ?_
  refine gFN (v := .int (nI x.jsize)) hx hb hown hE hK hP 2 rfl rfl layJ 6 (by decide) w318 rfl d_V_flush_8 ?_
  refine lv_if_ne hx hb d_V_flush_11 (tgt := 16) rfl (fun g3 => ?_) (fun g3 => ?_)
  rotate_left
  · have g3 := (nI_eq (a := x.jsize) (b := 0) (by omega) (by decide)).mp g3; exfalso; omega
  have g3 := mt (nI_eq (a := x.jsize) (b := 0) (by omega) (by decide)).mpr g3
  refine lv_aload_n hx hb d_V_flush_16 rfl (lv_at hl 0 rfl) ?_
  refine lv_aload_n hx hb d_V_flush_17 rfl (lv_at hl 0 rfl) ?_
  refine gF (v := .ref (ad 1)) hx hb hown hE hK hP 0 rfl rfl layV 9 (by decide) w576 rfl d_V_flush_18 ?_
  refine jkN (wr := []) (rnV (As := [.ref (ad 1)]) (rest := []) hx hb hml hown hE hK (hN _ _ hS) hP hD (v_packed_0h l D dA H.size h ad x hz) (q0 := 0) rfl rfl w1383 w1382 w1384 w1385 w277 rfl rfl ⟨⟨by decide, by decide⟩, rfl⟩ ⟨(Nat.le_of_ble_eq_true rfl), (Nat.le_of_ble_eq_true rfl)⟩ rfl hl.1 rfl (Nat.le_of_ble_eq_true rfl) d_V_flush_21 ⟨(show 0 + 0 + 0 ≤ 1 by omega), (show 0 + 0 + 0 ≤ 6 by omega)⟩) hP hD hS hA (fun u5 H locs hp9 hP hD hS => ?_)
  have hP : va_P D vwCl (VW dA h ad x) H := hP
  have hD : va_D A (VW dA h ad x) := hD
  refine lv_astore_nN hx hb d_V_flush_24 rfl hl (by decide) rfl (fun ls hl => ?_)
  have hl : lv_has ls 4 [(1, .null), (0, .ref h)] := hl
  refine lv_aload_n hx hb d_V_flush_25 rfl (lv_at hl 1 rfl) ?_
  refine jkI (wr := []) (rnV (As := []) (rest := []) hx hb hml hown hE hK (hN _ _ hS) hP hD (v_catalogBlocks l D dA H.size h ad x SS hkn (show x.nser ≤ 256 from by omega)) (q0 := 0) rfl rfl w1387 w1386 w1388 w1389 w277 rfl rfl ⟨⟨by decide, by decide⟩, rfl⟩ ⟨(Nat.le_of_ble_eq_true rfl), (Nat.le_of_ble_eq_true rfl)⟩ rfl hl.1 rfl (Nat.le_of_ble_eq_true rfl) d_V_flush_26 ⟨(show 0 + 0 + 0 + 0 ≤ 1 by omega), (show 0 + 0 + 0 + 0 ≤ 6 by omega)⟩) hP hD hS hA (fun r6 u7 H locs hp9 hP hD hS => ?_)
  have hP : va_P D vwCl (VW dA h ad x) H := hP
  have hD : va_D A (VW dA h ad x) := hD
  replace hp9 : nI (ctG2 SS x.nser).1 = r6 := Eq.symm hp9
  subst hp9
  refine lv_istore_n hx hb d_V_flush_29 rfl hl (by decide) rfl (fun ls hl => ?_)
  have hl : lv_has ls 4 [(2, .int (nI (ctG2 SS x.nser).1)), (1, .null), (0, .ref h)] := hl
  refine lv_aload_nN hx hb d_V_flush_30 rfl (lv_at hl 1 rfl) ?_
  have hPc := hP.sub (ws' := []) [] rfl
  have hDc := hD.sub (ws' := []) [] (by decide) rfl
  refine jpI (rnS (As := [.null]) (rest := []) hx hb hml hown hE hK (hN _ _ hS) hPc hDc (v_blocksOf_0 l D dA H.size ) w1391 w1390 w1392 w277 rfl rfl ⟨⟨by decide, by decide⟩, rfl⟩ ⟨(Nat.le_of_ble_eq_true rfl), (Nat.le_of_ble_eq_true rfl)⟩ rfl hl.1 rfl (Nat.le_of_ble_eq_true rfl) d_V_flush_31 ⟨(show 0 + 0 + 0 + 0 + 0 ≤ 1 by omega), (show 0 + 0 + 0 + 0 + 0 ≤ 6 by omega)⟩) hP hD hS hA (fun r8 u9 H locs hp9 hP hD hS => ?_)
  have hP : va_P D vwCl (VW dA h ad x) H := hP
  have hD : va_D A (VW dA h ad x) := hD
  replace hp9 : 0 = r8 := Eq.symm hp9
  subst hp9
  refine lv_iload_n hx hb d_V_flush_34 rfl (lv_at hl 0 rfl) ?_
  refine lv_iadd hx hb d_V_flush_35 (tpi (y := nI ((ctG2 SS x.nser).1)) ((nI_add 0 ((ctG2 SS x.nser).1)).trans (congrArg nI (Nat.zero_add _))) ?_)
  refine lv_istore_n hx hb d_V_flush_36 rfl hl (by decide) rfl (fun ls hl => ?_)
  have hl : lv_has ls 4 [(3, .int (nI ((ctG2 SS x.nser).1))), (2, .int (nI (ctG2 SS x.nser).1)), (1, .null), (0, .ref h)] := hl
  refine lv_aload_nN hx hb d_V_flush_37 rfl (lv_at hl 2 rfl) ?_
  refine lv_ifnullN hx hb d_V_flush_38 (tgt := 53) rfl ?_
  have fe : x.fr PS = x.diskBlocks - 2 - x.jlimit - (x.ncat + sumN x.npc (blN PS)) := rfl
  refine lv_iload_n hx hb d_V_flush_53 rfl (lv_at hl 0 rfl) ?_
  refine lv_aload_n hx hb d_V_flush_54 rfl (lv_at hl 3 rfl) ?_
  refine jkI (wr := []) (rnV (As := []) (rest := [.int (nI ((ctG2 SS x.nser).1))]) hx hb hml hown hE hK (hN _ _ hS) hP hD (v_freeBlocks l D dA H.size h ad x PS hps (show x.npc ≤ 32 from by omega) (show x.jlimit + 2 + (x.ncat + sumN x.npc (blN PS)) ≤ x.diskBlocks from by omega)) (q0 := 0) rfl rfl w644 w643 w645 w646 w277 rfl rfl ⟨⟨by decide, by decide⟩, rfl⟩ ⟨(Nat.le_of_ble_eq_true rfl), (Nat.le_of_ble_eq_true rfl)⟩ rfl hl.1 rfl (Nat.le_of_ble_eq_true rfl) d_V_flush_55 ⟨(show 0 + 0 + 0 + 0 + 0 + 0 ≤ 1 by omega), (show 0 + 0 + 0 + 0 + 0 + 0 ≤ 6 by omega)⟩) hP hD hS hA (fun r10 u11 H locs hp9 hP hD hS => ?_)
  have hP : va_P D vwCl (VW dA h ad x) H := hP
  have hD : va_D A (VW dA h ad x) := hD
  replace hp9 : nI (x.fr PS) = r10 := Eq.symm hp9
  subst hp9
  refine lv_icmp_le hx hb d_V_flush_58 (tgt := 69) rfl (fun _ => ?_) (fun h9 => absurd ((nI_leI (a := (ctG2 SS x.nser).1) (b := x.fr PS) (by omega) (by omega)).mpr hf) h9)
  refine lv_aload_n hx hb d_V_flush_69 rfl (lv_at hl 3 rfl) ?_
  refine lv_iload_n hx hb d_V_flush_70 rfl (lv_at hl 0 rfl) ?_
  refine lv_iconst (v := 1) hx hb d_V_flush_71 (by decide) ?_
  refine lv_iadd hx hb d_V_flush_72 (tpi (y := nI (((ctG2 SS x.nser).1) + 1)) (nI_add ((ctG2 SS x.nser).1) (1)) ?_)
  refine xfV (w1 := VW dA h ad (VS.s_writes (VS.s_cutLeft (VS.s_powered x false) (-1)) (x.writes + k0))) (As := [.int (nI (((ctG2 SS x.nser).1) + 1))]) (rest := []) hx hb hml hown hE hK (hN _ _ hS) (v_writeBlocks_x l htr D dA H.size h ad x (((ctG2 SS x.nser).1) + 1) k0 (show (((ctG2 SS x.nser).1) + 1) < 2 ^ 31 from by omega) (show k0 < (((ctG2 SS x.nser).1) + 1) from by omega) hcz hc) (q0 := 0) rfl rfl w1394 w1393 w1395 w1396 w277 rfl rfl ⟨⟨by decide, by decide⟩, rfl⟩ ⟨(Nat.le_of_ble_eq_true rfl), (Nat.le_of_ble_eq_true rfl)⟩ rfl hl.1 rfl (Nat.le_of_ble_eq_true rfl) d_V_flush_73 ⟨(show 0 + 0 + 0 + 0 + 0 + 0 + 1 ≤ 1 by omega), (show 0 + 0 + 0 + 0 + 0 + 0 + 6 ≤ 6 by omega)⟩ hP hD hS hA (fun xa12 ce H locs hP hD hS hce hcv hcl => ?_)
  have hP : va_P D vwCl (VW dA h ad (VS.s_writes (VS.s_cutLeft (VS.s_powered x false) (-1)) (x.writes + k0))) H := hP
  have hD : va_D A (VW dA h ad (VS.s_writes (VS.s_cutLeft (VS.s_powered x false) (-1)) (x.writes + k0))) := hD
  exact xOut hno hlk hce hcv hcl (fun t ht => xkE () trivial hP hD hS t (by rw [ht]; exact Nat.le_refl _) (fun q _ => by rw [ht])) hS.2.2 (show 0 + 0 + 0 + 0 + 0 + 0 + 1 ≤ 1 by omega) (show 0 + 0 + 0 + 0 + 0 + 0 + 6 ≤ 6 by omega)
set_option maxHeartbeats 4000000 in
set_option maxRecDepth 100000 in
theorem v_flush_x (l : Launch) (htr : l.stackTraces = false) (D : va_G) (dA : Nat → ClassId) (sz : Nat) (h : Nat) (ad : Nat → Nat) (x : VS) (ho : x.powered = false) : mX l ⟨"SeriesVault", "flush", "()I"⟩ [Cond.code ⟨"SeriesVault", "flush", "()I"⟩ prog_1_method_36_code 4 (some FieldType.int)] { frames := 7, cells := 1, slots := 6, locals := 101 } (pC D dA [.ref h] (VW dA h ad x) sz) "java/lang/IllegalStateException" (fun st9 t9 => va_F (va_A (VW dA h ad x) sz) st9 t9 ∧ ∃ u9 : Unit, (True) ∧ bW D (va_A (VW dA h ad x) sz) (VW dA h ad x) t9) 1 6 (va_A (VW dA h ad x) sz) := by
  refine mkX (y := ⟨"SeriesVault", "flush", "()I"⟩) (cc := prog_1_method_36_code) (maxL := 4) (av := [.ref h]) (ws := VW dA h ad x) (sz := sz) (B := fun A => (fun st9 t9 => va_F A st9 t9 ∧ ∃ u9 : Unit, (True) ∧ bW D A (VW dA h ad x) t9)) (by decide) (Nat.le_of_ble_eq_true rfl) ?_
  intro A p e s m below meth c ls hsz hno hB
  obtain ⟨hx, hb, hr, hml, hown, hin, hlk, hE, hK, hP, hD, hS, hA, hN, hl⟩ := hB
  have hown : s.vm.findClass "SeriesVault" = some m.cls := hown
  have hl : lv_has ls 4 [(0, .ref h)] := hl
  obtain ⟨H, hH⟩ : ∃ z, z = s.heap := ⟨_, rfl⟩
  have hP : va_P D vwCl (VW dA h ad x) H := by rw [hH]; exact hP
  have hS : va_S A s.heap H [] := by rw [hH]; exact hS
  rw [← hH]
  refine lv_aload_n hx hb d_V_flush_0 rfl (lv_at hl 0 rfl) ?_
  refine xfV (w1 := VW dA h ad x) (As := []) (rest := []) hx hb hml hown hE hK (hN _ _ hS) (v_checkPower_x l htr D dA H.size h ad x ho) (q0 := 0) rfl rfl w278 w276 w279 w280 w277 rfl rfl ⟨⟨by decide, by decide⟩, rfl⟩ ⟨(Nat.le_of_ble_eq_true rfl), (Nat.le_of_ble_eq_true rfl)⟩ rfl hl.1 rfl (Nat.le_of_ble_eq_true rfl) d_V_flush_1 ⟨(show 0 + 1 ≤ 1 by omega), (show 0 + 6 ≤ 6 by omega)⟩ hP hD hS hA (fun xa1 ce H locs hP hD hS hce hcv hcl => ?_)
  have hP : va_P D vwCl (VW dA h ad x) H := hP
  have hD : va_D A (VW dA h ad x) := hD
  exact xOut hno hlk hce hcv hcl (fun t ht => xkE () trivial hP hD hS t (by rw [ht]; exact Nat.le_refl _) (fun q _ => by rw [ht])) hS.2.2 (show 0 + 1 ≤ 1 by omega) (show 0 + 6 ≤ 6 by omega)
theorem isPc_m {dA : Nat → ClassId} {pl pl2 : va_W} {a : Nat} {P : PT} (hs : ∀ c, c ∈ pl → c ∈ pl2) (h : isPc dA pl a P) : isPc dA pl2 a P := by
  obtain ⟨o, t, v, m1, m2, m3, m4⟩ := h
  exact ⟨o, t, v, hs _ m1, hs _ m2, hs _ m3, hs _ m4⟩
def VS.flS (x : VS) (SS : Nat → List LB) (nb mp : Nat) (pl1 : va_W) : VS := VS.s_pl (VS.s_scat (VS.s_slast (VS.s_sser (VS.s_shor (VS.s_ssc (VS.s_ssT (VS.s_ssF (VS.s_ssO (VS.s_spc (VS.s_sP (VS.s_ncat (VS.s_npc (VS.s_nP (VS.s_hsize (VS.s_jch (VS.s_jfill (VS.s_jblock (VS.s_junits (VS.s_jkept (VS.s_jsize (VS.s_writes (VS.s_cutLeft x (cutN x.cutLeft (nb + (ctG2 SS x.nser).1 + 1))) (x.writes + (nb + (ctG2 SS x.nser).1 + 1))) 0) 0) 0) 0) 0) false) 0) (va_up x.nP x.npc (some mp))) (x.npc + 1)) ((ctG2 SS x.nser).1)) (va_cpy (va_up x.nP x.npc (some mp)) x.sP 0 0 (x.npc + 1))) (x.npc + 1)) (va_cpy x.nsO x.ssO 0 0 x.nsc)) (va_cpy x.nsF x.ssF 0 0 x.nsc)) (va_cpy x.nsT x.ssT 0 0 x.nsc)) x.nsc) x.nhor) x.nser) (va_cpy x.nlast x.slast 0 0 x.nser)) ((ctG2 SS x.nser).1)) pl1
theorem d_V_flush_41 : decode prog_1_method_36_code 41 = .ok (.aload_n 0, 1) := by decide +kernel
theorem d_V_flush_42 : decode prog_1_method_36_code 42 = .ok (.getfield 33, 3) := by decide +kernel
theorem d_V_flush_45 : decode prog_1_method_36_code 45 = .ok (.getfield 305, 3) := by decide +kernel
theorem d_V_flush_48 : decode prog_1_method_36_code 48 = .ok (.bipush 32, 2) := by decide +kernel
theorem d_V_flush_50 : decode prog_1_method_36_code 50 = .ok (.if_icmp .ge 11, 3) := by decide +kernel
set_option maxHeartbeats 4000000 in
set_option maxRecDepth 100000 in
theorem v_flush_1 (l : Launch) (D : va_G) (dA : Nat → ClassId) (sz : Nat) (h : Nat) (ad : Nat → Nat) (x : VS) (PS : Nat → PT) (SS : Nat → List LB) (nb : Nat) (ho : x.powered = true) (hj0 : 0 < x.jsize) (hj1 : x.jsize < 2 ^ 31) (hps : psOk dA x.nP x.npc x.pl PS) (hpn : x.npc ≤ 32) (hfr : x.jlimit + 2 + (x.ncat + sumN x.npc (blN PS)) ≤ x.diskBlocks) (hkn : knOk dA x.kn x.nser x.pl SS) (hn : x.nser ≤ 256) (hdk : x.diskBlocks ≤ 256) (hhn : x.hsize ≤ 12000) (hhN : x.hsize ≤ x.hN) (hhN2 : x.hN ≤ 65536) (hho : ∀ i : Nat, i < x.hsize → x.hO i < x.nser) (hz : 0 < x.hsize) (hbl : ∀ (O : Nat → Nat) (T V : Nat → Int64), laid x.hO x.hsize x.hsize x.hO O → laid x.hO x.hsize x.hsize x.hT T → laid x.hO x.hsize x.hsize x.hV V → (mkP x.hsize O T V).bl = nb) (hj2 : x.jN ≤ 65536) (hj3 : x.jkept < 2 ^ 31) (h2 : x.nsc ≤ 64) (hp32 : x.npc < 32) (hf : nb + (ctG2 SS x.nser).1 ≤ x.fr PS) (hcz : ∀ j : Nat, j < nb + (ctG2 SS x.nser).1 + 1 → ¬ cutN x.cutLeft j = 0) : Met l ⟨"SeriesVault", "flush", "()I"⟩ [Cond.code ⟨"SeriesVault", "flush", "()I"⟩ prog_1_method_36_code 4 (some FieldType.int)] { frames := 6, cells := 5, slots := 8 + (3 * x.hsize + x.nser + 1), locals := 124 } (pC D dA [.ref h] (VW dA h ad x) sz) (va_Qi (fun (r9 : Int32) (u9 : VS) => r9 = nI (nb + (ctG2 SS x.nser).1 + 1) ∧ (∃ (O : Nat → Nat) (T V : Nat → Int64) (mp : Nat) (pl1 : va_W), laid x.hO x.hsize x.hsize x.hO O ∧ laid x.hO x.hsize x.hsize x.hT T ∧ laid x.hO x.hsize x.hsize x.hV V ∧ (∀ q, O q < 256) ∧ isPc dA pl1 mp (mkP x.hsize O T V) ∧ (∀ c, c ∈ x.pl → c ∈ pl1) ∧ u9 = x.flS SS nb mp pl1)) (fun (u9 : VS) t9 => bW D (va_A (VW dA h ad x) sz) (VW dA h ad u9) t9) (va_A (VW dA h ad x) sz)) 5 (8 + (3 * x.hsize + x.nser + 1)) (va_A (VW dA h ad x) sz) := by
  refine mkC (y := ⟨"SeriesVault", "flush", "()I"⟩) (cc := prog_1_method_36_code) (maxL := 4) (av := [.ref h]) (ws := VW dA h ad x) (sz := sz) (Qc := fun A => va_Qi (fun (r9 : Int32) (u9 : VS) => r9 = nI (nb + (ctG2 SS x.nser).1 + 1) ∧ (∃ (O : Nat → Nat) (T V : Nat → Int64) (mp : Nat) (pl1 : va_W), laid x.hO x.hsize x.hsize x.hO O ∧ laid x.hO x.hsize x.hsize x.hT T ∧ laid x.hO x.hsize x.hsize x.hV V ∧ (∀ q, O q < 256) ∧ isPc dA pl1 mp (mkP x.hsize O T V) ∧ (∀ c, c ∈ x.pl → c ∈ pl1) ∧ u9 = x.flS SS nb mp pl1)) (fun (u9 : VS) t9 => bW D A (VW dA h ad u9) t9) A) (by decide) (Nat.le_of_ble_eq_true rfl) ?_
  intro A p e s m below meth c ls hsz hB
  obtain ⟨hx, hb, hr, hml, hown, hin, hlk, hE, hK, hP, hD, hS, hA, hN, hl⟩ := hB
  have hown : s.vm.findClass "SeriesVault" = some m.cls := hown
  have hl : lv_has ls 4 [(0, .ref h)] := hl
  obtain ⟨H, hH⟩ : ∃ z, z = s.heap := ⟨_, rfl⟩
  have hP : va_P D vwCl (VW dA h ad x) H := by rw [hH]; exact hP
  have hS : va_S A s.heap H [] := by rw [hH]; exact hS
  rw [← hH]
  refine lv_aload_n hx hb d_V_flush_0 rfl (lv_at hl 0 rfl) ?_
  refine jkV (wr := []) (rnV (As := []) (rest := []) hx hb hml hown hE hK (hN _ _ hS) hP hD (v_checkPower l D dA H.size h ad x ho) (q0 := 0) rfl rfl w278 w276 w279 w280 w277 rfl rfl ⟨⟨by decide, by decide⟩, rfl⟩ ⟨(Nat.le_of_ble_eq_true rfl), (Nat.le_of_ble_eq_true rfl)⟩ rfl hl.1 rfl (Nat.le_of_ble_eq_true rfl) d_V_flush_1 ⟨(show 0 + 0 ≤ 5 by omega), (show 0 + 0 ≤ 8 + (3 * x.hsize + x.nser + 1) by omega)⟩) hP hD hS hA (fun u2 H locs hp9 hP hD hS => ?_)
  have hP : va_P D vwCl (VW dA h ad x) H := hP
  have hD : va_D A (VW dA h ad x) := hD
  refine lv_aload_n hx hb d_V_flush_4 rfl (lv_at hl 0 rfl) ?_
  refine gF (v := .ref (ad 0)) hx hb hown hE hK hP 0 rfl rfl layV 8 (by decide) w312 rfl d_V_flush_5 ?_
  refine gFN (v := .int (nI x.jsize)) hx hb hown hE hK hP 2 rfl rfl layJ 6 (by decide) w318 rfl d_V_flush_8 ?_
  refine lv_if_ne hx hb d_V_flush_11 (tgt := 16) rfl (fun g3 => ?_) (fun g3 => ?_)
  rotate_left
  · have g3 := (nI_eq (a := x.jsize) (b := 0) (by omega) (by decide)).mp g3; exfalso; omega
  have g3 := mt (nI_eq (a := x.jsize) (b := 0) (by omega) (by decide)).mpr g3
  refine lv_aload_n hx hb d_V_flush_16 rfl (lv_at hl 0 rfl) ?_
  refine lv_aload_n hx hb d_V_flush_17 rfl (lv_at hl 0 rfl) ?_
  refine gF (v := .ref (ad 1)) hx hb hown hE hK hP 0 rfl rfl layV 9 (by decide) w576 rfl d_V_flush_18 ?_
  refine jkR (wr := []) (rnV (As := [.ref (ad 1)]) (rest := []) hx hb hml hown hE hK (hN _ _ hS) hP hD (v_packed_1h l D dA H.size h ad x hz hhn hhN hhN2 hn hho) (q0 := 0) rfl rfl w1383 w1382 w1384 w1385 w277 rfl rfl ⟨⟨by decide, by decide⟩, rfl⟩ ⟨(Nat.le_of_ble_eq_true rfl), (Nat.le_of_ble_eq_true rfl)⟩ rfl hl.1 rfl (Nat.le_of_ble_eq_true rfl) d_V_flush_21 ⟨(show 0 + 0 + 5 ≤ 5 by omega), (show 0 + 0 + (8 + (3 * x.hsize + x.nser + 1)) ≤ 8 + (3 * x.hsize + x.nser + 1) by omega)⟩) hP hD hS hA (fun u4 mp H locs hp9 hP hD hS => ?_)
  obtain ⟨y5, O, T, V⟩ := u4
  have hP : va_P D vwCl (VW dA h ad y5) H := hP
  have hD : va_D A (VW dA h ad y5) := hD
  obtain ⟨f_ey_6, f_pc_7, f_l1_8, f_l2_9, f_l3_10, f_l4_11⟩ := hp9
  obtain ⟨hy, hsub⟩ := f_ey_6
  have hpc := f_pc_7
  obtain ⟨pl1, epl⟩ : ∃ z, z = y5.pl := ⟨_, rfl⟩
  rw [← epl] at hy hsub hpc
  subst hy
  have hP : va_P D vwCl (VW dA h ad (VS.s_pl x pl1)) H := hP
  have hD : va_D A (VW dA h ad (VS.s_pl x pl1)) := hD
  have hok : pcOk (mkP x.hsize O T V) := mkP_ok hhn f_l4_11
  have hps1 := psOk_m hsub hps
  have hb0 := hbl O T V f_l1_8 f_l2_9 f_l3_10
  refine lv_astore_n hx hb d_V_flush_24 rfl hl (by decide) rfl (fun ls hl => ?_)
  have hl : lv_has ls 4 [(1, .ref mp), (0, .ref h)] := hl
  refine lv_aload_n hx hb d_V_flush_25 rfl (lv_at hl 1 rfl) ?_
  refine jkI (wr := []) (rnV (As := []) (rest := []) hx hb hml hown hE hK (hN _ _ hS) hP hD (v_catalogBlocks l D dA H.size h ad (VS.s_pl x pl1) SS (knOk_m hsub hkn) (show x.nser ≤ 256 from by omega)) (q0 := 0) rfl rfl w1387 w1386 w1388 w1389 w277 rfl rfl ⟨⟨by decide, by decide⟩, rfl⟩ ⟨(Nat.le_of_ble_eq_true rfl), (Nat.le_of_ble_eq_true rfl)⟩ rfl hl.1 rfl (Nat.le_of_ble_eq_true rfl) d_V_flush_26 ⟨(show 0 + 0 + 5 + 0 ≤ 5 by omega), (show 0 + 0 + (8 + (3 * x.hsize + x.nser + 1)) + 0 ≤ 8 + (3 * x.hsize + x.nser + 1) by omega)⟩) hP hD hS hA (fun r12 u13 H locs hp9 hP hD hS => ?_)
  have hP : va_P D vwCl (VW dA h ad (VS.s_pl x pl1)) H := hP
  have hD : va_D A (VW dA h ad (VS.s_pl x pl1)) := hD
  replace hp9 : nI (ctG2 SS x.nser).1 = r12 := Eq.symm hp9
  subst hp9
  refine lv_istore_n hx hb d_V_flush_29 rfl hl (by decide) rfl (fun ls hl => ?_)
  have hl : lv_has ls 4 [(2, .int (nI (ctG2 SS x.nser).1)), (1, .ref mp), (0, .ref h)] := hl
  refine lv_aload_n hx hb d_V_flush_30 rfl (lv_at hl 1 rfl) ?_
  refine jkI (wr := []) (rnS (As := [.ref mp]) (rest := []) hx hb hml hown hE hK (hN _ _ hS) hP hD (v_blocksOf l D dA H.size (VW dA h ad (VS.s_pl x pl1)) mp (mkP x.hsize O T V) (isPc_m (fun _ hm => (plm hm)) hpc)) w1391 w1390 w1392 w277 rfl rfl ⟨⟨by decide, by decide⟩, rfl⟩ ⟨(Nat.le_of_ble_eq_true rfl), (Nat.le_of_ble_eq_true rfl)⟩ rfl hl.1 rfl (Nat.le_of_ble_eq_true rfl) d_V_flush_31 ⟨(show 0 + 0 + 5 + 0 + 0 ≤ 5 by omega), (show 0 + 0 + (8 + (3 * x.hsize + x.nser + 1)) + 0 + 0 ≤ 8 + (3 * x.hsize + x.nser + 1) by omega)⟩) hP hD hS hA (fun r14 u15 H locs hp9 hP hD hS => ?_)
  have hP : va_P D vwCl (VW dA h ad (VS.s_pl x pl1)) H := hP
  have hD : va_D A (VW dA h ad (VS.s_pl x pl1)) := hD
  replace hp9 : nI (mkP x.hsize O T V).bl = r14 := Eq.symm hp9
  subst hp9
  refine tpi (y := nI nb) (by rw [hb0]) ?_
  refine lv_iload_n hx hb d_V_flush_34 rfl (lv_at hl 0 rfl) ?_
  refine lv_iadd hx hb d_V_flush_35 (tpi (y := nI (nb + ((ctG2 SS x.nser).1))) (nI_add (nb) ((ctG2 SS x.nser).1)) ?_)
  refine lv_istore_n hx hb d_V_flush_36 rfl hl (by decide) rfl (fun ls hl => ?_)
  have hl : lv_has ls 4 [(3, .int (nI (nb + ((ctG2 SS x.nser).1)))), (2, .int (nI (ctG2 SS x.nser).1)), (1, .ref mp), (0, .ref h)] := hl
  refine lv_aload_n hx hb d_V_flush_37 rfl (lv_at hl 2 rfl) ?_
  refine lv_ifnull hx hb d_V_flush_38 ?_
  refine lv_aload_n hx hb d_V_flush_41 rfl (lv_at hl 3 rfl) ?_
  refine gF (v := .ref (ad 3)) hx hb hown hE hK hP 0 rfl rfl layV 11 (by decide) w297 rfl d_V_flush_42 ?_
  refine gFN (v := .int (nI x.npc)) hx hb hown hE hK hP 17 rfl rfl layH 1 (by decide) w303 rfl d_V_flush_45 ?_
  refine lv_bipush (v := 32) hx hb d_V_flush_48 (by decide) ?_
  refine lv_icmp_ge hx hb d_V_flush_50 (tgt := 61) rfl (fun h9 => absurd h9 (mt (nI_leI (a := 32) (b := x.npc) (by omega) (by omega)).mp (Nat.not_le.mpr hp32))) (fun _ => ?_)
  have fe : x.fr PS = x.diskBlocks - 2 - x.jlimit - (x.ncat + sumN x.npc (blN PS)) := rfl
  refine lv_iload_n hx hb d_V_flush_53 rfl (lv_at hl 0 rfl) ?_
  refine lv_aload_n hx hb d_V_flush_54 rfl (lv_at hl 3 rfl) ?_
  refine jkI (wr := []) (rnV (As := []) (rest := [.int (nI (nb + ((ctG2 SS x.nser).1)))]) hx hb hml hown hE hK (hN _ _ hS) hP hD (v_freeBlocks l D dA H.size h ad (VS.s_pl x pl1) PS hps1 (show x.npc ≤ 32 from by omega) hfr) (q0 := 0) rfl rfl w644 w643 w645 w646 w277 rfl rfl ⟨⟨by decide, by decide⟩, rfl⟩ ⟨(Nat.le_of_ble_eq_true rfl), (Nat.le_of_ble_eq_true rfl)⟩ rfl hl.1 rfl (Nat.le_of_ble_eq_true rfl) d_V_flush_55 ⟨(show 0 + 0 + 5 + 0 + 0 + 0 ≤ 5 by omega), (show 0 + 0 + (8 + (3 * x.hsize + x.nser + 1)) + 0 + 0 + 0 ≤ 8 + (3 * x.hsize + x.nser + 1) by omega)⟩) hP hD hS hA (fun r16 u17 H locs hp9 hP hD hS => ?_)
  have hP : va_P D vwCl (VW dA h ad (VS.s_pl x pl1)) H := hP
  have hD : va_D A (VW dA h ad (VS.s_pl x pl1)) := hD
  replace hp9 : nI (x.fr PS) = r16 := Eq.symm hp9
  subst hp9
  refine lv_icmp_le hx hb d_V_flush_58 (tgt := 69) rfl (fun g18 => ?_) (fun g18 => ?_)
  rotate_left
  · have g18 := mt (nI_leI (a := nb + ((ctG2 SS x.nser).1)) (b := x.fr PS) (by omega) (by omega)).mpr g18; exfalso; omega
  have g18 := (nI_leI (a := nb + ((ctG2 SS x.nser).1)) (b := x.fr PS) (by omega) (by omega)).mp g18
  refine lv_aload_n hx hb d_V_flush_69 rfl (lv_at hl 3 rfl) ?_
  refine lv_iload_n hx hb d_V_flush_70 rfl (lv_at hl 0 rfl) ?_
  refine lv_iconst (v := 1) hx hb d_V_flush_71 (by decide) ?_
  refine lv_iadd hx hb d_V_flush_72 (tpi (y := nI ((nb + ((ctG2 SS x.nser).1)) + 1)) (nI_add (nb + ((ctG2 SS x.nser).1)) (1)) ?_)
  refine jkV (wr := []) (rnV (As := [.int (nI ((nb + ((ctG2 SS x.nser).1)) + 1))]) (rest := []) hx hb hml hown hE hK (hN _ _ hS) hP hD (v_writeBlocks l D dA H.size h ad (VS.s_pl x pl1) ((nb + ((ctG2 SS x.nser).1)) + 1) (show ((nb + ((ctG2 SS x.nser).1)) + 1) < 2 ^ 31 from by omega) hcz) (q0 := 0) rfl rfl w1394 w1393 w1395 w1396 w277 rfl rfl ⟨⟨by decide, by decide⟩, rfl⟩ ⟨(Nat.le_of_ble_eq_true rfl), (Nat.le_of_ble_eq_true rfl)⟩ rfl hl.1 rfl (Nat.le_of_ble_eq_true rfl) d_V_flush_73 ⟨(show 0 + 0 + 5 + 0 + 0 + 0 + 0 ≤ 5 by omega), (show 0 + 0 + (8 + (3 * x.hsize + x.nser + 1)) + 0 + 0 + 0 + 0 ≤ 8 + (3 * x.hsize + x.nser + 1) by omega)⟩) hP hD hS hA (fun u20 H locs hp9 hP hD hS => ?_)
  have hP : va_P D vwCl (VW dA h ad (VS.s_pl (VS.s_writes (VS.s_cutLeft x (cutN x.cutLeft ((nb + ((ctG2 SS x.nser).1)) + 1))) (x.writes + ((nb + ((ctG2 SS x.nser).1)) + 1))) pl1)) H := hP
  have hD : va_D A (VW dA h ad (VS.s_pl (VS.s_writes (VS.s_cutLeft x (cutN x.cutLeft ((nb + ((ctG2 SS x.nser).1)) + 1))) (x.writes + ((nb + ((ctG2 SS x.nser).1)) + 1))) pl1)) := hD
  refine lv_aload_n hx hb d_V_flush_76 rfl (lv_at hl 3 rfl) ?_
  refine gF (v := .ref (ad 3)) hx hb hown hE hK hP 0 rfl rfl layV 11 (by decide) w297 rfl d_V_flush_77 ?_
  refine lv_aload_n hx hb d_V_flush_80 rfl (lv_at hl 2 rfl) ?_
  refine jkV (wr := []) (rnV (As := [.ref mp]) (rest := []) hx hb hml hown hE hK (hN _ _ hS) hP hD (v_addParcel_1 l D dA H.size h ad (VS.s_pl (VS.s_writes (VS.s_cutLeft x (cutN x.cutLeft ((nb + ((ctG2 SS x.nser).1)) + 1))) (x.writes + ((nb + ((ctG2 SS x.nser).1)) + 1))) pl1) mp (mkP x.hsize O T V) hpc hok (show x.npc < 32 from by omega)) (q0 := 17) rfl rfl w1398 w1397 w1399 w1400 w583 rfl rfl ⟨⟨by decide, by decide⟩, rfl⟩ ⟨(Nat.le_of_ble_eq_true rfl), (Nat.le_of_ble_eq_true rfl)⟩ rfl hl.1 rfl (Nat.le_of_ble_eq_true rfl) d_V_flush_81 ⟨(show 0 + 0 + 5 + 0 + 0 + 0 + 0 + 0 ≤ 5 by omega), (show 0 + 0 + (8 + (3 * x.hsize + x.nser + 1)) + 0 + 0 + 0 + 0 + 0 ≤ 8 + (3 * x.hsize + x.nser + 1) by omega)⟩) hP hD hS hA (fun u22 H locs hp9 hP hD hS => ?_)
  have hP : va_P D vwCl (VW dA h ad (VS.s_pl (VS.s_npc (VS.s_nP (VS.s_writes (VS.s_cutLeft x (cutN x.cutLeft ((nb + ((ctG2 SS x.nser).1)) + 1))) (x.writes + ((nb + ((ctG2 SS x.nser).1)) + 1))) (va_up x.nP x.npc (some mp))) (x.npc + 1)) pl1)) H := hP
  have hD : va_D A (VW dA h ad (VS.s_pl (VS.s_npc (VS.s_nP (VS.s_writes (VS.s_cutLeft x (cutN x.cutLeft ((nb + ((ctG2 SS x.nser).1)) + 1))) (x.writes + ((nb + ((ctG2 SS x.nser).1)) + 1))) (va_up x.nP x.npc (some mp))) (x.npc + 1)) pl1)) := hD
  refine lv_aload_n hx hb d_V_flush_84 rfl (lv_at hl 3 rfl) ?_
  refine gF (v := .ref (ad 3)) hx hb hown hE hK hP 0 rfl rfl layV 11 (by decide) w297 rfl d_V_flush_85 ?_
  refine lv_iload_n hx hb d_V_flush_88 rfl (lv_at hl 1 rfl) ?_
  refine pFN (v := .int (nI ((ctG2 SS x.nser).1))) hx hb hown hE hK hP hD hS 17 rfl rfl layH tyH tokH nmH 10 (by decide) w1401 rfl rfl rfl (Nat.le_of_ble_eq_true rfl) d_V_flush_89 (fun H locs hP hD hS => ?_)
  have hP : va_P D vwCl (VW dA h ad (VS.s_pl (VS.s_ncat (VS.s_npc (VS.s_nP (VS.s_writes (VS.s_cutLeft x (cutN x.cutLeft ((nb + ((ctG2 SS x.nser).1)) + 1))) (x.writes + ((nb + ((ctG2 SS x.nser).1)) + 1))) (va_up x.nP x.npc (some mp))) (x.npc + 1)) ((ctG2 SS x.nser).1)) pl1)) H := hP
  have hD : va_D A (VW dA h ad (VS.s_pl (VS.s_ncat (VS.s_npc (VS.s_nP (VS.s_writes (VS.s_cutLeft x (cutN x.cutLeft ((nb + ((ctG2 SS x.nser).1)) + 1))) (x.writes + ((nb + ((ctG2 SS x.nser).1)) + 1))) (va_up x.nP x.npc (some mp))) (x.npc + 1)) ((ctG2 SS x.nser).1)) pl1)) := hD
  refine lv_aload_n hx hb d_V_flush_92 rfl (lv_at hl 3 rfl) ?_
  refine gF (v := .ref (ad 10)) hx hb hown hE hK hP 0 rfl rfl layV 12 (by decide) w587 rfl d_V_flush_93 ?_
  refine lv_aload_n hx hb d_V_flush_96 rfl (lv_at hl 3 rfl) ?_
  refine gF (v := .ref (ad 3)) hx hb hown hE hK hP 0 rfl rfl layV 11 (by decide) w297 rfl d_V_flush_97 ?_
  refine jkV (wr := []) (rnV (As := [.ref (ad 3)]) (rest := []) hx hb hml hown hE hK (hN _ _ hS) hP hD (v_takeParcels_s l D dA H.size h ad (VS.s_pl (VS.s_ncat (VS.s_npc (VS.s_nP (VS.s_writes (VS.s_cutLeft x (cutN x.cutLeft ((nb + ((ctG2 SS x.nser).1)) + 1))) (x.writes + ((nb + ((ctG2 SS x.nser).1)) + 1))) (va_up x.nP x.npc (some mp))) (x.npc + 1)) ((ctG2 SS x.nser).1)) pl1) (va_up PS x.npc (mkP x.hsize O T V)) (psOk_a hps1 hpc hok) (show (x.npc + 1) ≤ 32 from by omega) (show x.nsc ≤ 64 from by omega)) (q0 := 24) rfl rfl w728 w727 w729 w730 w583 rfl rfl ⟨⟨by decide, by decide⟩, rfl⟩ ⟨(Nat.le_of_ble_eq_true rfl), (Nat.le_of_ble_eq_true rfl)⟩ rfl hl.1 rfl (Nat.le_of_ble_eq_true rfl) d_V_flush_100 ⟨(show 0 + 0 + 5 + 0 + 0 + 0 + 0 + 0 + 0 ≤ 5 by omega), (show 0 + 0 + (8 + (3 * x.hsize + x.nser + 1)) + 0 + 0 + 0 + 0 + 0 + 0 ≤ 8 + (3 * x.hsize + x.nser + 1) by omega)⟩) hP hD hS hA (fun u24 H locs hp9 hP hD hS => ?_)
  have hP : va_P D vwCl (VW dA h ad (VS.s_pl (VS.s_shor (VS.s_ssc (VS.s_ssT (VS.s_ssF (VS.s_ssO (VS.s_spc (VS.s_sP (VS.s_ncat (VS.s_npc (VS.s_nP (VS.s_writes (VS.s_cutLeft x (cutN x.cutLeft ((nb + ((ctG2 SS x.nser).1)) + 1))) (x.writes + ((nb + ((ctG2 SS x.nser).1)) + 1))) (va_up x.nP x.npc (some mp))) (x.npc + 1)) ((ctG2 SS x.nser).1)) (va_cpy (va_up x.nP x.npc (some mp)) x.sP 0 0 (x.npc + 1))) (x.npc + 1)) (va_cpy x.nsO x.ssO 0 0 x.nsc)) (va_cpy x.nsF x.ssF 0 0 x.nsc)) (va_cpy x.nsT x.ssT 0 0 x.nsc)) x.nsc) x.nhor) pl1)) H := hP
  have hD : va_D A (VW dA h ad (VS.s_pl (VS.s_shor (VS.s_ssc (VS.s_ssT (VS.s_ssF (VS.s_ssO (VS.s_spc (VS.s_sP (VS.s_ncat (VS.s_npc (VS.s_nP (VS.s_writes (VS.s_cutLeft x (cutN x.cutLeft ((nb + ((ctG2 SS x.nser).1)) + 1))) (x.writes + ((nb + ((ctG2 SS x.nser).1)) + 1))) (va_up x.nP x.npc (some mp))) (x.npc + 1)) ((ctG2 SS x.nser).1)) (va_cpy (va_up x.nP x.npc (some mp)) x.sP 0 0 (x.npc + 1))) (x.npc + 1)) (va_cpy x.nsO x.ssO 0 0 x.nsc)) (va_cpy x.nsF x.ssF 0 0 x.nsc)) (va_cpy x.nsT x.ssT 0 0 x.nsc)) x.nsc) x.nhor) pl1)) := hD
  refine lv_aload_n hx hb d_V_flush_103 rfl (lv_at hl 3 rfl) ?_
  refine gF (v := .ref (ad 10)) hx hb hown hE hK hP 0 rfl rfl layV 12 (by decide) w587 rfl d_V_flush_104 ?_
  refine lv_aload_n hx hb d_V_flush_107 rfl (lv_at hl 3 rfl) ?_
  refine gF (v := .ref (ad 3)) hx hb hown hE hK hP 0 rfl rfl layV 11 (by decide) w297 rfl d_V_flush_108 ?_
  refine jkV (wr := []) (rnV (As := [.ref (ad 3)]) (rest := []) hx hb hml hown hE hK (hN _ _ hS) hP hD (v_takeCatalog_s l D dA H.size h ad (VS.s_pl (VS.s_shor (VS.s_ssc (VS.s_ssT (VS.s_ssF (VS.s_ssO (VS.s_spc (VS.s_sP (VS.s_ncat (VS.s_npc (VS.s_nP (VS.s_writes (VS.s_cutLeft x (cutN x.cutLeft ((nb + ((ctG2 SS x.nser).1)) + 1))) (x.writes + ((nb + ((ctG2 SS x.nser).1)) + 1))) (va_up x.nP x.npc (some mp))) (x.npc + 1)) ((ctG2 SS x.nser).1)) (va_cpy (va_up x.nP x.npc (some mp)) x.sP 0 0 (x.npc + 1))) (x.npc + 1)) (va_cpy x.nsO x.ssO 0 0 x.nsc)) (va_cpy x.nsF x.ssF 0 0 x.nsc)) (va_cpy x.nsT x.ssT 0 0 x.nsc)) x.nsc) x.nhor) pl1) (show x.nser ≤ 256 from by omega)) (q0 := 24) rfl rfl w1403 w1402 w1404 w1405 w583 rfl rfl ⟨⟨by decide, by decide⟩, rfl⟩ ⟨(Nat.le_of_ble_eq_true rfl), (Nat.le_of_ble_eq_true rfl)⟩ rfl hl.1 rfl (Nat.le_of_ble_eq_true rfl) d_V_flush_111 ⟨(show 0 + 0 + 5 + 0 + 0 + 0 + 0 + 0 + 0 + 0 ≤ 5 by omega), (show 0 + 0 + (8 + (3 * x.hsize + x.nser + 1)) + 0 + 0 + 0 + 0 + 0 + 0 + 0 ≤ 8 + (3 * x.hsize + x.nser + 1) by omega)⟩) hP hD hS hA (fun u26 H locs hp9 hP hD hS => ?_)
  have hP : va_P D vwCl (VW dA h ad (VS.s_pl (VS.s_scat (VS.s_slast (VS.s_sser (VS.s_shor (VS.s_ssc (VS.s_ssT (VS.s_ssF (VS.s_ssO (VS.s_spc (VS.s_sP (VS.s_ncat (VS.s_npc (VS.s_nP (VS.s_writes (VS.s_cutLeft x (cutN x.cutLeft ((nb + ((ctG2 SS x.nser).1)) + 1))) (x.writes + ((nb + ((ctG2 SS x.nser).1)) + 1))) (va_up x.nP x.npc (some mp))) (x.npc + 1)) ((ctG2 SS x.nser).1)) (va_cpy (va_up x.nP x.npc (some mp)) x.sP 0 0 (x.npc + 1))) (x.npc + 1)) (va_cpy x.nsO x.ssO 0 0 x.nsc)) (va_cpy x.nsF x.ssF 0 0 x.nsc)) (va_cpy x.nsT x.ssT 0 0 x.nsc)) x.nsc) x.nhor) x.nser) (va_cpy x.nlast x.slast 0 0 x.nser)) ((ctG2 SS x.nser).1)) pl1)) H := hP
  have hD : va_D A (VW dA h ad (VS.s_pl (VS.s_scat (VS.s_slast (VS.s_sser (VS.s_shor (VS.s_ssc (VS.s_ssT (VS.s_ssF (VS.s_ssO (VS.s_spc (VS.s_sP (VS.s_ncat (VS.s_npc (VS.s_nP (VS.s_writes (VS.s_cutLeft x (cutN x.cutLeft ((nb + ((ctG2 SS x.nser).1)) + 1))) (x.writes + ((nb + ((ctG2 SS x.nser).1)) + 1))) (va_up x.nP x.npc (some mp))) (x.npc + 1)) ((ctG2 SS x.nser).1)) (va_cpy (va_up x.nP x.npc (some mp)) x.sP 0 0 (x.npc + 1))) (x.npc + 1)) (va_cpy x.nsO x.ssO 0 0 x.nsc)) (va_cpy x.nsF x.ssF 0 0 x.nsc)) (va_cpy x.nsT x.ssT 0 0 x.nsc)) x.nsc) x.nhor) x.nser) (va_cpy x.nlast x.slast 0 0 x.nser)) ((ctG2 SS x.nser).1)) pl1)) := hD
  refine lv_aload_n hx hb d_V_flush_114 rfl (lv_at hl 3 rfl) ?_
  refine gF (v := .ref (ad 1)) hx hb hown hE hK hP 0 rfl rfl layV 9 (by decide) w576 rfl d_V_flush_115 ?_
  refine jkV (wr := []) (rnV (As := []) (rest := []) hx hb hml hown hE hK (hN _ _ hS) hP hD (v_pclear_h l D dA H.size h ad (VS.s_pl (VS.s_scat (VS.s_slast (VS.s_sser (VS.s_shor (VS.s_ssc (VS.s_ssT (VS.s_ssF (VS.s_ssO (VS.s_spc (VS.s_sP (VS.s_ncat (VS.s_npc (VS.s_nP (VS.s_writes (VS.s_cutLeft x (cutN x.cutLeft ((nb + ((ctG2 SS x.nser).1)) + 1))) (x.writes + ((nb + ((ctG2 SS x.nser).1)) + 1))) (va_up x.nP x.npc (some mp))) (x.npc + 1)) ((ctG2 SS x.nser).1)) (va_cpy (va_up x.nP x.npc (some mp)) x.sP 0 0 (x.npc + 1))) (x.npc + 1)) (va_cpy x.nsO x.ssO 0 0 x.nsc)) (va_cpy x.nsF x.ssF 0 0 x.nsc)) (va_cpy x.nsT x.ssT 0 0 x.nsc)) x.nsc) x.nhor) x.nser) (va_cpy x.nlast x.slast 0 0 x.nser)) ((ctG2 SS x.nser).1)) pl1)) (q0 := 9) rfl rfl w579 w577 w580 w581 w578 rfl rfl ⟨⟨by decide, by decide⟩, rfl⟩ ⟨(Nat.le_of_ble_eq_true rfl), (Nat.le_of_ble_eq_true rfl)⟩ rfl hl.1 rfl (Nat.le_of_ble_eq_true rfl) d_V_flush_118 ⟨(show 0 + 0 + 5 + 0 + 0 + 0 + 0 + 0 + 0 + 0 + 0 ≤ 5 by omega), (show 0 + 0 + (8 + (3 * x.hsize + x.nser + 1)) + 0 + 0 + 0 + 0 + 0 + 0 + 0 + 0 ≤ 8 + (3 * x.hsize + x.nser + 1) by omega)⟩) hP hD hS hA (fun u28 H locs hp9 hP hD hS => ?_)
  have hP : va_P D vwCl (VW dA h ad (VS.s_pl (VS.s_scat (VS.s_slast (VS.s_sser (VS.s_shor (VS.s_ssc (VS.s_ssT (VS.s_ssF (VS.s_ssO (VS.s_spc (VS.s_sP (VS.s_ncat (VS.s_npc (VS.s_nP (VS.s_hsize (VS.s_writes (VS.s_cutLeft x (cutN x.cutLeft ((nb + ((ctG2 SS x.nser).1)) + 1))) (x.writes + ((nb + ((ctG2 SS x.nser).1)) + 1))) 0) (va_up x.nP x.npc (some mp))) (x.npc + 1)) ((ctG2 SS x.nser).1)) (va_cpy (va_up x.nP x.npc (some mp)) x.sP 0 0 (x.npc + 1))) (x.npc + 1)) (va_cpy x.nsO x.ssO 0 0 x.nsc)) (va_cpy x.nsF x.ssF 0 0 x.nsc)) (va_cpy x.nsT x.ssT 0 0 x.nsc)) x.nsc) x.nhor) x.nser) (va_cpy x.nlast x.slast 0 0 x.nser)) ((ctG2 SS x.nser).1)) pl1)) H := hP
  have hD : va_D A (VW dA h ad (VS.s_pl (VS.s_scat (VS.s_slast (VS.s_sser (VS.s_shor (VS.s_ssc (VS.s_ssT (VS.s_ssF (VS.s_ssO (VS.s_spc (VS.s_sP (VS.s_ncat (VS.s_npc (VS.s_nP (VS.s_hsize (VS.s_writes (VS.s_cutLeft x (cutN x.cutLeft ((nb + ((ctG2 SS x.nser).1)) + 1))) (x.writes + ((nb + ((ctG2 SS x.nser).1)) + 1))) 0) (va_up x.nP x.npc (some mp))) (x.npc + 1)) ((ctG2 SS x.nser).1)) (va_cpy (va_up x.nP x.npc (some mp)) x.sP 0 0 (x.npc + 1))) (x.npc + 1)) (va_cpy x.nsO x.ssO 0 0 x.nsc)) (va_cpy x.nsF x.ssF 0 0 x.nsc)) (va_cpy x.nsT x.ssT 0 0 x.nsc)) x.nsc) x.nhor) x.nser) (va_cpy x.nlast x.slast 0 0 x.nser)) ((ctG2 SS x.nser).1)) pl1)) := hD
  refine lv_aload_n hx hb d_V_flush_121 rfl (lv_at hl 3 rfl) ?_
  refine gF (v := .ref (ad 0)) hx hb hown hE hK hP 0 rfl rfl layV 8 (by decide) w312 rfl d_V_flush_122 ?_
  refine jkV (wr := []) (rnV (As := []) (rest := []) hx hb hml hown hE hK (hN _ _ hS) hP hD (v_jclear l D dA H.size h ad (VS.s_pl (VS.s_scat (VS.s_slast (VS.s_sser (VS.s_shor (VS.s_ssc (VS.s_ssT (VS.s_ssF (VS.s_ssO (VS.s_spc (VS.s_sP (VS.s_ncat (VS.s_npc (VS.s_nP (VS.s_hsize (VS.s_writes (VS.s_cutLeft x (cutN x.cutLeft ((nb + ((ctG2 SS x.nser).1)) + 1))) (x.writes + ((nb + ((ctG2 SS x.nser).1)) + 1))) 0) (va_up x.nP x.npc (some mp))) (x.npc + 1)) ((ctG2 SS x.nser).1)) (va_cpy (va_up x.nP x.npc (some mp)) x.sP 0 0 (x.npc + 1))) (x.npc + 1)) (va_cpy x.nsO x.ssO 0 0 x.nsc)) (va_cpy x.nsF x.ssF 0 0 x.nsc)) (va_cpy x.nsT x.ssT 0 0 x.nsc)) x.nsc) x.nhor) x.nser) (va_cpy x.nlast x.slast 0 0 x.nser)) ((ctG2 SS x.nser).1)) pl1) (show x.jN ≤ 65536 from by omega) (show x.jkept < 2 ^ 31 from by omega)) (q0 := 2) rfl rfl w562 w1406 w563 w564 w556 rfl rfl ⟨⟨by decide, by decide⟩, rfl⟩ ⟨(Nat.le_of_ble_eq_true rfl), (Nat.le_of_ble_eq_true rfl)⟩ rfl hl.1 rfl (Nat.le_of_ble_eq_true rfl) d_V_flush_125 ⟨(show 0 + 0 + 5 + 0 + 0 + 0 + 0 + 0 + 0 + 0 + 0 + 0 ≤ 5 by omega), (show 0 + 0 + (8 + (3 * x.hsize + x.nser + 1)) + 0 + 0 + 0 + 0 + 0 + 0 + 0 + 0 + 0 ≤ 8 + (3 * x.hsize + x.nser + 1) by omega)⟩) hP hD hS hA (fun u30 H locs hp9 hP hD hS => ?_)
  have hP : va_P D vwCl (VW dA h ad (VS.s_pl (VS.s_scat (VS.s_slast (VS.s_sser (VS.s_shor (VS.s_ssc (VS.s_ssT (VS.s_ssF (VS.s_ssO (VS.s_spc (VS.s_sP (VS.s_ncat (VS.s_npc (VS.s_nP (VS.s_hsize (VS.s_jch (VS.s_jfill (VS.s_jblock (VS.s_junits (VS.s_jkept (VS.s_jsize (VS.s_writes (VS.s_cutLeft x (cutN x.cutLeft ((nb + ((ctG2 SS x.nser).1)) + 1))) (x.writes + ((nb + ((ctG2 SS x.nser).1)) + 1))) 0) 0) 0) 0) 0) false) 0) (va_up x.nP x.npc (some mp))) (x.npc + 1)) ((ctG2 SS x.nser).1)) (va_cpy (va_up x.nP x.npc (some mp)) x.sP 0 0 (x.npc + 1))) (x.npc + 1)) (va_cpy x.nsO x.ssO 0 0 x.nsc)) (va_cpy x.nsF x.ssF 0 0 x.nsc)) (va_cpy x.nsT x.ssT 0 0 x.nsc)) x.nsc) x.nhor) x.nser) (va_cpy x.nlast x.slast 0 0 x.nser)) ((ctG2 SS x.nser).1)) pl1)) H := hP
  have hD : va_D A (VW dA h ad (VS.s_pl (VS.s_scat (VS.s_slast (VS.s_sser (VS.s_shor (VS.s_ssc (VS.s_ssT (VS.s_ssF (VS.s_ssO (VS.s_spc (VS.s_sP (VS.s_ncat (VS.s_npc (VS.s_nP (VS.s_hsize (VS.s_jch (VS.s_jfill (VS.s_jblock (VS.s_junits (VS.s_jkept (VS.s_jsize (VS.s_writes (VS.s_cutLeft x (cutN x.cutLeft ((nb + ((ctG2 SS x.nser).1)) + 1))) (x.writes + ((nb + ((ctG2 SS x.nser).1)) + 1))) 0) 0) 0) 0) 0) false) 0) (va_up x.nP x.npc (some mp))) (x.npc + 1)) ((ctG2 SS x.nser).1)) (va_cpy (va_up x.nP x.npc (some mp)) x.sP 0 0 (x.npc + 1))) (x.npc + 1)) (va_cpy x.nsO x.ssO 0 0 x.nsc)) (va_cpy x.nsF x.ssF 0 0 x.nsc)) (va_cpy x.nsT x.ssT 0 0 x.nsc)) x.nsc) x.nhor) x.nser) (va_cpy x.nlast x.slast 0 0 x.nser)) ((ctG2 SS x.nser).1)) pl1)) := hD
  refine lv_iload_n hx hb d_V_flush_128 rfl (lv_at hl 0 rfl) ?_
  refine lv_iconst (v := 1) hx hb d_V_flush_129 (by decide) ?_
  refine lv_iadd hx hb d_V_flush_130 (tpi (y := nI ((nb + ((ctG2 SS x.nser).1)) + 1)) (nI_add (nb + ((ctG2 SS x.nser).1)) (1)) ?_)
  exact rfI hx hb hr hlk hS (VS.s_pl (VS.s_scat (VS.s_slast (VS.s_sser (VS.s_shor (VS.s_ssc (VS.s_ssT (VS.s_ssF (VS.s_ssO (VS.s_spc (VS.s_sP (VS.s_ncat (VS.s_npc (VS.s_nP (VS.s_hsize (VS.s_jch (VS.s_jfill (VS.s_jblock (VS.s_junits (VS.s_jkept (VS.s_jsize (VS.s_writes (VS.s_cutLeft x (cutN x.cutLeft ((nb + ((ctG2 SS x.nser).1)) + 1))) (x.writes + ((nb + ((ctG2 SS x.nser).1)) + 1))) 0) 0) 0) 0) 0) false) 0) (va_up x.nP x.npc (some mp))) (x.npc + 1)) ((ctG2 SS x.nser).1)) (va_cpy (va_up x.nP x.npc (some mp)) x.sP 0 0 (x.npc + 1))) (x.npc + 1)) (va_cpy x.nsO x.ssO 0 0 x.nsc)) (va_cpy x.nsF x.ssF 0 0 x.nsc)) (va_cpy x.nsT x.ssT 0 0 x.nsc)) x.nsc) x.nhor) x.nser) (va_cpy x.nlast x.slast 0 0 x.nser)) ((ctG2 SS x.nser).1)) pl1) ⟨rfl, O, T, V, mp, pl1, f_l1_8, f_l2_9, f_l3_10, f_l4_11, hpc, hsub, rfl⟩ hP hD (show 0 + 0 + 5 + 0 + 0 + 0 + 0 + 0 + 0 + 0 + 0 + 0 ≤ 5 by omega) (show 0 + 0 + (8 + (3 * x.hsize + x.nser + 1)) + 0 + 0 + 0 + 0 + 0 + 0 + 0 + 0 + 0 ≤ 8 + (3 * x.hsize + x.nser + 1) by omega) d_V_flush_131
set_option maxHeartbeats 4000000 in
set_option maxRecDepth 100000 in
theorem v_flush_u1 (l : Launch) (htr : l.stackTraces = false) (D : va_G) (dA : Nat → ClassId) (sz : Nat) (h : Nat) (ad : Nat → Nat) (x : VS) (PS : Nat → PT) (SS : Nat → List LB) (nb : Nat) (ho : x.powered = true) (hj0 : 0 < x.jsize) (hj1 : x.jsize < 2 ^ 31) (hps : psOk dA x.nP x.npc x.pl PS) (hpn : x.npc ≤ 32) (hfr : x.jlimit + 2 + (x.ncat + sumN x.npc (blN PS)) ≤ x.diskBlocks) (hkn : knOk dA x.kn x.nser x.pl SS) (hn : x.nser ≤ 256) (hdk : x.diskBlocks ≤ 256) (hhn : x.hsize ≤ 12000) (hhN : x.hsize ≤ x.hN) (hhN2 : x.hN ≤ 65536) (hho : ∀ i : Nat, i < x.hsize → x.hO i < x.nser) (hz : 0 < x.hsize) (hbl : ∀ (O : Nat → Nat) (T V : Nat → Int64), laid x.hO x.hsize x.hsize x.hO O → laid x.hO x.hsize x.hsize x.hT T → laid x.hO x.hsize x.hsize x.hV V → (mkP x.hsize O T V).bl = nb) (hc9 : nb + (ctG2 SS x.nser).1 < 2 ^ 31) (hu : 32 ≤ x.npc ∨ x.fr PS < nb + (ctG2 SS x.nser).1) : mX l ⟨"SeriesVault", "flush", "()I"⟩ [Cond.code ⟨"SeriesVault", "flush", "()I"⟩ prog_1_method_36_code 4 (some FieldType.int)] { frames := 6, cells := 6, slots := 14 + (3 * x.hsize + x.nser + 1), locals := 124 } (pC D dA [.ref h] (VW dA h ad x) sz) "java/lang/UnsupportedOperationException" (fun st9 t9 => va_F (va_A (VW dA h ad x) sz) st9 t9 ∧ ∃ u9 : VS, ((x.pk u9)) ∧ bW D (va_A (VW dA h ad x) sz) (VW dA h ad u9) t9) 6 (14 + (3 * x.hsize + x.nser + 1)) (va_A (VW dA h ad x) sz) := by
  refine mkX (y := ⟨"SeriesVault", "flush", "()I"⟩) (cc := prog_1_method_36_code) (maxL := 4) (av := [.ref h]) (ws := VW dA h ad x) (sz := sz) (B := fun A => (fun st9 t9 => va_F A st9 t9 ∧ ∃ u9 : VS, ((x.pk u9)) ∧ bW D A (VW dA h ad u9) t9)) (by decide) (Nat.le_of_ble_eq_true rfl) ?_
  intro A p e s m below meth c ls hsz hno hB
  obtain ⟨hx, hb, hr, hml, hown, hin, hlk, hE, hK, hP, hD, hS, hA, hN, hl⟩ := hB
  have hown : s.vm.findClass "SeriesVault" = some m.cls := hown
  have hl : lv_has ls 4 [(0, .ref h)] := hl
  obtain ⟨H, hH⟩ : ∃ z, z = s.heap := ⟨_, rfl⟩
  have hP : va_P D vwCl (VW dA h ad x) H := by rw [hH]; exact hP
  have hS : va_S A s.heap H [] := by rw [hH]; exact hS
  rw [← hH]
  refine lv_aload_n hx hb d_V_flush_0 rfl (lv_at hl 0 rfl) ?_
  refine jkV (wr := []) (rnV (As := []) (rest := []) hx hb hml hown hE hK (hN _ _ hS) hP hD (v_checkPower l D dA H.size h ad x ho) (q0 := 0) rfl rfl w278 w276 w279 w280 w277 rfl rfl ⟨⟨by decide, by decide⟩, rfl⟩ ⟨(Nat.le_of_ble_eq_true rfl), (Nat.le_of_ble_eq_true rfl)⟩ rfl hl.1 rfl (Nat.le_of_ble_eq_true rfl) d_V_flush_1 ⟨(show 0 + 0 ≤ 6 by omega), (show 0 + 0 ≤ 14 + (3 * x.hsize + x.nser + 1) by omega)⟩) hP hD hS hA (fun u2 H locs hp9 hP hD hS => ?_)
  have hP : va_P D vwCl (VW dA h ad x) H := hP
  have hD : va_D A (VW dA h ad x) := hD
  refine lv_aload_n hx hb d_V_flush_4 rfl (lv_at hl 0 rfl) ?_
  refine gF (v := .ref (ad 0)) hx hb hown hE hK hP 0 rfl rfl layV 8 (by decide) w312 rfl d_V_flush_5 ?_
  refine gFN (v := .int (nI x.jsize)) hx hb hown hE hK hP 2 rfl rfl layJ 6 (by decide) w318 rfl d_V_flush_8 ?_
  refine lv_if_ne hx hb d_V_flush_11 (tgt := 16) rfl (fun g3 => ?_) (fun g3 => ?_)
  rotate_left
  · have g3 := (nI_eq (a := x.jsize) (b := 0) (by omega) (by decide)).mp g3; exfalso; omega
  have g3 := mt (nI_eq (a := x.jsize) (b := 0) (by omega) (by decide)).mpr g3
  refine lv_aload_n hx hb d_V_flush_16 rfl (lv_at hl 0 rfl) ?_
  refine lv_aload_n hx hb d_V_flush_17 rfl (lv_at hl 0 rfl) ?_
  refine gF (v := .ref (ad 1)) hx hb hown hE hK hP 0 rfl rfl layV 9 (by decide) w576 rfl d_V_flush_18 ?_
  refine jkR (wr := []) (rnV (As := [.ref (ad 1)]) (rest := []) hx hb hml hown hE hK (hN _ _ hS) hP hD (v_packed_1h l D dA H.size h ad x hz hhn hhN hhN2 hn hho) (q0 := 0) rfl rfl w1383 w1382 w1384 w1385 w277 rfl rfl ⟨⟨by decide, by decide⟩, rfl⟩ ⟨(Nat.le_of_ble_eq_true rfl), (Nat.le_of_ble_eq_true rfl)⟩ rfl hl.1 rfl (Nat.le_of_ble_eq_true rfl) d_V_flush_21 ⟨(show 0 + 0 + 5 ≤ 6 by omega), (show 0 + 0 + (8 + (3 * x.hsize + x.nser + 1)) ≤ 14 + (3 * x.hsize + x.nser + 1) by omega)⟩) hP hD hS hA (fun u4 mp H locs hp9 hP hD hS => ?_)
  obtain ⟨y5, O, T, V⟩ := u4
  have hP : va_P D vwCl (VW dA h ad y5) H := hP
  have hD : va_D A (VW dA h ad y5) := hD
  obtain ⟨f_ey_6, f_pc_7, f_l1_8, f_l2_9, f_l3_10, f_l4_11⟩ := hp9
  obtain ⟨hy, hsub⟩ := f_ey_6
  have hpc := f_pc_7
  obtain ⟨pl1, epl⟩ : ∃ z, z = y5.pl := ⟨_, rfl⟩
  rw [← epl] at hy hsub hpc
  subst hy
  have hP : va_P D vwCl (VW dA h ad (VS.s_pl x pl1)) H := hP
  have hD : va_D A (VW dA h ad (VS.s_pl x pl1)) := hD
  have hok : pcOk (mkP x.hsize O T V) := mkP_ok hhn f_l4_11
  have hps1 := psOk_m hsub hps
  have hb0 := hbl O T V f_l1_8 f_l2_9 f_l3_10
  refine lv_astore_n hx hb d_V_flush_24 rfl hl (by decide) rfl (fun ls hl => ?_)
  have hl : lv_has ls 4 [(1, .ref mp), (0, .ref h)] := hl
  refine lv_aload_n hx hb d_V_flush_25 rfl (lv_at hl 1 rfl) ?_
  refine jkI (wr := []) (rnV (As := []) (rest := []) hx hb hml hown hE hK (hN _ _ hS) hP hD (v_catalogBlocks l D dA H.size h ad (VS.s_pl x pl1) SS (knOk_m hsub hkn) (show x.nser ≤ 256 from by omega)) (q0 := 0) rfl rfl w1387 w1386 w1388 w1389 w277 rfl rfl ⟨⟨by decide, by decide⟩, rfl⟩ ⟨(Nat.le_of_ble_eq_true rfl), (Nat.le_of_ble_eq_true rfl)⟩ rfl hl.1 rfl (Nat.le_of_ble_eq_true rfl) d_V_flush_26 ⟨(show 0 + 0 + 5 + 0 ≤ 6 by omega), (show 0 + 0 + (8 + (3 * x.hsize + x.nser + 1)) + 0 ≤ 14 + (3 * x.hsize + x.nser + 1) by omega)⟩) hP hD hS hA (fun r12 u13 H locs hp9 hP hD hS => ?_)
  have hP : va_P D vwCl (VW dA h ad (VS.s_pl x pl1)) H := hP
  have hD : va_D A (VW dA h ad (VS.s_pl x pl1)) := hD
  replace hp9 : nI (ctG2 SS x.nser).1 = r12 := Eq.symm hp9
  subst hp9
  refine lv_istore_n hx hb d_V_flush_29 rfl hl (by decide) rfl (fun ls hl => ?_)
  have hl : lv_has ls 4 [(2, .int (nI (ctG2 SS x.nser).1)), (1, .ref mp), (0, .ref h)] := hl
  refine lv_aload_n hx hb d_V_flush_30 rfl (lv_at hl 1 rfl) ?_
  refine jkI (wr := []) (rnS (As := [.ref mp]) (rest := []) hx hb hml hown hE hK (hN _ _ hS) hP hD (v_blocksOf l D dA H.size (VW dA h ad (VS.s_pl x pl1)) mp (mkP x.hsize O T V) (isPc_m (fun _ hm => (plm hm)) hpc)) w1391 w1390 w1392 w277 rfl rfl ⟨⟨by decide, by decide⟩, rfl⟩ ⟨(Nat.le_of_ble_eq_true rfl), (Nat.le_of_ble_eq_true rfl)⟩ rfl hl.1 rfl (Nat.le_of_ble_eq_true rfl) d_V_flush_31 ⟨(show 0 + 0 + 5 + 0 + 0 ≤ 6 by omega), (show 0 + 0 + (8 + (3 * x.hsize + x.nser + 1)) + 0 + 0 ≤ 14 + (3 * x.hsize + x.nser + 1) by omega)⟩) hP hD hS hA (fun r14 u15 H locs hp9 hP hD hS => ?_)
  have hP : va_P D vwCl (VW dA h ad (VS.s_pl x pl1)) H := hP
  have hD : va_D A (VW dA h ad (VS.s_pl x pl1)) := hD
  replace hp9 : nI (mkP x.hsize O T V).bl = r14 := Eq.symm hp9
  subst hp9
  refine tpi (y := nI nb) (by rw [hb0]) ?_
  refine lv_iload_n hx hb d_V_flush_34 rfl (lv_at hl 0 rfl) ?_
  refine lv_iadd hx hb d_V_flush_35 (tpi (y := nI (nb + ((ctG2 SS x.nser).1))) (nI_add (nb) ((ctG2 SS x.nser).1)) ?_)
  refine lv_istore_n hx hb d_V_flush_36 rfl hl (by decide) rfl (fun ls hl => ?_)
  have hl : lv_has ls 4 [(3, .int (nI (nb + ((ctG2 SS x.nser).1)))), (2, .int (nI (ctG2 SS x.nser).1)), (1, .ref mp), (0, .ref h)] := hl
  refine lv_aload_n hx hb d_V_flush_37 rfl (lv_at hl 2 rfl) ?_
  refine lv_ifnull hx hb d_V_flush_38 ?_
  refine lv_aload_n hx hb d_V_flush_41 rfl (lv_at hl 3 rfl) ?_
  refine gF (v := .ref (ad 3)) hx hb hown hE hK hP 0 rfl rfl layV 11 (by decide) w297 rfl d_V_flush_42 ?_
  refine gFN (v := .int (nI x.npc)) hx hb hown hE hK hP 17 rfl rfl layH 1 (by decide) w303 rfl d_V_flush_45 ?_
  refine lv_bipush (v := 32) hx hb d_V_flush_48 (by decide) ?_
  refine lv_icmp_ge hx hb d_V_flush_50 (tgt := 61) rfl (fun g16 => ?_) (fun g16 => ?_)
  · have g16 := (nI_leI (a := 32) (b := x.npc) (by omega) (by omega)).mp g16
    exact xNew (E := "java/lang/UnsupportedOperationException") (names := ["java/lang/RuntimeException", "java/lang/Exception"]) hx hb htr hown (by decide) (by decide) hE w1156 w1157 (fun U hU => at_V_UOE hU) (hN _ _ hS) (hl.1.trans hml.symm) d_V_flush_61 d_V_flush_64 d_V_flush_65 d_V_flush_68 hno (Nat.le_of_ble_eq_true rfl) (Nat.le_of_ble_eq_true rfl) (show 0 + 0 + 5 + 0 + 0 + 1 ≤ 6 by omega) (show 0 + 0 + (8 + (3 * x.hsize + x.nser + 1)) + 0 + 0 + 6 ≤ 14 + (3 * x.hsize + x.nser + 1) by omega) hlk (fun t h1 h2 => xkE (VS.s_pl x pl1) ⟨rfl, hsub⟩ hP hD hS t h1 h2) hS.2.2 (show 0 + 0 + 5 + 0 + 0 + 1 ≤ 6 by omega) (show 0 + 0 + (8 + (3 * x.hsize + x.nser + 1)) + 0 + 0 + 6 ≤ 14 + (3 * x.hsize + x.nser + 1) by omega)
  · have g16 := mt (nI_leI (a := 32) (b := x.npc) (by omega) (by omega)).mpr g16
    have fe : x.fr PS = x.diskBlocks - 2 - x.jlimit - (x.ncat + sumN x.npc (blN PS)) := rfl
    refine lv_iload_n hx hb d_V_flush_53 rfl (lv_at hl 0 rfl) ?_
    refine lv_aload_n hx hb d_V_flush_54 rfl (lv_at hl 3 rfl) ?_
    refine jkI (wr := []) (rnV (As := []) (rest := [.int (nI (nb + ((ctG2 SS x.nser).1)))]) hx hb hml hown hE hK (hN _ _ hS) hP hD (v_freeBlocks l D dA H.size h ad (VS.s_pl x pl1) PS hps1 (show x.npc ≤ 32 from by omega) hfr) (q0 := 0) rfl rfl w644 w643 w645 w646 w277 rfl rfl ⟨⟨by decide, by decide⟩, rfl⟩ ⟨(Nat.le_of_ble_eq_true rfl), (Nat.le_of_ble_eq_true rfl)⟩ rfl hl.1 rfl (Nat.le_of_ble_eq_true rfl) d_V_flush_55 ⟨(show 0 + 0 + 5 + 0 + 0 + 0 ≤ 6 by omega), (show 0 + 0 + (8 + (3 * x.hsize + x.nser + 1)) + 0 + 0 + 0 ≤ 14 + (3 * x.hsize + x.nser + 1) by omega)⟩) hP hD hS hA (fun r17 u18 H locs hp9 hP hD hS => ?_)
    have hP : va_P D vwCl (VW dA h ad (VS.s_pl x pl1)) H := hP
    have hD : va_D A (VW dA h ad (VS.s_pl x pl1)) := hD
    replace hp9 : nI (x.fr PS) = r17 := Eq.symm hp9
    subst hp9
    refine lv_icmp_le hx hb d_V_flush_58 (tgt := 69) rfl (fun g19 => ?_) (fun g19 => ?_)
    · have g19 := (nI_leI (a := nb + ((ctG2 SS x.nser).1)) (b := x.fr PS) (by omega) (by omega)).mp g19; exfalso; omega
    have g19 := mt (nI_leI (a := nb + ((ctG2 SS x.nser).1)) (b := x.fr PS) (by omega) (by omega)).mpr g19
    exact xNew (E := "java/lang/UnsupportedOperationException") (names := ["java/lang/RuntimeException", "java/lang/Exception"]) hx hb htr hown (by decide) (by decide) hE w1156 w1157 (fun U hU => at_V_UOE hU) (hN _ _ hS) (hl.1.trans hml.symm) d_V_flush_61 d_V_flush_64 d_V_flush_65 d_V_flush_68 hno (Nat.le_of_ble_eq_true rfl) (Nat.le_of_ble_eq_true rfl) (show 0 + 0 + 5 + 0 + 0 + 0 + 1 ≤ 6 by omega) (show 0 + 0 + (8 + (3 * x.hsize + x.nser + 1)) + 0 + 0 + 0 + 6 ≤ 14 + (3 * x.hsize + x.nser + 1) by omega) hlk (fun t h1 h2 => xkE (VS.s_pl x pl1) ⟨rfl, hsub⟩ hP hD hS t h1 h2) hS.2.2 (show 0 + 0 + 5 + 0 + 0 + 0 + 1 ≤ 6 by omega) (show 0 + 0 + (8 + (3 * x.hsize + x.nser + 1)) + 0 + 0 + 0 + 6 ≤ 14 + (3 * x.hsize + x.nser + 1) by omega)
def VS.xiS (x : VS) (k0 : Nat) : VS := VS.s_writes (VS.s_cutLeft (VS.s_powered x false) (-1)) (x.writes + k0)
set_option maxHeartbeats 4000000 in
set_option maxRecDepth 100000 in
theorem v_flush_i1 (l : Launch) (htr : l.stackTraces = false) (D : va_G) (dA : Nat → ClassId) (sz : Nat) (h : Nat) (ad : Nat → Nat) (x : VS) (PS : Nat → PT) (SS : Nat → List LB) (nb : Nat) (k0 : Nat) (ho : x.powered = true) (hj0 : 0 < x.jsize) (hj1 : x.jsize < 2 ^ 31) (hps : psOk dA x.nP x.npc x.pl PS) (hpn : x.npc ≤ 32) (hfr : x.jlimit + 2 + (x.ncat + sumN x.npc (blN PS)) ≤ x.diskBlocks) (hkn : knOk dA x.kn x.nser x.pl SS) (hn : x.nser ≤ 256) (hdk : x.diskBlocks ≤ 256) (hhn : x.hsize ≤ 12000) (hhN : x.hsize ≤ x.hN) (hhN2 : x.hN ≤ 65536) (hho : ∀ i : Nat, i < x.hsize → x.hO i < x.nser) (hz : 0 < x.hsize) (hbl : ∀ (O : Nat → Nat) (T V : Nat → Int64), laid x.hO x.hsize x.hsize x.hO O → laid x.hO x.hsize x.hsize x.hT T → laid x.hO x.hsize x.hsize x.hV V → (mkP x.hsize O T V).bl = nb) (hp32 : x.npc < 32) (hf : nb + (ctG2 SS x.nser).1 ≤ x.fr PS) (hk : k0 < nb + (ctG2 SS x.nser).1 + 1) (hcz : ∀ j : Nat, j < k0 → ¬ cutN x.cutLeft j = 0) (hc : cutN x.cutLeft k0 = 0) : mX l ⟨"SeriesVault", "flush", "()I"⟩ [Cond.code ⟨"SeriesVault", "flush", "()I"⟩ prog_1_method_36_code 4 (some FieldType.int)] { frames := 8, cells := 6, slots := 14 + (3 * x.hsize + x.nser + 1), locals := 124 } (pC D dA [.ref h] (VW dA h ad x) sz) "java/lang/IllegalStateException" (fun st9 t9 => va_F (va_A (VW dA h ad x) sz) st9 t9 ∧ ∃ u9 : VS, (((x.xiS k0).pk u9)) ∧ bW D (va_A (VW dA h ad x) sz) (VW dA h ad u9) t9) 6 (14 + (3 * x.hsize + x.nser + 1)) (va_A (VW dA h ad x) sz) := by
  refine mkX (y := ⟨"SeriesVault", "flush", "()I"⟩) (cc := prog_1_method_36_code) (maxL := 4) (av := [.ref h]) (ws := VW dA h ad x) (sz := sz) (B := fun A => (fun st9 t9 => va_F A st9 t9 ∧ ∃ u9 : VS, (((x.xiS k0).pk u9)) ∧ bW D A (VW dA h ad u9) t9)) (by decide) (Nat.le_of_ble_eq_true rfl) ?_
  intro A p e s m below meth c ls hsz hno hB
  obtain ⟨hx, hb, hr, hml, hown, hin, hlk, hE, hK, hP, hD, hS, hA, hN, hl⟩ := hB
  have hown : s.vm.findClass "SeriesVault" = some m.cls := hown
  have hl : lv_has ls 4 [(0, .ref h)] := hl
  obtain ⟨H, hH⟩ : ∃ z, z = s.heap := ⟨_, rfl⟩
  have hP : va_P D vwCl (VW dA h ad x) H := by rw [hH]; exact hP
  have hS : va_S A s.heap H [] := by rw [hH]; exact hS
  rw [← hH]
  refine lv_aload_n hx hb d_V_flush_0 rfl (lv_at hl 0 rfl) ?_
  refine jkV (wr := []) (rnV (As := []) (rest := []) hx hb hml hown hE hK (hN _ _ hS) hP hD (v_checkPower l D dA H.size h ad x ho) (q0 := 0) rfl rfl w278 w276 w279 w280 w277 rfl rfl ⟨⟨by decide, by decide⟩, rfl⟩ ⟨(Nat.le_of_ble_eq_true rfl), (Nat.le_of_ble_eq_true rfl)⟩ rfl hl.1 rfl (Nat.le_of_ble_eq_true rfl) d_V_flush_1 ⟨(show 0 + 0 ≤ 6 by omega), (show 0 + 0 ≤ 14 + (3 * x.hsize + x.nser + 1) by omega)⟩) hP hD hS hA (fun u2 H locs hp9 hP hD hS => ?_)
  have hP : va_P D vwCl (VW dA h ad x) H := hP
  have hD : va_D A (VW dA h ad x) := hD
  refine lv_aload_n hx hb d_V_flush_4 rfl (lv_at hl 0 rfl) ?_
  refine gF (v := .ref (ad 0)) hx hb hown hE hK hP 0 rfl rfl layV 8 (by decide) w312 rfl d_V_flush_5 ?_
  refine gFN (v := .int (nI x.jsize)) hx hb hown hE hK hP 2 rfl rfl layJ 6 (by decide) w318 rfl d_V_flush_8 ?_
  refine lv_if_ne hx hb d_V_flush_11 (tgt := 16) rfl (fun g3 => ?_) (fun g3 => ?_)
  rotate_left
  · have g3 := (nI_eq (a := x.jsize) (b := 0) (by omega) (by decide)).mp g3; exfalso; omega
  have g3 := mt (nI_eq (a := x.jsize) (b := 0) (by omega) (by decide)).mpr g3
  refine lv_aload_n hx hb d_V_flush_16 rfl (lv_at hl 0 rfl) ?_
  refine lv_aload_n hx hb d_V_flush_17 rfl (lv_at hl 0 rfl) ?_
  refine gF (v := .ref (ad 1)) hx hb hown hE hK hP 0 rfl rfl layV 9 (by decide) w576 rfl d_V_flush_18 ?_
  refine jkR (wr := []) (rnV (As := [.ref (ad 1)]) (rest := []) hx hb hml hown hE hK (hN _ _ hS) hP hD (v_packed_1h l D dA H.size h ad x hz hhn hhN hhN2 hn hho) (q0 := 0) rfl rfl w1383 w1382 w1384 w1385 w277 rfl rfl ⟨⟨by decide, by decide⟩, rfl⟩ ⟨(Nat.le_of_ble_eq_true rfl), (Nat.le_of_ble_eq_true rfl)⟩ rfl hl.1 rfl (Nat.le_of_ble_eq_true rfl) d_V_flush_21 ⟨(show 0 + 0 + 5 ≤ 6 by omega), (show 0 + 0 + (8 + (3 * x.hsize + x.nser + 1)) ≤ 14 + (3 * x.hsize + x.nser + 1) by omega)⟩) hP hD hS hA (fun u4 mp H locs hp9 hP hD hS => ?_)
  obtain ⟨y5, O, T, V⟩ := u4
  have hP : va_P D vwCl (VW dA h ad y5) H := hP
  have hD : va_D A (VW dA h ad y5) := hD
  obtain ⟨f_ey_6, f_pc_7, f_l1_8, f_l2_9, f_l3_10, f_l4_11⟩ := hp9
  obtain ⟨hy, hsub⟩ := f_ey_6
  have hpc := f_pc_7
  obtain ⟨pl1, epl⟩ : ∃ z, z = y5.pl := ⟨_, rfl⟩
  rw [← epl] at hy hsub hpc
  subst hy
  have hP : va_P D vwCl (VW dA h ad (VS.s_pl x pl1)) H := hP
  have hD : va_D A (VW dA h ad (VS.s_pl x pl1)) := hD
  have hok : pcOk (mkP x.hsize O T V) := mkP_ok hhn f_l4_11
  have hps1 := psOk_m hsub hps
  have hb0 := hbl O T V f_l1_8 f_l2_9 f_l3_10
  refine lv_astore_n hx hb d_V_flush_24 rfl hl (by decide) rfl (fun ls hl => ?_)
  have hl : lv_has ls 4 [(1, .ref mp), (0, .ref h)] := hl
  refine lv_aload_n hx hb d_V_flush_25 rfl (lv_at hl 1 rfl) ?_
  refine jkI (wr := []) (rnV (As := []) (rest := []) hx hb hml hown hE hK (hN _ _ hS) hP hD (v_catalogBlocks l D dA H.size h ad (VS.s_pl x pl1) SS (knOk_m hsub hkn) (show x.nser ≤ 256 from by omega)) (q0 := 0) rfl rfl w1387 w1386 w1388 w1389 w277 rfl rfl ⟨⟨by decide, by decide⟩, rfl⟩ ⟨(Nat.le_of_ble_eq_true rfl), (Nat.le_of_ble_eq_true rfl)⟩ rfl hl.1 rfl (Nat.le_of_ble_eq_true rfl) d_V_flush_26 ⟨(show 0 + 0 + 5 + 0 ≤ 6 by omega), (show 0 + 0 + (8 + (3 * x.hsize + x.nser + 1)) + 0 ≤ 14 + (3 * x.hsize + x.nser + 1) by omega)⟩) hP hD hS hA (fun r12 u13 H locs hp9 hP hD hS => ?_)
  have hP : va_P D vwCl (VW dA h ad (VS.s_pl x pl1)) H := hP
  have hD : va_D A (VW dA h ad (VS.s_pl x pl1)) := hD
  replace hp9 : nI (ctG2 SS x.nser).1 = r12 := Eq.symm hp9
  subst hp9
  refine lv_istore_n hx hb d_V_flush_29 rfl hl (by decide) rfl (fun ls hl => ?_)
  have hl : lv_has ls 4 [(2, .int (nI (ctG2 SS x.nser).1)), (1, .ref mp), (0, .ref h)] := hl
  refine lv_aload_n hx hb d_V_flush_30 rfl (lv_at hl 1 rfl) ?_
  refine jkI (wr := []) (rnS (As := [.ref mp]) (rest := []) hx hb hml hown hE hK (hN _ _ hS) hP hD (v_blocksOf l D dA H.size (VW dA h ad (VS.s_pl x pl1)) mp (mkP x.hsize O T V) (isPc_m (fun _ hm => (plm hm)) hpc)) w1391 w1390 w1392 w277 rfl rfl ⟨⟨by decide, by decide⟩, rfl⟩ ⟨(Nat.le_of_ble_eq_true rfl), (Nat.le_of_ble_eq_true rfl)⟩ rfl hl.1 rfl (Nat.le_of_ble_eq_true rfl) d_V_flush_31 ⟨(show 0 + 0 + 5 + 0 + 0 ≤ 6 by omega), (show 0 + 0 + (8 + (3 * x.hsize + x.nser + 1)) + 0 + 0 ≤ 14 + (3 * x.hsize + x.nser + 1) by omega)⟩) hP hD hS hA (fun r14 u15 H locs hp9 hP hD hS => ?_)
  have hP : va_P D vwCl (VW dA h ad (VS.s_pl x pl1)) H := hP
  have hD : va_D A (VW dA h ad (VS.s_pl x pl1)) := hD
  replace hp9 : nI (mkP x.hsize O T V).bl = r14 := Eq.symm hp9
  subst hp9
  refine tpi (y := nI nb) (by rw [hb0]) ?_
  refine lv_iload_n hx hb d_V_flush_34 rfl (lv_at hl 0 rfl) ?_
  refine lv_iadd hx hb d_V_flush_35 (tpi (y := nI (nb + ((ctG2 SS x.nser).1))) (nI_add (nb) ((ctG2 SS x.nser).1)) ?_)
  refine lv_istore_n hx hb d_V_flush_36 rfl hl (by decide) rfl (fun ls hl => ?_)
  have hl : lv_has ls 4 [(3, .int (nI (nb + ((ctG2 SS x.nser).1)))), (2, .int (nI (ctG2 SS x.nser).1)), (1, .ref mp), (0, .ref h)] := hl
  refine lv_aload_n hx hb d_V_flush_37 rfl (lv_at hl 2 rfl) ?_
  refine lv_ifnull hx hb d_V_flush_38 ?_
  refine lv_aload_n hx hb d_V_flush_41 rfl (lv_at hl 3 rfl) ?_
  refine gF (v := .ref (ad 3)) hx hb hown hE hK hP 0 rfl rfl layV 11 (by decide) w297 rfl d_V_flush_42 ?_
  refine gFN (v := .int (nI x.npc)) hx hb hown hE hK hP 17 rfl rfl layH 1 (by decide) w303 rfl d_V_flush_45 ?_
  refine lv_bipush (v := 32) hx hb d_V_flush_48 (by decide) ?_
  refine lv_icmp_ge hx hb d_V_flush_50 (tgt := 61) rfl (fun h9 => absurd h9 (mt (nI_leI (a := 32) (b := x.npc) (by omega) (by omega)).mp (Nat.not_le.mpr hp32))) (fun _ => ?_)
  have fe : x.fr PS = x.diskBlocks - 2 - x.jlimit - (x.ncat + sumN x.npc (blN PS)) := rfl
  refine lv_iload_n hx hb d_V_flush_53 rfl (lv_at hl 0 rfl) ?_
  refine lv_aload_n hx hb d_V_flush_54 rfl (lv_at hl 3 rfl) ?_
  refine jkI (wr := []) (rnV (As := []) (rest := [.int (nI (nb + ((ctG2 SS x.nser).1)))]) hx hb hml hown hE hK (hN _ _ hS) hP hD (v_freeBlocks l D dA H.size h ad (VS.s_pl x pl1) PS hps1 (show x.npc ≤ 32 from by omega) hfr) (q0 := 0) rfl rfl w644 w643 w645 w646 w277 rfl rfl ⟨⟨by decide, by decide⟩, rfl⟩ ⟨(Nat.le_of_ble_eq_true rfl), (Nat.le_of_ble_eq_true rfl)⟩ rfl hl.1 rfl (Nat.le_of_ble_eq_true rfl) d_V_flush_55 ⟨(show 0 + 0 + 5 + 0 + 0 + 0 ≤ 6 by omega), (show 0 + 0 + (8 + (3 * x.hsize + x.nser + 1)) + 0 + 0 + 0 ≤ 14 + (3 * x.hsize + x.nser + 1) by omega)⟩) hP hD hS hA (fun r16 u17 H locs hp9 hP hD hS => ?_)
  have hP : va_P D vwCl (VW dA h ad (VS.s_pl x pl1)) H := hP
  have hD : va_D A (VW dA h ad (VS.s_pl x pl1)) := hD
  replace hp9 : nI (x.fr PS) = r16 := Eq.symm hp9
  subst hp9
  refine lv_icmp_le hx hb d_V_flush_58 (tgt := 69) rfl (fun g18 => ?_) (fun g18 => ?_)
  rotate_left
  · have g18 := mt (nI_leI (a := nb + ((ctG2 SS x.nser).1)) (b := x.fr PS) (by omega) (by omega)).mpr g18; exfalso; omega
  have g18 := (nI_leI (a := nb + ((ctG2 SS x.nser).1)) (b := x.fr PS) (by omega) (by omega)).mp g18
  refine lv_aload_n hx hb d_V_flush_69 rfl (lv_at hl 3 rfl) ?_
  refine lv_iload_n hx hb d_V_flush_70 rfl (lv_at hl 0 rfl) ?_
  refine lv_iconst (v := 1) hx hb d_V_flush_71 (by decide) ?_
  refine lv_iadd hx hb d_V_flush_72 (tpi (y := nI ((nb + ((ctG2 SS x.nser).1)) + 1)) (nI_add (nb + ((ctG2 SS x.nser).1)) (1)) ?_)
  refine xfV (w1 := VW dA h ad (VS.s_pl (VS.s_writes (VS.s_cutLeft (VS.s_powered x false) (-1)) (x.writes + k0)) pl1)) (As := [.int (nI ((nb + ((ctG2 SS x.nser).1)) + 1))]) (rest := []) hx hb hml hown hE hK (hN _ _ hS) (v_writeBlocks_x l htr D dA H.size h ad (VS.s_pl x pl1) ((nb + ((ctG2 SS x.nser).1)) + 1) k0 (show ((nb + ((ctG2 SS x.nser).1)) + 1) < 2 ^ 31 from by omega) (show k0 < ((nb + ((ctG2 SS x.nser).1)) + 1) from by omega) hcz hc) (q0 := 0) rfl rfl w1394 w1393 w1395 w1396 w277 rfl rfl ⟨⟨by decide, by decide⟩, rfl⟩ ⟨(Nat.le_of_ble_eq_true rfl), (Nat.le_of_ble_eq_true rfl)⟩ rfl hl.1 rfl (Nat.le_of_ble_eq_true rfl) d_V_flush_73 ⟨(show 0 + 0 + 5 + 0 + 0 + 0 + 1 ≤ 6 by omega), (show 0 + 0 + (8 + (3 * x.hsize + x.nser + 1)) + 0 + 0 + 0 + 6 ≤ 14 + (3 * x.hsize + x.nser + 1) by omega)⟩ hP hD hS hA (fun xa19 ce H locs hP hD hS hce hcv hcl => ?_)
  have hP : va_P D vwCl (VW dA h ad (VS.s_pl (VS.s_writes (VS.s_cutLeft (VS.s_powered x false) (-1)) (x.writes + k0)) pl1)) H := hP
  have hD : va_D A (VW dA h ad (VS.s_pl (VS.s_writes (VS.s_cutLeft (VS.s_powered x false) (-1)) (x.writes + k0)) pl1)) := hD
  exact xOut hno hlk hce hcv hcl (fun t ht => xkE (VS.s_pl (VS.s_writes (VS.s_cutLeft (VS.s_powered x false) (-1)) (x.writes + k0)) pl1) ⟨rfl, hsub⟩ hP hD hS t (by rw [ht]; exact Nat.le_refl _) (fun q _ => by rw [ht])) hS.2.2 (show 0 + 0 + 5 + 0 + 0 + 0 + 1 ≤ 6 by omega) (show 0 + 0 + (8 + (3 * x.hsize + x.nser + 1)) + 0 + 0 + 0 + 6 ≤ 14 + (3 * x.hsize + x.nser + 1) by omega)
end
section
def rsAll (dA : Nat → ClassId) (ws : va_W) (rs : Nat → Option Nat) : Prop := ∀ q a : Nat, rs q = some a → ∃ S, isSer dA ws a S ∧ serOk S
theorem rsAll_up {dA : Nat → ClassId} {ws : va_W} {rs : Nat → Option Nat} {k : Nat} {o : Option Nat} (h : rsAll dA ws rs) (ho : ∀ a, o = some a → ∃ S, isSer dA ws a S ∧ serOk S) : rsAll dA ws (va_up rs k o) := by
  intro q a hq
  unfold va_up at hq
  split at hq
  · exact ho a hq
  · exact h q a hq
/-- a row put to another place -/
def TB.mv (t : TB) (r q : Nat) : TB := TB.s_ce (TB.s_th (TB.s_rs t (va_up t.rs q (t.rs r))) (va_up t.th q (t.th r))) (va_cpy t.ce t.ce (r * t.wi) (q * t.wi) t.wi)
def deG (t : TB) : Nat → Nat × TB
  | 0 => (0, t)
  | r + 1 => if (deG t r).2.th r = 0 then deG t r else ((deG t r).1 + 1, (deG t r).2.mv r (deG t r).1)
def TB.de (t : TB) : TB := TB.s_rc (deG t t.rc).2 (deG t t.rc).1
theorem deG_k (t : TB) : ∀ r, (deG t r).2.wi = t.wi ∧ (deG t r).2.rc = t.rc ∧ (deG t r).2.cN = t.cN ∧ (deG t r).1 ≤ r ∧ (deG t r).2.nm = t.nm ∧ (deG t r).2.nc = t.nc ∧ (deG t r).2.cA = t.cA
  | 0 => ⟨rfl, rfl, rfl, Nat.le_refl _, rfl, rfl, rfl⟩
  | r + 1 => by
    obtain ⟨h1, h2, h3, h4, h5, h6, h7⟩ := deG_k t r
    unfold deG
    split
    · exact ⟨h1, h2, h3, by omega, h5, h6, h7⟩
    · exact ⟨h1, h2, h3, by show (deG t r).1 + 1 ≤ r + 1; omega, h5, h6, h7⟩
theorem deG_rs {dA : Nat → ClassId} {ws : va_W} {t : TB} (h : rsAll dA ws t.rs) : ∀ r, rsAll dA ws (deG t r).2.rs
  | 0 => h
  | r + 1 => by
    have ih := deG_rs h r
    unfold deG
    split
    · exact ih
    · exact rsAll_up ih (fun a ha => ih r a ha)
def nsB (NL NR : Nat → List Int32) (k : Nat) : Bool := sameW (NL k) (NR k)
def namB (NL NR : Nat → List Int32) (n m : Nat) : Bool := decide (n = m) && allB n (nsB NL NR)
section QM
variable {p : Program} {l : Launch} {e : Env} {R : Room} {s : State} {m : MethodId} {args : Array Value} {below : List Frame} {meth : Method} {c : Code} {H : Heap} {locs : List Loc} {cells slots : Nat} {Q : State → Prop}
variable {D : va_G} {dA : Nat → ClassId} {A : Nat → Prop} {cc : ByteArray} {pc : Nat} {ls : Array Slot} {rest st0 : List Value} {ws : va_W} {a : Nat}
theorem nqldN (hx : p.tables.exec = Jvm.exec) (hb : c.code = cc) (hK : va_K D vwCl (arT dA) s) (hP : va_P D vwCl ws H) (q0 t0 : Nat) {cA : ClassId} {C : String} {n : Nat} {f : Nat → Option Nat} (ha : ws[q0]? = some (a, .inl (cA, n, .inr (.inr (.inr (.inr f)))))) (ht : (arT dA)[t0]? = some (cA, .object C)) (j : Nat) (hj : j < n) (hn : n < 2 ^ 31) (hf : f j = none) (hdg : decode cc pc = .ok (.aaload, 1))
    (kk : W p l e R s m args below meth c H locs cells slots Q (F0 m (pc + 1) ls (.null :: rest))) : W p l e R s m args below meth c H locs cells slots Q (F0 m pc ls (.int (nI j) :: .ref a :: rest)) :=
  va_aldq hx hb hK hP q0 t0 ha ht (vp_in_nI hj hn) hdg (by rw [nI_clamp (by omega), hf]; exact kk)
end QM
/-- the place of a row in a sorted table, by halves -/
def bsG (lt : Nat → Bool) (rc : Nat) : Nat → Nat → Nat → Nat
  | 0, _, b => b
  | f + 1, st, b => bsG lt rc f (st / 2) (if b + st ≤ rc ∧ lt (b + st - 1) = true then b + st else b)
theorem mul_le_of {a b c n : Nat} (h : a < b) (hb : b * c ≤ n) : a * c + c ≤ n := by
  have := Nat.mul_le_mul_right c (show a + 1 ≤ b from h)
  rw [Nat.succ_mul] at this
  omega
theorem opt_c (o : Option Nat) : o = none ∨ ∃ a, o = some a := by
  cases o with
  | none => exact Or.inl rfl
  | some a => exact Or.inr ⟨a, rfl⟩
theorem jl_in {g a n w : Nat} (h : g ≤ a) (hw : w < n) : a * n + w < g * n ∨ g * n + w ≤ a * n + w := by
  have := Nat.mul_le_mul_right n h
  omega
theorem d_T_moveRow_0 : decode prog_11_method_15_code 0 = .ok (.aload_n 0, 1) := by decide +kernel
theorem d_T_moveRow_1 : decode prog_11_method_15_code 1 = .ok (.getfield 19, 3) := by decide +kernel
theorem d_T_moveRow_4 : decode prog_11_method_15_code 4 = .ok (.iload_n 2, 1) := by decide +kernel
theorem d_T_moveRow_5 : decode prog_11_method_15_code 5 = .ok (.aload_n 0, 1) := by decide +kernel
theorem d_T_moveRow_6 : decode prog_11_method_15_code 6 = .ok (.getfield 19, 3) := by decide +kernel
theorem d_T_moveRow_9 : decode prog_11_method_15_code 9 = .ok (.iload_n 1, 1) := by decide +kernel
theorem d_T_moveRow_10 : decode prog_11_method_15_code 10 = .ok (.aaload, 1) := by decide +kernel
theorem d_T_moveRow_11 : decode prog_11_method_15_code 11 = .ok (.aastore, 1) := by decide +kernel
theorem d_T_moveRow_12 : decode prog_11_method_15_code 12 = .ok (.aload_n 0, 1) := by decide +kernel
theorem d_T_moveRow_13 : decode prog_11_method_15_code 13 = .ok (.getfield 23, 3) := by decide +kernel
theorem d_T_moveRow_16 : decode prog_11_method_15_code 16 = .ok (.iload_n 2, 1) := by decide +kernel
theorem d_T_moveRow_17 : decode prog_11_method_15_code 17 = .ok (.aload_n 0, 1) := by decide +kernel
theorem d_T_moveRow_18 : decode prog_11_method_15_code 18 = .ok (.getfield 23, 3) := by decide +kernel
theorem d_T_moveRow_21 : decode prog_11_method_15_code 21 = .ok (.iload_n 1, 1) := by decide +kernel
theorem d_T_moveRow_22 : decode prog_11_method_15_code 22 = .ok (.laload, 1) := by decide +kernel
theorem d_T_moveRow_23 : decode prog_11_method_15_code 23 = .ok (.lastore, 1) := by decide +kernel
theorem d_T_moveRow_24 : decode prog_11_method_15_code 24 = .ok (.aload_n 0, 1) := by decide +kernel
theorem d_T_moveRow_25 : decode prog_11_method_15_code 25 = .ok (.getfield 27, 3) := by decide +kernel
theorem d_T_moveRow_28 : decode prog_11_method_15_code 28 = .ok (.iload_n 1, 1) := by decide +kernel
theorem d_T_moveRow_29 : decode prog_11_method_15_code 29 = .ok (.aload_n 0, 1) := by decide +kernel
theorem d_T_moveRow_30 : decode prog_11_method_15_code 30 = .ok (.getfield 30, 3) := by decide +kernel
theorem d_T_moveRow_33 : decode prog_11_method_15_code 33 = .ok (.imul, 1) := by decide +kernel
theorem d_T_moveRow_34 : decode prog_11_method_15_code 34 = .ok (.aload_n 0, 1) := by decide +kernel
theorem d_T_moveRow_35 : decode prog_11_method_15_code 35 = .ok (.getfield 27, 3) := by decide +kernel
theorem d_T_moveRow_38 : decode prog_11_method_15_code 38 = .ok (.iload_n 2, 1) := by decide +kernel
theorem d_T_moveRow_39 : decode prog_11_method_15_code 39 = .ok (.aload_n 0, 1) := by decide +kernel
theorem d_T_moveRow_40 : decode prog_11_method_15_code 40 = .ok (.getfield 30, 3) := by decide +kernel
theorem d_T_moveRow_43 : decode prog_11_method_15_code 43 = .ok (.imul, 1) := by decide +kernel
theorem d_T_moveRow_44 : decode prog_11_method_15_code 44 = .ok (.aload_n 0, 1) := by decide +kernel
theorem d_T_moveRow_45 : decode prog_11_method_15_code 45 = .ok (.getfield 30, 3) := by decide +kernel
theorem d_T_moveRow_48 : decode prog_11_method_15_code 48 = .ok (.invokestatic 83, 3) := by decide +kernel
theorem d_T_moveRow_51 : decode prog_11_method_15_code 51 = .ok (.return_, 1) := by decide +kernel
theorem w1407 : Cond.methodLink "SeriesVault$Table" 83 ⟨"java/lang/System", "arraycopy", "(Ljava/lang/Object;ILjava/lang/Object;II)V"⟩ ∈ aW := aw_of (tb_8 (List.mem_of_getElem? (i := 36) rfl)) rfl
set_option maxHeartbeats 4000000 in
set_option maxRecDepth 100000 in
theorem v_TmoveRow (l : Launch) (D : va_G) (dA : Nat → ClassId) (sz : Nat) (ws : va_W) (ta : Nat → Nat) (t : TB) (r : Nat) (q : Nat) (hN : t.cN ≤ 65536) (hrs : rsAll dA ws t.rs) (h1 : r < 256) (h2 : q < 256) (h3 : r * t.wi + t.wi ≤ t.cN) (h4 : q * t.wi + t.wi ≤ t.cN) : Met l ⟨"SeriesVault$Table", "moveRow", "(II)V"⟩ [Cond.code ⟨"SeriesVault$Table", "moveRow", "(II)V"⟩ prog_11_method_15_code 3 none] { frames := 1, cells := 0, slots := 0, locals := 40 } (pC D dA [.ref (ta 0), .int (nI r), .int (nI q)] (TbW dA ta t ++ (ws)) sz) (va_Qv (fun (u9 : Unit) => True) (fun (u9 : Unit) t9 => bW D (va_A (TbW dA ta t ++ (ws)) sz) (TbW dA ta (TB.s_ce (TB.s_th (TB.s_rs t (va_up t.rs q (t.rs r))) (va_up t.th q (t.th r))) (va_cpy t.ce t.ce (r * t.wi) (q * t.wi) t.wi)) ++ (ws)) t9) (va_A (TbW dA ta t ++ (ws)) sz)) 0 0 (va_A (TbW dA ta t ++ (ws)) sz) := by
  refine mkC (y := ⟨"SeriesVault$Table", "moveRow", "(II)V"⟩) (cc := prog_11_method_15_code) (maxL := 3) (av := [.ref (ta 0), .int (nI r), .int (nI q)]) (ws := TbW dA ta t ++ (ws)) (sz := sz) (Qc := fun A => va_Qv (fun (u9 : Unit) => True) (fun (u9 : Unit) t9 => bW D A (TbW dA ta (TB.s_ce (TB.s_th (TB.s_rs t (va_up t.rs q (t.rs r))) (va_up t.th q (t.th r))) (va_cpy t.ce t.ce (r * t.wi) (q * t.wi) t.wi)) ++ (ws)) t9) A) (by decide) (Nat.le_of_ble_eq_true rfl) ?_
  intro A p e s m below meth c ls hsz hB
  obtain ⟨hx, hb, hr, hml, hown, hin, hlk, hE, hK, hP, hD, hS, hA, hN, hl⟩ := hB
  have hown : s.vm.findClass "SeriesVault$Table" = some m.cls := hown
  have hl : lv_has ls 3 [(0, .ref (ta 0)), (1, .int (nI r)), (2, .int (nI q))] := hl
  obtain ⟨H, hH⟩ : ∃ z, z = s.heap := ⟨_, rfl⟩
  have hP : va_P D vwCl (TbW dA ta t ++ (ws)) H := by rw [hH]; exact hP
  have hS : va_S A s.heap H [] := by rw [hH]; exact hS
  rw [← hH]
  rcases opt_c (t.rs r) with hr1 | ⟨a1, hr1⟩
  · refine lv_aload_n hx hb d_T_moveRow_0 rfl (lv_at hl 0 rfl) ?_
    refine gF (v := .ref (ta 2)) hx hb hown hE hK hP 0 rfl rfl layT 4 (by decide) w787 rfl d_T_moveRow_1 ?_
    refine lv_iload_n hx hb d_T_moveRow_4 rfl (lv_at hl 2 rfl) ?_
    refine lv_aload_n hx hb d_T_moveRow_5 rfl (lv_at hl 0 rfl) ?_
    refine gF (v := .ref (ta 2)) hx hb hown hE hK hP 0 rfl rfl layT 4 (by decide) w787 rfl d_T_moveRow_6 ?_
    refine lv_iload_n hx hb d_T_moveRow_9 rfl (lv_at hl 1 rfl) ?_
    refine nqldN (f := t.rs) (n := 256) hx hb hK hP (2) 5 rfl rfl (r) (by omega) (by decide) hr1 d_T_moveRow_10 ?_
    refine nqstN (f := t.rs) (n := 256) hx hb hK hP hD hS (2) 5 rfl rfl (q) (by omega) (by decide) d_T_moveRow_11 (fun H locs hP hD hS => ?_)
    have hP : va_P D vwCl (TbW dA ta (TB.s_rs t (va_up t.rs q none)) ++ (ws)) H := hP
    have hD : va_D A (TbW dA ta (TB.s_rs t (va_up t.rs q none)) ++ (ws)) := hD
    refine lv_aload_n hx hb d_T_moveRow_12 rfl (lv_at hl 0 rfl) ?_
    refine gF (v := .ref (ta 3)) hx hb hown hE hK hP 0 rfl rfl layT 5 (by decide) w788 rfl d_T_moveRow_13 ?_
    refine lv_iload_n hx hb d_T_moveRow_16 rfl (lv_at hl 2 rfl) ?_
    refine lv_aload_n hx hb d_T_moveRow_17 rfl (lv_at hl 0 rfl) ?_
    refine gF (v := .ref (ta 3)) hx hb hown hE hK hP 0 rfl rfl layT 5 (by decide) w788 rfl d_T_moveRow_18 ?_
    refine lv_iload_n hx hb d_T_moveRow_21 rfl (lv_at hl 1 rfl) ?_
    refine nlld (f := t.th) (n := 256) hx hb hK hP (3) 2 rfl rfl (r) (by omega) (by decide) d_T_moveRow_22 ?_
    refine nlst (n := 256) hx hb hK hP hD hS (3) 2 rfl rfl (q) (by omega) (by decide) d_T_moveRow_23 (fun H locs hP hD hS => ?_)
    have hP : va_P D vwCl (TbW dA ta (TB.s_th (TB.s_rs t (va_up t.rs q none)) (va_up t.th q (t.th r))) ++ (ws)) H := hP
    have hD : va_D A (TbW dA ta (TB.s_th (TB.s_rs t (va_up t.rs q none)) (va_up t.th q (t.th r))) ++ (ws)) := hD
    refine lv_aload_n hx hb d_T_moveRow_24 rfl (lv_at hl 0 rfl) ?_
    refine gF (v := .ref t.cA) hx hb hown hE hK hP 0 rfl rfl layT 6 (by decide) w789 rfl d_T_moveRow_25 ?_
    refine lv_iload_n hx hb d_T_moveRow_28 rfl (lv_at hl 1 rfl) ?_
    refine lv_aload_n hx hb d_T_moveRow_29 rfl (lv_at hl 0 rfl) ?_
    refine gF (v := .int (nI t.wi)) hx hb hown hE hK hP 0 rfl rfl layT 2 (by decide) w1367 rfl d_T_moveRow_30 ?_
    refine lv_imul hx hb d_T_moveRow_33 (tpi (y := nI (r * t.wi)) (pk_mul (r) (t.wi)) ?_)
    refine lv_aload_n hx hb d_T_moveRow_34 rfl (lv_at hl 0 rfl) ?_
    refine gF (v := .ref t.cA) hx hb hown hE hK hP 0 rfl rfl layT 6 (by decide) w789 rfl d_T_moveRow_35 ?_
    refine lv_iload_n hx hb d_T_moveRow_38 rfl (lv_at hl 2 rfl) ?_
    refine lv_aload_n hx hb d_T_moveRow_39 rfl (lv_at hl 0 rfl) ?_
    refine gF (v := .int (nI t.wi)) hx hb hown hE hK hP 0 rfl rfl layT 2 (by decide) w1367 rfl d_T_moveRow_40 ?_
    refine lv_imul hx hb d_T_moveRow_43 (tpi (y := nI (q * t.wi)) (pk_mul (q) (t.wi)) ?_)
    refine lv_aload_n hx hb d_T_moveRow_44 rfl (lv_at hl 0 rfl) ?_
    refine gF (v := .int (nI t.wi)) hx hb hown hE hK hP 0 rfl rfl layT 2 (by decide) w1367 rfl d_T_moveRow_45 ?_
    refine ncpyl (f := t.ce) (g := t.ce) (n0 := t.cN) (n1 := t.cN) hx hb (hml.trans hl.1.symm) hown (hE.t w1407 rfl) (hE.t w720 rfl) (hE.t w721 rfl) (hE.t w722 rfl) hK hP hD hS (4) (4) 2 rfl rfl rfl rfl (r * t.wi) (q * t.wi) (t.wi) (by omega) (by omega) (by omega) (by omega) (by omega) (fun _ _ => rfl) (Nat.le_of_ble_eq_true rfl) (Nat.le_of_ble_eq_true rfl) d_T_moveRow_48 (fun H locs hP hD hS => ?_)
    have hP : va_P D vwCl (TbW dA ta (TB.s_ce (TB.s_th (TB.s_rs t (va_up t.rs q none)) (va_up t.th q (t.th r))) (va_cpy t.ce t.ce (r * t.wi) (q * t.wi) t.wi)) ++ (ws)) H := hP
    have hD : va_D A (TbW dA ta (TB.s_ce (TB.s_th (TB.s_rs t (va_up t.rs q none)) (va_up t.th q (t.th r))) (va_cpy t.ce t.ce (r * t.wi) (q * t.wi) t.wi)) ++ (ws)) := hD
    have e9 : (TB.s_ce (TB.s_th (TB.s_rs t (va_up t.rs q none)) (va_up t.th q (t.th r))) (va_cpy t.ce t.ce (r * t.wi) (q * t.wi) t.wi) : TB) = TB.s_ce (TB.s_th (TB.s_rs t (va_up t.rs q (t.rs r))) (va_up t.th q (t.th r))) (va_cpy t.ce t.ce (r * t.wi) (q * t.wi) t.wi) := by rw [show (va_up t.rs q (t.rs r)) = (va_up t.rs q none) from by (rw [hr1])] <;> rfl
    rw [e9] at hP hD
    exact rfV hx hb hr hlk hS () trivial hP hD (Nat.le_of_ble_eq_true rfl) (Nat.le_of_ble_eq_true rfl) d_T_moveRow_51
  · refine lv_aload_n hx hb d_T_moveRow_0 rfl (lv_at hl 0 rfl) ?_
    obtain ⟨S1, hs1, ho1⟩ := hrs r a1 hr1
    obtain ⟨na1, va1, no1, tx1, fn1, fv1, j1, -⟩ := hs1
    refine gF (v := .ref (ta 2)) hx hb hown hE hK hP 0 rfl rfl layT 4 (by decide) w787 rfl d_T_moveRow_1 ?_
    refine lv_iload_n hx hb d_T_moveRow_4 rfl (lv_at hl 2 rfl) ?_
    refine lv_aload_n hx hb d_T_moveRow_5 rfl (lv_at hl 0 rfl) ?_
    refine gF (v := .ref (ta 2)) hx hb hown hE hK hP 0 rfl rfl layT 4 (by decide) w787 rfl d_T_moveRow_6 ?_
    refine lv_iload_n hx hb d_T_moveRow_9 rfl (lv_at hl 1 rfl) ?_
    refine nqld (f := t.rs) (n := 256) hx hb hK hP (2) 5 rfl rfl (r) (by omega) (by decide) hr1 d_T_moveRow_10 ?_
    obtain ⟨qp1, ep2⟩ := List.getElem?_of_mem (show ((a1, .inr (11, [.ref na1, .ref va1, .ref no1, .ref tx1])) : Nat × va_E) ∈ TbW dA ta t ++ (ws) from (List.mem_append_right _ j1))
    refine nqst (r := ("SeriesVault$Series", TS, 4)) (f := t.rs) (n := 256) hx hb hK hP hD hS (2) 5 (qp1) 11 rfl rfl ep2 rfl (q) (by omega) (by decide) d_T_moveRow_11 (fun H locs hP hD hS => ?_)
    have hP : va_P D vwCl (TbW dA ta (TB.s_rs t (va_up t.rs q (some a1))) ++ (ws)) H := hP
    have hD : va_D A (TbW dA ta (TB.s_rs t (va_up t.rs q (some a1))) ++ (ws)) := hD
    refine lv_aload_n hx hb d_T_moveRow_12 rfl (lv_at hl 0 rfl) ?_
    refine gF (v := .ref (ta 3)) hx hb hown hE hK hP 0 rfl rfl layT 5 (by decide) w788 rfl d_T_moveRow_13 ?_
    refine lv_iload_n hx hb d_T_moveRow_16 rfl (lv_at hl 2 rfl) ?_
    refine lv_aload_n hx hb d_T_moveRow_17 rfl (lv_at hl 0 rfl) ?_
    refine gF (v := .ref (ta 3)) hx hb hown hE hK hP 0 rfl rfl layT 5 (by decide) w788 rfl d_T_moveRow_18 ?_
    refine lv_iload_n hx hb d_T_moveRow_21 rfl (lv_at hl 1 rfl) ?_
    refine nlld (f := t.th) (n := 256) hx hb hK hP (3) 2 rfl rfl (r) (by omega) (by decide) d_T_moveRow_22 ?_
    refine nlst (n := 256) hx hb hK hP hD hS (3) 2 rfl rfl (q) (by omega) (by decide) d_T_moveRow_23 (fun H locs hP hD hS => ?_)
    have hP : va_P D vwCl (TbW dA ta (TB.s_th (TB.s_rs t (va_up t.rs q (some a1))) (va_up t.th q (t.th r))) ++ (ws)) H := hP
    have hD : va_D A (TbW dA ta (TB.s_th (TB.s_rs t (va_up t.rs q (some a1))) (va_up t.th q (t.th r))) ++ (ws)) := hD
    refine lv_aload_n hx hb d_T_moveRow_24 rfl (lv_at hl 0 rfl) ?_
    refine gF (v := .ref t.cA) hx hb hown hE hK hP 0 rfl rfl layT 6 (by decide) w789 rfl d_T_moveRow_25 ?_
    refine lv_iload_n hx hb d_T_moveRow_28 rfl (lv_at hl 1 rfl) ?_
    refine lv_aload_n hx hb d_T_moveRow_29 rfl (lv_at hl 0 rfl) ?_
    refine gF (v := .int (nI t.wi)) hx hb hown hE hK hP 0 rfl rfl layT 2 (by decide) w1367 rfl d_T_moveRow_30 ?_
    refine lv_imul hx hb d_T_moveRow_33 (tpi (y := nI (r * t.wi)) (pk_mul (r) (t.wi)) ?_)
    refine lv_aload_n hx hb d_T_moveRow_34 rfl (lv_at hl 0 rfl) ?_
    refine gF (v := .ref t.cA) hx hb hown hE hK hP 0 rfl rfl layT 6 (by decide) w789 rfl d_T_moveRow_35 ?_
    refine lv_iload_n hx hb d_T_moveRow_38 rfl (lv_at hl 2 rfl) ?_
    refine lv_aload_n hx hb d_T_moveRow_39 rfl (lv_at hl 0 rfl) ?_
    refine gF (v := .int (nI t.wi)) hx hb hown hE hK hP 0 rfl rfl layT 2 (by decide) w1367 rfl d_T_moveRow_40 ?_
    refine lv_imul hx hb d_T_moveRow_43 (tpi (y := nI (q * t.wi)) (pk_mul (q) (t.wi)) ?_)
    refine lv_aload_n hx hb d_T_moveRow_44 rfl (lv_at hl 0 rfl) ?_
    refine gF (v := .int (nI t.wi)) hx hb hown hE hK hP 0 rfl rfl layT 2 (by decide) w1367 rfl d_T_moveRow_45 ?_
    refine ncpyl (f := t.ce) (g := t.ce) (n0 := t.cN) (n1 := t.cN) hx hb (hml.trans hl.1.symm) hown (hE.t w1407 rfl) (hE.t w720 rfl) (hE.t w721 rfl) (hE.t w722 rfl) hK hP hD hS (4) (4) 2 rfl rfl rfl rfl (r * t.wi) (q * t.wi) (t.wi) (by omega) (by omega) (by omega) (by omega) (by omega) (fun _ _ => rfl) (Nat.le_of_ble_eq_true rfl) (Nat.le_of_ble_eq_true rfl) d_T_moveRow_48 (fun H locs hP hD hS => ?_)
    have hP : va_P D vwCl (TbW dA ta (TB.s_ce (TB.s_th (TB.s_rs t (va_up t.rs q (some a1))) (va_up t.th q (t.th r))) (va_cpy t.ce t.ce (r * t.wi) (q * t.wi) t.wi)) ++ (ws)) H := hP
    have hD : va_D A (TbW dA ta (TB.s_ce (TB.s_th (TB.s_rs t (va_up t.rs q (some a1))) (va_up t.th q (t.th r))) (va_cpy t.ce t.ce (r * t.wi) (q * t.wi) t.wi)) ++ (ws)) := hD
    have e9 : (TB.s_ce (TB.s_th (TB.s_rs t (va_up t.rs q (some a1))) (va_up t.th q (t.th r))) (va_cpy t.ce t.ce (r * t.wi) (q * t.wi) t.wi) : TB) = TB.s_ce (TB.s_th (TB.s_rs t (va_up t.rs q (t.rs r))) (va_up t.th q (t.th r))) (va_cpy t.ce t.ce (r * t.wi) (q * t.wi) t.wi) := by rw [show (va_up t.rs q (t.rs r)) = (va_up t.rs q (some a1)) from by (rw [hr1])] <;> rfl
    rw [e9] at hP hD
    exact rfV hx hb hr hlk hS () trivial hP hD (Nat.le_of_ble_eq_true rfl) (Nat.le_of_ble_eq_true rfl) d_T_moveRow_51
theorem d_T_dropEmptyRows_0 : decode prog_11_method_14_code 0 = .ok (.iconst 0, 1) := by decide +kernel
theorem d_T_dropEmptyRows_1 : decode prog_11_method_14_code 1 = .ok (.istore_n 1, 1) := by decide +kernel
theorem d_T_dropEmptyRows_2 : decode prog_11_method_14_code 2 = .ok (.iconst 0, 1) := by decide +kernel
theorem d_T_dropEmptyRows_3 : decode prog_11_method_14_code 3 = .ok (.istore_n 2, 1) := by decide +kernel
theorem d_T_dropEmptyRows_4 : decode prog_11_method_14_code 4 = .ok (.iload_n 2, 1) := by decide +kernel
theorem d_T_dropEmptyRows_5 : decode prog_11_method_14_code 5 = .ok (.aload_n 0, 1) := by decide +kernel
theorem d_T_dropEmptyRows_6 : decode prog_11_method_14_code 6 = .ok (.getfield 37, 3) := by decide +kernel
theorem d_T_dropEmptyRows_9 : decode prog_11_method_14_code 9 = .ok (.if_icmp .ge 29, 3) := by decide +kernel
theorem d_T_dropEmptyRows_38 : decode prog_11_method_14_code 38 = .ok (.aload_n 0, 1) := by decide +kernel
theorem d_T_dropEmptyRows_39 : decode prog_11_method_14_code 39 = .ok (.iload_n 1, 1) := by decide +kernel
theorem d_T_dropEmptyRows_40 : decode prog_11_method_14_code 40 = .ok (.putfield 37, 3) := by decide +kernel
theorem d_T_dropEmptyRows_43 : decode prog_11_method_14_code 43 = .ok (.return_, 1) := by decide +kernel
theorem d_T_dropEmptyRows_12 : decode prog_11_method_14_code 12 = .ok (.aload_n 0, 1) := by decide +kernel
theorem d_T_dropEmptyRows_13 : decode prog_11_method_14_code 13 = .ok (.getfield 23, 3) := by decide +kernel
theorem d_T_dropEmptyRows_16 : decode prog_11_method_14_code 16 = .ok (.iload_n 2, 1) := by decide +kernel
theorem d_T_dropEmptyRows_17 : decode prog_11_method_14_code 17 = .ok (.laload, 1) := by decide +kernel
theorem d_T_dropEmptyRows_18 : decode prog_11_method_14_code 18 = .ok (.lconst 0, 1) := by decide +kernel
theorem d_T_dropEmptyRows_19 : decode prog_11_method_14_code 19 = .ok (.lcmp, 1) := by decide +kernel
theorem d_T_dropEmptyRows_20 : decode prog_11_method_14_code 20 = .ok (.ifCond .eq 12, 3) := by decide +kernel
theorem d_T_dropEmptyRows_32 : decode prog_11_method_14_code 32 = .ok (.iinc 2 1, 3) := by decide +kernel
theorem d_T_dropEmptyRows_35 : decode prog_11_method_14_code 35 = .ok (.goto (-31), 3) := by decide +kernel
theorem d_T_dropEmptyRows_23 : decode prog_11_method_14_code 23 = .ok (.aload_n 0, 1) := by decide +kernel
theorem d_T_dropEmptyRows_24 : decode prog_11_method_14_code 24 = .ok (.iload_n 2, 1) := by decide +kernel
theorem d_T_dropEmptyRows_25 : decode prog_11_method_14_code 25 = .ok (.iload_n 1, 1) := by decide +kernel
theorem d_T_dropEmptyRows_26 : decode prog_11_method_14_code 26 = .ok (.invokevirtual 79, 3) := by decide +kernel
theorem d_T_dropEmptyRows_29 : decode prog_11_method_14_code 29 = .ok (.iinc 1 1, 3) := by decide +kernel
theorem w1408 : Cond.methodLink "SeriesVault$Table" 79 ⟨"SeriesVault$Table", "moveRow", "(II)V"⟩ ∈ aW := aw_of (tb_8 (List.mem_of_getElem? (i := 32) rfl)) rfl
theorem w1409 : Cond.code ⟨"SeriesVault$Table", "moveRow", "(II)V"⟩ prog_11_method_15_code 3 none ∈ aW := aw_of (tb_8 (List.mem_of_getElem? (i := 35) rfl)) rfl
theorem w1410 : Cond.instanceMethod ⟨"SeriesVault$Table", "moveRow", "(II)V"⟩ ∈ aW := aw_of (tb_8 (List.mem_of_getElem? (i := 34) rfl)) rfl
theorem w1411 : Cond.selects "SeriesVault$Table" ⟨"SeriesVault$Table", "moveRow", "(II)V"⟩ ⟨"SeriesVault$Table", "moveRow", "(II)V"⟩ ∈ aW := aw_pr (List.mem_map.mpr ⟨_, pv_4 (List.mem_of_getElem? (i := 13) rfl), rfl⟩) rfl
set_option maxHeartbeats 4000000 in
set_option maxRecDepth 100000 in
theorem v_TdropEmptyRows (l : Launch) (D : va_G) (dA : Nat → ClassId) (sz : Nat) (ws : va_W) (ta : Nat → Nat) (t : TB) (hN : t.cN ≤ 65536) (hrs : rsAll dA ws t.rs) (h1 : t.rc * t.wi ≤ t.cN) (h2 : t.rc ≤ 256) : Met l ⟨"SeriesVault$Table", "dropEmptyRows", "()V"⟩ [Cond.code ⟨"SeriesVault$Table", "dropEmptyRows", "()V"⟩ prog_11_method_14_code 3 none] { frames := 2, cells := 0, slots := 0, locals := 62 } (pC D dA [.ref (ta 0)] (TbW dA ta t ++ (ws)) sz) (va_Qv (fun (u9 : TB) => u9 = t.de) (fun (u9 : TB) t9 => bW D (va_A (TbW dA ta t ++ (ws)) sz) (TbW dA ta u9 ++ (ws)) t9) (va_A (TbW dA ta t ++ (ws)) sz)) 0 0 (va_A (TbW dA ta t ++ (ws)) sz) := by
  refine mkC (y := ⟨"SeriesVault$Table", "dropEmptyRows", "()V"⟩) (cc := prog_11_method_14_code) (maxL := 3) (av := [.ref (ta 0)]) (ws := TbW dA ta t ++ (ws)) (sz := sz) (Qc := fun A => va_Qv (fun (u9 : TB) => u9 = t.de) (fun (u9 : TB) t9 => bW D A (TbW dA ta u9 ++ (ws)) t9) A) (by decide) (Nat.le_of_ble_eq_true rfl) ?_
  intro A p e s m below meth c ls hsz hB
  obtain ⟨hx, hb, hr, hml, hown, hin, hlk, hE, hK, hP, hD, hS, hA, hN, hl⟩ := hB
  have hown : s.vm.findClass "SeriesVault$Table" = some m.cls := hown
  have hl : lv_has ls 3 [(0, .ref (ta 0))] := hl
  obtain ⟨H, hH⟩ : ∃ z, z = s.heap := ⟨_, rfl⟩
  have hP : va_P D vwCl (TbW dA ta t ++ (ws)) H := by rw [hH]; exact hP
  have hS : va_S A s.heap H [] := by rw [hH]; exact hS
  rw [← hH]
  refine lv_iconst (v := 0) hx hb d_T_dropEmptyRows_0 (by decide) ?_
  refine lv_istore_n hx hb d_T_dropEmptyRows_1 rfl hl (by decide) rfl (fun ls hl => ?_)
  have hl : lv_has ls 3 [(1, .int 0), (0, .ref (ta 0))] := hl
  refine lv_iconst (v := 0) hx hb d_T_dropEmptyRows_2 (by decide) ?_
  refine lv_istore_n hx hb d_T_dropEmptyRows_3 rfl hl (by decide) rfl (fun ls hl => ?_)
  have hl : lv_has ls 3 [(2, .int 0), (1, .int 0), (0, .ref (ta 0))] := hl
  have L4 : ∀ (k9 : Nat) (i : Nat) (n : Nat) (z : TB) (i1 : i ≤ t.rc) (ez : (n, z) = deG t i) (hk9 : t.rc - i = k9), ∀ (H : Heap) (locs : List Loc) (ls : Array Slot) (hP : va_P D vwCl (TbW dA ta z ++ (ws)) H) (hD : va_D A (TbW dA ta z ++ (ws))) (hS : va_S A s.heap H locs) (hl : lv_has ls 3 [(2, .int (nI i)), (1, .int (nI n)), (0, .ref (ta 0))]), W p l e ({ frames := 2, cells := 0, slots := 0, locals := 62 } : Room) s m ([.ref (ta 0)] : List Value).toArray below meth c H locs 0 0 (MQ below (va_Qv (fun (u9 : TB) => u9 = t.de) (fun (u9 : TB) t9 => bW D A (TbW dA ta u9 ++ (ws)) t9) A) ([.ref (ta 0)] : List Value).toArray s 0 0 A) (F0 m 4 ls []) := by
    intro k9
    induction k9 using Nat.strongRecOn with
    | ind k9 ih4 =>
      intro i n z i1 ez hk9 H locs ls hP hD hS hl
      have dk := deG_k t i
      rw [← ez] at dk
      obtain ⟨k1, k2, k3, k4, k5, k6, k7⟩ := dk
      have k1 : z.wi = t.wi := k1
      have k2 : z.rc = t.rc := k2
      have k3 : z.cN = t.cN := k3
      have k4 : n ≤ i := k4
      have zr : rsAll dA ws z.rs := by have := deG_rs hrs i; rw [← ez] at this; exact this
      refine lv_iload_n hx hb d_T_dropEmptyRows_4 rfl (lv_at hl 0 rfl) ?_
      refine lv_aload_n hx hb d_T_dropEmptyRows_5 rfl (lv_at hl 2 rfl) ?_
      refine gF (v := .int (nI z.rc)) hx hb hown hE hK hP 0 rfl rfl layT 3 (by decide) w1368 rfl d_T_dropEmptyRows_6 ?_
      refine lv_icmp_ge hx hb d_T_dropEmptyRows_9 (tgt := 38) rfl (fun g1 => ?_) (fun g1 => ?_)
      · have g1 := (nI_leI (a := z.rc) (b := i) (by omega) (by omega)).mp g1
        refine lv_aload_n hx hb d_T_dropEmptyRows_38 rfl (lv_at hl 2 rfl) ?_
        refine lv_iload_n hx hb d_T_dropEmptyRows_39 rfl (lv_at hl 1 rfl) ?_
        refine pF (v := .int (nI n)) hx hb hown hE hK hP hD hS 0 rfl rfl layT tyT tokT nmT 3 (by decide) w1368 rfl rfl rfl (Nat.le_of_ble_eq_true rfl) d_T_dropEmptyRows_40 (fun H locs hP hD hS => ?_)
        have hP : va_P D vwCl (TbW dA ta (TB.s_rc z n) ++ (ws)) H := hP
        have hD : va_D A (TbW dA ta (TB.s_rc z n) ++ (ws)) := hD
        exact rfV hx hb hr hlk hS (TB.s_rc z n) (by unfold TB.de; rw [← show i = t.rc by omega, ← ez]) hP hD (Nat.le_of_ble_eq_true rfl) (Nat.le_of_ble_eq_true rfl) d_T_dropEmptyRows_43
      · have g1 := mt (nI_leI (a := z.rc) (b := i) (by omega) (by omega)).mpr g1
        refine lv_aload_n hx hb d_T_dropEmptyRows_12 rfl (lv_at hl 2 rfl) ?_
        refine gF (v := .ref (ta 3)) hx hb hown hE hK hP 0 rfl rfl layT 5 (by decide) w788 rfl d_T_dropEmptyRows_13 ?_
        refine lv_iload_n hx hb d_T_dropEmptyRows_16 rfl (lv_at hl 0 rfl) ?_
        refine nlld (f := z.th) (n := 256) hx hb hK hP (3) 2 rfl rfl (i) (by omega) (by decide) d_T_dropEmptyRows_17 ?_
        refine lv_lconst (v := 0) hx hb d_T_dropEmptyRows_18 (by decide) ?_
        refine W.lcmp hx hb d_T_dropEmptyRows_19 ?_
        refine lv_if_eq hx hb d_T_dropEmptyRows_20 (tgt := 32) rfl (fun g2 => ?_) (fun g2 => ?_)
        · have g2 := (lg_cmp_eq _ _).mp g2
          refine lv_iinc (k := 0) (v := nI (i + 1)) hx hb d_T_dropEmptyRows_32 hl rfl (iincN (i) 1 1 (by decide)) (by decide) rfl (fun ls hl => ?_)
          have hl : lv_has ls 3 [(2, .int (nI (i + 1))), (1, .int (nI n)), (0, .ref (ta 0))] := hl
          refine lv_goto hx hb d_T_dropEmptyRows_35 (tgt := 4) rfl ?_
          exact ih4 _ (by omega) (i + 1) n z (by omega) (by show _ = if (deG t i).2.th i = 0 then _ else _; rw [← ez]; exact (if_pos g2).symm) rfl H _ ls hP hD hS (lv_sub hl [0, 1, 2] rfl)
        · have g2 := mt (lg_cmp_eq _ _).mpr g2
          refine lv_aload_n hx hb d_T_dropEmptyRows_23 rfl (lv_at hl 2 rfl) ?_
          refine lv_iload_n hx hb d_T_dropEmptyRows_24 rfl (lv_at hl 0 rfl) ?_
          refine lv_iload_n hx hb d_T_dropEmptyRows_25 rfl (lv_at hl 1 rfl) ?_
          refine jkV (wr := []) (rnV (As := [.int (nI i), .int (nI n)]) (rest := []) hx hb hml hown hE hK (hN _ _ hS) hP hD (v_TmoveRow l D dA H.size ws ta z i n (show z.cN ≤ 65536 from by omega) zr (show i < 256 from by omega) (show n < 256 from by omega) (by rw [k1, k3]; exact mul_le_of (show i < t.rc by omega) h1) (by rw [k1, k3]; exact mul_le_of (show n < t.rc by omega) h1)) (q0 := 0) rfl rfl w1409 w1408 w1410 w1411 w807 rfl rfl ⟨⟨by decide, by decide⟩, rfl⟩ ⟨(Nat.le_of_ble_eq_true rfl), (Nat.le_of_ble_eq_true rfl)⟩ rfl hl.1 rfl (Nat.le_of_ble_eq_true rfl) d_T_dropEmptyRows_26 ⟨(Nat.le_of_ble_eq_true rfl), (Nat.le_of_ble_eq_true rfl)⟩) hP hD hS hA (fun u4 H locs hp9 hP hD hS => ?_)
          have hP : va_P D vwCl (TbW dA ta (TB.s_ce (TB.s_th (TB.s_rs z (va_up z.rs n (z.rs i))) (va_up z.th n (z.th i))) (va_cpy z.ce z.ce (i * z.wi) (n * z.wi) z.wi)) ++ (ws)) H := hP
          have hD : va_D A (TbW dA ta (TB.s_ce (TB.s_th (TB.s_rs z (va_up z.rs n (z.rs i))) (va_up z.th n (z.th i))) (va_cpy z.ce z.ce (i * z.wi) (n * z.wi) z.wi)) ++ (ws)) := hD
          refine lv_iinc (k := 1) (v := nI (n + 1)) hx hb d_T_dropEmptyRows_29 hl rfl (iincN (n) 1 1 (by decide)) (by decide) rfl (fun ls hl => ?_)
          have hl : lv_has ls 3 [(1, .int (nI (n + 1))), (2, .int (nI i)), (0, .ref (ta 0))] := hl
          refine lv_iinc (k := 1) (v := nI (i + 1)) hx hb d_T_dropEmptyRows_32 hl rfl (iincN (i) 1 1 (by decide)) (by decide) rfl (fun ls hl => ?_)
          have hl : lv_has ls 3 [(2, .int (nI (i + 1))), (1, .int (nI (n + 1))), (0, .ref (ta 0))] := hl
          refine lv_goto hx hb d_T_dropEmptyRows_35 (tgt := 4) rfl ?_
          exact ih4 _ (by omega) (i + 1) (n + 1) (TB.s_ce (TB.s_th (TB.s_rs z (va_up z.rs n (z.rs i))) (va_up z.th n (z.th i))) (va_cpy z.ce z.ce (i * z.wi) (n * z.wi) z.wi)) (by omega) (by show _ = if (deG t i).2.th i = 0 then _ else _; rw [← ez]; exact (if_neg g2).symm) rfl H _ ls hP hD hS (lv_sub hl [0, 1, 2] rfl)
  exact L4 _ 0 0 t (Nat.zero_le _) rfl rfl H _ ls hP hD hS (lv_sub hl [0, 1, 2] rfl)
theorem d_T_hasNamesOf_0 : decode prog_11_method_16_code 0 = .ok (.aload_n 0, 1) := by decide +kernel
theorem d_T_hasNamesOf_1 : decode prog_11_method_16_code 1 = .ok (.getfield 34, 3) := by decide +kernel
theorem d_T_hasNamesOf_4 : decode prog_11_method_16_code 4 = .ok (.aload_n 1, 1) := by decide +kernel
theorem d_T_hasNamesOf_5 : decode prog_11_method_16_code 5 = .ok (.getfield 34, 3) := by decide +kernel
theorem d_T_hasNamesOf_8 : decode prog_11_method_16_code 8 = .ok (.if_icmp .eq 5, 3) := by decide +kernel
theorem d_T_hasNamesOf_13 : decode prog_11_method_16_code 13 = .ok (.iconst 0, 1) := by decide +kernel
theorem d_T_hasNamesOf_14 : decode prog_11_method_16_code 14 = .ok (.istore_n 2, 1) := by decide +kernel
theorem d_T_hasNamesOf_15 : decode prog_11_method_16_code 15 = .ok (.iload_n 2, 1) := by decide +kernel
theorem d_T_hasNamesOf_16 : decode prog_11_method_16_code 16 = .ok (.aload_n 0, 1) := by decide +kernel
theorem d_T_hasNamesOf_17 : decode prog_11_method_16_code 17 = .ok (.getfield 34, 3) := by decide +kernel
theorem d_T_hasNamesOf_20 : decode prog_11_method_16_code 20 = .ok (.if_icmp .ge 29, 3) := by decide +kernel
theorem d_T_hasNamesOf_49 : decode prog_11_method_16_code 49 = .ok (.iconst 1, 1) := by decide +kernel
theorem d_T_hasNamesOf_50 : decode prog_11_method_16_code 50 = .ok (.ireturn, 1) := by decide +kernel
theorem d_T_hasNamesOf_23 : decode prog_11_method_16_code 23 = .ok (.aload_n 0, 1) := by decide +kernel
theorem d_T_hasNamesOf_24 : decode prog_11_method_16_code 24 = .ok (.getfield 11, 3) := by decide +kernel
theorem d_T_hasNamesOf_27 : decode prog_11_method_16_code 27 = .ok (.iload_n 2, 1) := by decide +kernel
theorem d_T_hasNamesOf_28 : decode prog_11_method_16_code 28 = .ok (.aaload, 1) := by decide +kernel
theorem d_T_hasNamesOf_29 : decode prog_11_method_16_code 29 = .ok (.aload_n 1, 1) := by decide +kernel
theorem d_T_hasNamesOf_30 : decode prog_11_method_16_code 30 = .ok (.getfield 11, 3) := by decide +kernel
theorem d_T_hasNamesOf_33 : decode prog_11_method_16_code 33 = .ok (.iload_n 2, 1) := by decide +kernel
theorem d_T_hasNamesOf_34 : decode prog_11_method_16_code 34 = .ok (.aaload, 1) := by decide +kernel
theorem d_T_hasNamesOf_35 : decode prog_11_method_16_code 35 = .ok (.invokevirtual 89, 3) := by decide +kernel
theorem d_T_hasNamesOf_38 : decode prog_11_method_16_code 38 = .ok (.ifCond .ne 5, 3) := by decide +kernel
theorem d_T_hasNamesOf_43 : decode prog_11_method_16_code 43 = .ok (.iinc 2 1, 3) := by decide +kernel
theorem d_T_hasNamesOf_46 : decode prog_11_method_16_code 46 = .ok (.goto (-31), 3) := by decide +kernel
theorem d_T_hasNamesOf_41 : decode prog_11_method_16_code 41 = .ok (.iconst 0, 1) := by decide +kernel
theorem d_T_hasNamesOf_42 : decode prog_11_method_16_code 42 = .ok (.ireturn, 1) := by decide +kernel
theorem d_T_hasNamesOf_11 : decode prog_11_method_16_code 11 = .ok (.iconst 0, 1) := by decide +kernel
theorem d_T_hasNamesOf_12 : decode prog_11_method_16_code 12 = .ok (.ireturn, 1) := by decide +kernel
theorem w1412 : Cond.methodLink "SeriesVault$Table" 89 ⟨"SeriesVault$Word", "same", "(LSeriesVault$Word;)Z"⟩ ∈ aW := aw_of (tb_8 (List.mem_of_getElem? (i := 49) rfl)) rfl
set_option maxHeartbeats 4000000 in
set_option maxRecDepth 100000 in
theorem v_ThasNamesOf (l : Launch) (D : va_G) (dA : Nat → ClassId) (sz : Nat) (ws : va_W) (ta : Nat → Nat) (t : TB) (tb : Nat → Nat) (u : TB) (NL : Nat → List Int32) (NR : Nat → List Int32) (hna : nmOk dA ws t.nm t.nc NL) (hnb : nmOk dA ws u.nm u.nc NR) (h1 : t.nc ≤ 6) (h2 : u.nc ≤ 6) : Met l ⟨"SeriesVault$Table", "hasNamesOf", "(LSeriesVault$Table;)Z"⟩ [Cond.code ⟨"SeriesVault$Table", "hasNamesOf", "(LSeriesVault$Table;)Z"⟩ prog_11_method_16_code 3 (some FieldType.boolean)] { frames := 2, cells := 0, slots := 0, locals := 22 } (pC D dA [.ref (ta 0), .ref (tb 0)] (TbW dA ta t ++ (TbW dA tb u ++ (ws))) sz) (va_Qi (fun (r9 : Int32) (u9 : Unit) => r9 = bI (namB NL NR t.nc u.nc)) (fun (u9 : Unit) t9 => bW D (va_A (TbW dA ta t ++ (TbW dA tb u ++ (ws))) sz) (TbW dA ta t ++ (TbW dA tb u ++ (ws))) t9) (va_A (TbW dA ta t ++ (TbW dA tb u ++ (ws))) sz)) 0 0 (va_A (TbW dA ta t ++ (TbW dA tb u ++ (ws))) sz) := by
  refine mkC (y := ⟨"SeriesVault$Table", "hasNamesOf", "(LSeriesVault$Table;)Z"⟩) (cc := prog_11_method_16_code) (maxL := 3) (av := [.ref (ta 0), .ref (tb 0)]) (ws := TbW dA ta t ++ (TbW dA tb u ++ (ws))) (sz := sz) (Qc := fun A => va_Qi (fun (r9 : Int32) (u9 : Unit) => r9 = bI (namB NL NR t.nc u.nc)) (fun (u9 : Unit) t9 => bW D A (TbW dA ta t ++ (TbW dA tb u ++ (ws))) t9) A) (by decide) (Nat.le_of_ble_eq_true rfl) ?_
  intro A p e s m below meth c ls hsz hB
  obtain ⟨hx, hb, hr, hml, hown, hin, hlk, hE, hK, hP, hD, hS, hA, hN, hl⟩ := hB
  have hown : s.vm.findClass "SeriesVault$Table" = some m.cls := hown
  have hl : lv_has ls 3 [(0, .ref (ta 0)), (1, .ref (tb 0))] := hl
  obtain ⟨H, hH⟩ : ∃ z, z = s.heap := ⟨_, rfl⟩
  have hP : va_P D vwCl (TbW dA ta t ++ (TbW dA tb u ++ (ws))) H := by rw [hH]; exact hP
  have hS : va_S A s.heap H [] := by rw [hH]; exact hS
  rw [← hH]
  refine lv_aload_n hx hb d_T_hasNamesOf_0 rfl (lv_at hl 0 rfl) ?_
  refine gF (v := .int (nI t.nc)) hx hb hown hE hK hP 0 rfl rfl layT 1 (by decide) w1376 rfl d_T_hasNamesOf_1 ?_
  refine lv_aload_n hx hb d_T_hasNamesOf_4 rfl (lv_at hl 1 rfl) ?_
  refine gF (v := .int (nI u.nc)) hx hb hown hE hK hP 5 rfl rfl layT 1 (by decide) w1376 rfl d_T_hasNamesOf_5 ?_
  refine lv_icmp_eq hx hb d_T_hasNamesOf_8 (tgt := 13) rfl (fun g1 => ?_) (fun g1 => ?_)
  · have g1 := (nI_eq (a := t.nc) (b := u.nc) (by omega) (by omega)).mp g1
    refine lv_iconst (v := 0) hx hb d_T_hasNamesOf_13 (by decide) ?_
    refine lv_istore_n hx hb d_T_hasNamesOf_14 rfl hl (by decide) rfl (fun ls hl => ?_)
    have hl : lv_has ls 3 [(2, .int 0), (0, .ref (ta 0)), (1, .ref (tb 0))] := hl
    have L15 : ∀ (k9 : Nat) (i : Nat) (i1 : i ≤ t.nc) (i2 : allB i (nsB NL NR) = true) (hk9 : t.nc - i = k9), ∀ (H : Heap) (locs : List Loc) (ls : Array Slot) (hP : va_P D vwCl (TbW dA ta t ++ (TbW dA tb u ++ (ws))) H) (hD : va_D A (TbW dA ta t ++ (TbW dA tb u ++ (ws)))) (hS : va_S A s.heap H locs) (hl : lv_has ls 3 [(2, .int (nI i)), (0, .ref (ta 0)), (1, .ref (tb 0))]), W p l e ({ frames := 2, cells := 0, slots := 0, locals := 22 } : Room) s m ([.ref (ta 0), .ref (tb 0)] : List Value).toArray below meth c H locs 0 0 (MQ below (va_Qi (fun (r9 : Int32) (u9 : Unit) => r9 = bI (namB NL NR t.nc u.nc)) (fun (u9 : Unit) t9 => bW D A (TbW dA ta t ++ (TbW dA tb u ++ (ws))) t9) A) ([.ref (ta 0), .ref (tb 0)] : List Value).toArray s 0 0 A) (F0 m 15 ls []) := by
      intro k9
      induction k9 using Nat.strongRecOn with
      | ind k9 ih15 =>
        intro i i1 i2 hk9 H locs ls hP hD hS hl
        refine lv_iload_n hx hb d_T_hasNamesOf_15 rfl (lv_at hl 0 rfl) ?_
        refine lv_aload_n hx hb d_T_hasNamesOf_16 rfl (lv_at hl 1 rfl) ?_
        refine gF (v := .int (nI t.nc)) hx hb hown hE hK hP 0 rfl rfl layT 1 (by decide) w1376 rfl d_T_hasNamesOf_17 ?_
        refine lv_icmp_ge hx hb d_T_hasNamesOf_20 (tgt := 49) rfl (fun g2 => ?_) (fun g2 => ?_)
        · have g2 := (nI_leI (a := t.nc) (b := i) (by omega) (by omega)).mp g2
          refine lv_iconst (v := 1) hx hb d_T_hasNamesOf_49 (by decide) ?_
          exact rfZ hx hb hr (bI_nar true) hlk hS () (by unfold namB; rw [decide_eq_true g1, Bool.true_and, ← show i = t.nc by omega, i2]; rfl) hP hD (Nat.le_of_ble_eq_true rfl) (Nat.le_of_ble_eq_true rfl) d_T_hasNamesOf_50
        · have g2 := mt (nI_leI (a := t.nc) (b := i) (by omega) (by omega)).mpr g2
          obtain ⟨p1, ep1, wp1, lp1⟩ := hna i (by omega)
          obtain ⟨p2, ep2, wp2, lp2⟩ := hnb i (by omega)
          have wpc := wp1
          obtain ⟨bp1, fp1, kp1, -⟩ := wpc
          refine lv_aload_n hx hb d_T_hasNamesOf_23 rfl (lv_at hl 1 rfl) ?_
          refine gF (v := .ref (ta 1)) hx hb hown hE hK hP 0 rfl rfl layT 0 (by decide) w784 rfl d_T_hasNamesOf_24 ?_
          refine lv_iload_n hx hb d_T_hasNamesOf_27 rfl (lv_at hl 0 rfl) ?_
          refine nqld (f := t.nm) (n := 6) hx hb hK hP (1) 6 rfl rfl (i) (by omega) (by decide) ep1 d_T_hasNamesOf_28 ?_
          refine lv_aload_n hx hb d_T_hasNamesOf_29 rfl (lv_at hl 2 rfl) ?_
          refine gF (v := .ref (tb 1)) hx hb hown hE hK hP 5 rfl rfl layT 0 (by decide) w784 rfl d_T_hasNamesOf_30 ?_
          refine lv_iload_n hx hb d_T_hasNamesOf_33 rfl (lv_at hl 0 rfl) ?_
          refine nqld (f := u.nm) (n := 6) hx hb hK hP (6) 6 rfl rfl (i) (by omega) (by decide) ep2 d_T_hasNamesOf_34 ?_
          obtain ⟨qp3, ep4⟩ := List.getElem?_of_mem (show ((p1, .inr (10, [.ref bp1])) : Nat × va_E) ∈ TbW dA ta t ++ (TbW dA tb u ++ (ws)) from (List.mem_append_right _ (List.mem_append_right _ kp1)))
          refine jkI (wr := []) (rnV (As := [.ref p2]) (rest := []) hx hb hml hown hE hK (hN _ _ hS) hP hD (v_Wsame l D dA H.size (TbW dA ta t ++ (TbW dA tb u ++ (ws))) p1 (NL i) p2 (NR i) (isWo_m (fun _ hm => (List.mem_append_right _ (List.mem_append_right _ hm))) wp1) lp1 (isWo_m (fun _ hm => (List.mem_append_right _ (List.mem_append_right _ hm))) wp2) lp2) (q0 := qp3) ep4 rfl w1282 w1412 w1283 w1284 w1281 rfl rfl ⟨⟨by decide, by decide⟩, rfl⟩ ⟨(Nat.le_of_ble_eq_true rfl), (Nat.le_of_ble_eq_true rfl)⟩ rfl hl.1 rfl (Nat.le_of_ble_eq_true rfl) d_T_hasNamesOf_35 ⟨(Nat.le_of_ble_eq_true rfl), (Nat.le_of_ble_eq_true rfl)⟩) hP hD hS hA (fun r5 u6 H locs hp9 hP hD hS => ?_)
          have hP : va_P D vwCl (TbW dA ta t ++ (TbW dA tb u ++ (ws))) H := hP
          have hD : va_D A (TbW dA ta t ++ (TbW dA tb u ++ (ws))) := hD
          replace hp9 : bI (sameW (NL i) (NR i)) = r5 := Eq.symm hp9
          subst hp9
          refine lv_if_ne hx hb d_T_hasNamesOf_38 (tgt := 43) rfl (fun g7 => ?_) (fun g7 => ?_)
          · have g7 := bI_n0 g7
            refine lv_iinc (k := 0) (v := nI (i + 1)) hx hb d_T_hasNamesOf_43 hl rfl (iincN (i) 1 1 (by decide)) (by decide) rfl (fun ls hl => ?_)
            have hl : lv_has ls 3 [(2, .int (nI (i + 1))), (0, .ref (ta 0)), (1, .ref (tb 0))] := hl
            refine lv_goto hx hb d_T_hasNamesOf_46 (tgt := 15) rfl ?_
            exact ih15 _ (by omega) (i + 1) (by omega) (by rw [allB_s, i2, Bool.true_and]; exact g7) rfl H _ ls hP hD hS (lv_sub hl [0, 1, 2] rfl)
          · have g7 := bI_0 g7
            refine lv_iconst (v := 0) hx hb d_T_hasNamesOf_41 (by decide) ?_
            exact rfZ hx hb hr (bI_nar false) hlk hS () (by unfold namB; rw [allB_1 (f := nsB NL NR) (k := i) (n := t.nc) (by omega) g7, Bool.and_false]; rfl) hP hD (Nat.le_of_ble_eq_true rfl) (Nat.le_of_ble_eq_true rfl) d_T_hasNamesOf_42
    exact L15 _ 0 (Nat.zero_le _) rfl rfl H _ ls hP hD hS (lv_sub hl [0, 1, 2] rfl)
  · have g1 := mt (nI_eq (a := t.nc) (b := u.nc) (by omega) (by omega)).mpr g1
    refine lv_iconst (v := 0) hx hb d_T_hasNamesOf_11 (by decide) ?_
    exact rfZ hx hb hr (bI_nar false) hlk hS () (by unfold namB; rw [decide_eq_false g1]; rfl) hP hD (Nat.le_of_ble_eq_true rfl) (Nat.le_of_ble_eq_true rfl) d_T_hasNamesOf_12
theorem d_T_joined_0 : decode prog_11_method_20_code 0 = .ok (.iload_n 0, 1) := by decide +kernel
theorem d_T_joined_1 : decode prog_11_method_20_code 1 = .ok (.tableswitch 65 42 47 #[47, 39, 65, 43, 65, 51], 39) := by decide +kernel
theorem d_T_joined_40 : decode prog_11_method_20_code 40 = .ok (.lload_n 1, 1) := by decide +kernel
theorem d_T_joined_41 : decode prog_11_method_20_code 41 = .ok (.lload_n 3, 1) := by decide +kernel
theorem d_T_joined_42 : decode prog_11_method_20_code 42 = .ok (.ladd, 1) := by decide +kernel
theorem d_T_joined_43 : decode prog_11_method_20_code 43 = .ok (.lreturn, 1) := by decide +kernel
set_option maxHeartbeats 4000000 in
set_option maxRecDepth 100000 in
theorem v_Tjoined_43 (l : Launch) (D : va_G) (dA : Nat → ClassId) (sz : Nat) (u : Int64) (v : Int64) : Met l ⟨"SeriesVault$Table", "joined", "(IJJ)J"⟩ [Cond.code ⟨"SeriesVault$Table", "joined", "(IJJ)J"⟩ prog_11_method_20_code 5 (some FieldType.long)] { frames := 1, cells := 0, slots := 0, locals := 0 } (pC D dA [.int 43, .long u, .long v] ([]) sz) (va_Ql (fun (r9 : Int64) (u9 : Unit) => r9 = jnVl 43 u v) (fun (u9 : Unit) t9 => bW D (va_A ([]) sz) ([]) t9) (va_A ([]) sz)) 0 0 (va_A ([]) sz) := by
  refine mkC (y := ⟨"SeriesVault$Table", "joined", "(IJJ)J"⟩) (cc := prog_11_method_20_code) (maxL := 5) (av := [.int 43, .long u, .long v]) (ws := []) (sz := sz) (Qc := fun A => va_Ql (fun (r9 : Int64) (u9 : Unit) => r9 = jnVl 43 u v) (fun (u9 : Unit) t9 => bW D A ([]) t9) A) (by decide) (Nat.le_of_ble_eq_true rfl) ?_
  intro A p e s m below meth c ls hsz hB
  obtain ⟨hx, hb, hr, hml, hown, hin, hlk, hE, hK, hP, hD, hS, hA, hN, hl⟩ := hB
  have hown : s.vm.findClass "SeriesVault$Table" = some m.cls := hown
  have hl : lv_has ls 5 [(0, .int 43), (1, .long u), (3, .long v)] := hl
  obtain ⟨H, hH⟩ : ∃ z, z = s.heap := ⟨_, rfl⟩
  have hP : va_P D vwCl ([]) H := by rw [hH]; exact hP
  have hS : va_S A s.heap H [] := by rw [hH]; exact hS
  rw [← hH]
  refine lv_iload_n hx hb d_T_joined_0 rfl (lv_at hl 0 rfl) ?_
  refine lv_tableIn (x := 43) (off := 39) (tgt := 40) hx hb d_T_joined_1 (by decide) (by decide) (by decide) rfl ?_
  refine lv_lload_n hx hb d_T_joined_40 rfl (lv_at hl 1 rfl) ?_
  refine lv_lload_n hx hb d_T_joined_41 rfl (lv_at hl 2 rfl) ?_
  refine lv_ladd hx hb d_T_joined_42 ?_
  exact rfL hx hb hr hlk hS () (by simp [jnVl]) hP hD (Nat.le_of_ble_eq_true rfl) (Nat.le_of_ble_eq_true rfl) d_T_joined_43
theorem d_T_joined_44 : decode prog_11_method_20_code 44 = .ok (.lload_n 1, 1) := by decide +kernel
theorem d_T_joined_45 : decode prog_11_method_20_code 45 = .ok (.lload_n 3, 1) := by decide +kernel
theorem d_T_joined_46 : decode prog_11_method_20_code 46 = .ok (.lsub, 1) := by decide +kernel
theorem d_T_joined_47 : decode prog_11_method_20_code 47 = .ok (.lreturn, 1) := by decide +kernel
set_option maxHeartbeats 4000000 in
set_option maxRecDepth 100000 in
theorem v_Tjoined_45 (l : Launch) (D : va_G) (dA : Nat → ClassId) (sz : Nat) (u : Int64) (v : Int64) : Met l ⟨"SeriesVault$Table", "joined", "(IJJ)J"⟩ [Cond.code ⟨"SeriesVault$Table", "joined", "(IJJ)J"⟩ prog_11_method_20_code 5 (some FieldType.long)] { frames := 1, cells := 0, slots := 0, locals := 0 } (pC D dA [.int 45, .long u, .long v] ([]) sz) (va_Ql (fun (r9 : Int64) (u9 : Unit) => r9 = jnVl 45 u v) (fun (u9 : Unit) t9 => bW D (va_A ([]) sz) ([]) t9) (va_A ([]) sz)) 0 0 (va_A ([]) sz) := by
  refine mkC (y := ⟨"SeriesVault$Table", "joined", "(IJJ)J"⟩) (cc := prog_11_method_20_code) (maxL := 5) (av := [.int 45, .long u, .long v]) (ws := []) (sz := sz) (Qc := fun A => va_Ql (fun (r9 : Int64) (u9 : Unit) => r9 = jnVl 45 u v) (fun (u9 : Unit) t9 => bW D A ([]) t9) A) (by decide) (Nat.le_of_ble_eq_true rfl) ?_
  intro A p e s m below meth c ls hsz hB
  obtain ⟨hx, hb, hr, hml, hown, hin, hlk, hE, hK, hP, hD, hS, hA, hN, hl⟩ := hB
  have hown : s.vm.findClass "SeriesVault$Table" = some m.cls := hown
  have hl : lv_has ls 5 [(0, .int 45), (1, .long u), (3, .long v)] := hl
  obtain ⟨H, hH⟩ : ∃ z, z = s.heap := ⟨_, rfl⟩
  have hP : va_P D vwCl ([]) H := by rw [hH]; exact hP
  have hS : va_S A s.heap H [] := by rw [hH]; exact hS
  rw [← hH]
  refine lv_iload_n hx hb d_T_joined_0 rfl (lv_at hl 0 rfl) ?_
  refine lv_tableIn (x := 45) (off := 43) (tgt := 44) hx hb d_T_joined_1 (by decide) (by decide) (by decide) rfl ?_
  refine lv_lload_n hx hb d_T_joined_44 rfl (lv_at hl 1 rfl) ?_
  refine lv_lload_n hx hb d_T_joined_45 rfl (lv_at hl 2 rfl) ?_
  refine lv_lsub hx hb d_T_joined_46 ?_
  exact rfL hx hb hr hlk hS () (by simp [jnVl]) hP hD (Nat.le_of_ble_eq_true rfl) (Nat.le_of_ble_eq_true rfl) d_T_joined_47
theorem d_T_joined_48 : decode prog_11_method_20_code 48 = .ok (.lload_n 1, 1) := by decide +kernel
theorem d_T_joined_49 : decode prog_11_method_20_code 49 = .ok (.lload_n 3, 1) := by decide +kernel
theorem d_T_joined_50 : decode prog_11_method_20_code 50 = .ok (.lmul, 1) := by decide +kernel
theorem d_T_joined_51 : decode prog_11_method_20_code 51 = .ok (.lreturn, 1) := by decide +kernel
set_option maxHeartbeats 4000000 in
set_option maxRecDepth 100000 in
theorem v_Tjoined_42 (l : Launch) (D : va_G) (dA : Nat → ClassId) (sz : Nat) (u : Int64) (v : Int64) : Met l ⟨"SeriesVault$Table", "joined", "(IJJ)J"⟩ [Cond.code ⟨"SeriesVault$Table", "joined", "(IJJ)J"⟩ prog_11_method_20_code 5 (some FieldType.long)] { frames := 1, cells := 0, slots := 0, locals := 0 } (pC D dA [.int 42, .long u, .long v] ([]) sz) (va_Ql (fun (r9 : Int64) (u9 : Unit) => r9 = jnVl 42 u v) (fun (u9 : Unit) t9 => bW D (va_A ([]) sz) ([]) t9) (va_A ([]) sz)) 0 0 (va_A ([]) sz) := by
  refine mkC (y := ⟨"SeriesVault$Table", "joined", "(IJJ)J"⟩) (cc := prog_11_method_20_code) (maxL := 5) (av := [.int 42, .long u, .long v]) (ws := []) (sz := sz) (Qc := fun A => va_Ql (fun (r9 : Int64) (u9 : Unit) => r9 = jnVl 42 u v) (fun (u9 : Unit) t9 => bW D A ([]) t9) A) (by decide) (Nat.le_of_ble_eq_true rfl) ?_
  intro A p e s m below meth c ls hsz hB
  obtain ⟨hx, hb, hr, hml, hown, hin, hlk, hE, hK, hP, hD, hS, hA, hN, hl⟩ := hB
  have hown : s.vm.findClass "SeriesVault$Table" = some m.cls := hown
  have hl : lv_has ls 5 [(0, .int 42), (1, .long u), (3, .long v)] := hl
  obtain ⟨H, hH⟩ : ∃ z, z = s.heap := ⟨_, rfl⟩
  have hP : va_P D vwCl ([]) H := by rw [hH]; exact hP
  have hS : va_S A s.heap H [] := by rw [hH]; exact hS
  rw [← hH]
  refine lv_iload_n hx hb d_T_joined_0 rfl (lv_at hl 0 rfl) ?_
  refine lv_tableIn (x := 42) (off := 47) (tgt := 48) hx hb d_T_joined_1 (by decide) (by decide) (by decide) rfl ?_
  refine lv_lload_n hx hb d_T_joined_48 rfl (lv_at hl 1 rfl) ?_
  refine lv_lload_n hx hb d_T_joined_49 rfl (lv_at hl 2 rfl) ?_
  refine lv_lmul hx hb d_T_joined_50 ?_
  exact rfL hx hb hr hlk hS () (by simp [jnVl]) hP hD (Nat.le_of_ble_eq_true rfl) (Nat.le_of_ble_eq_true rfl) d_T_joined_51
theorem d_T_joined_52 : decode prog_11_method_20_code 52 = .ok (.lload_n 3, 1) := by decide +kernel
theorem d_T_joined_53 : decode prog_11_method_20_code 53 = .ok (.lconst 0, 1) := by decide +kernel
theorem d_T_joined_54 : decode prog_11_method_20_code 54 = .ok (.lcmp, 1) := by decide +kernel
theorem d_T_joined_55 : decode prog_11_method_20_code 55 = .ok (.ifCond .ne 7, 3) := by decide +kernel
theorem d_T_joined_62 : decode prog_11_method_20_code 62 = .ok (.lload_n 1, 1) := by decide +kernel
theorem d_T_joined_63 : decode prog_11_method_20_code 63 = .ok (.lload_n 3, 1) := by decide +kernel
theorem d_T_joined_64 : decode prog_11_method_20_code 64 = .ok (.ldiv, 1) := by decide +kernel
theorem d_T_joined_65 : decode prog_11_method_20_code 65 = .ok (.lreturn, 1) := by decide +kernel
theorem d_T_joined_58 : decode prog_11_method_20_code 58 = .ok (.lconst 0, 1) := by decide +kernel
theorem d_T_joined_59 : decode prog_11_method_20_code 59 = .ok (.goto 6, 3) := by decide +kernel
set_option maxHeartbeats 4000000 in
set_option maxRecDepth 100000 in
theorem v_Tjoined_47 (l : Launch) (D : va_G) (dA : Nat → ClassId) (sz : Nat) (u : Int64) (v : Int64) : Met l ⟨"SeriesVault$Table", "joined", "(IJJ)J"⟩ [Cond.code ⟨"SeriesVault$Table", "joined", "(IJJ)J"⟩ prog_11_method_20_code 5 (some FieldType.long)] { frames := 1, cells := 0, slots := 0, locals := 0 } (pC D dA [.int 47, .long u, .long v] ([]) sz) (va_Ql (fun (r9 : Int64) (u9 : Unit) => r9 = jnVl 47 u v) (fun (u9 : Unit) t9 => bW D (va_A ([]) sz) ([]) t9) (va_A ([]) sz)) 0 0 (va_A ([]) sz) := by
  refine mkC (y := ⟨"SeriesVault$Table", "joined", "(IJJ)J"⟩) (cc := prog_11_method_20_code) (maxL := 5) (av := [.int 47, .long u, .long v]) (ws := []) (sz := sz) (Qc := fun A => va_Ql (fun (r9 : Int64) (u9 : Unit) => r9 = jnVl 47 u v) (fun (u9 : Unit) t9 => bW D A ([]) t9) A) (by decide) (Nat.le_of_ble_eq_true rfl) ?_
  intro A p e s m below meth c ls hsz hB
  obtain ⟨hx, hb, hr, hml, hown, hin, hlk, hE, hK, hP, hD, hS, hA, hN, hl⟩ := hB
  have hown : s.vm.findClass "SeriesVault$Table" = some m.cls := hown
  have hl : lv_has ls 5 [(0, .int 47), (1, .long u), (3, .long v)] := hl
  obtain ⟨H, hH⟩ : ∃ z, z = s.heap := ⟨_, rfl⟩
  have hP : va_P D vwCl ([]) H := by rw [hH]; exact hP
  have hS : va_S A s.heap H [] := by rw [hH]; exact hS
  rw [← hH]
  refine lv_iload_n hx hb d_T_joined_0 rfl (lv_at hl 0 rfl) ?_
  refine lv_tableIn (x := 47) (off := 51) (tgt := 52) hx hb d_T_joined_1 (by decide) (by decide) (by decide) rfl ?_
  refine lv_lload_n hx hb d_T_joined_52 rfl (lv_at hl 2 rfl) ?_
  refine lv_lconst (v := 0) hx hb d_T_joined_53 (by decide) ?_
  refine W.lcmp hx hb d_T_joined_54 ?_
  refine lv_if_ne hx hb d_T_joined_55 (tgt := 62) rfl (fun g1 => ?_) (fun g1 => ?_)
  · have g1 := mt (lg_cmp_eq _ _).mpr g1
    refine lv_lload_n hx hb d_T_joined_62 rfl (lv_at hl 1 rfl) ?_
    refine lv_lload_n hx hb d_T_joined_63 rfl (lv_at hl 2 rfl) ?_
    refine lv_ldiv hx hb d_T_joined_64 (by assumption) ?_
    exact rfL hx hb hr hlk hS () (by simp [jnVl, *]) hP hD (Nat.le_of_ble_eq_true rfl) (Nat.le_of_ble_eq_true rfl) d_T_joined_65
  · have g1 := (lg_cmp_eq _ _).mp g1
    refine lv_lconst (v := 0) hx hb d_T_joined_58 (by decide) ?_
    refine lv_goto hx hb d_T_joined_59 (tgt := 65) rfl ?_
    exact rfL hx hb hr hlk hS () (by simp [jnVl, *]) hP hD (Nat.le_of_ble_eq_true rfl) (Nat.le_of_ble_eq_true rfl) d_T_joined_65
theorem d_T_joined_66 : decode prog_11_method_20_code 66 = .ok (.lload_n 3, 1) := by decide +kernel
theorem d_T_joined_67 : decode prog_11_method_20_code 67 = .ok (.lconst 0, 1) := by decide +kernel
theorem d_T_joined_68 : decode prog_11_method_20_code 68 = .ok (.lcmp, 1) := by decide +kernel
theorem d_T_joined_69 : decode prog_11_method_20_code 69 = .ok (.ifCond .ne 7, 3) := by decide +kernel
theorem d_T_joined_76 : decode prog_11_method_20_code 76 = .ok (.lload_n 1, 1) := by decide +kernel
theorem d_T_joined_77 : decode prog_11_method_20_code 77 = .ok (.lload_n 3, 1) := by decide +kernel
theorem d_T_joined_78 : decode prog_11_method_20_code 78 = .ok (.lrem, 1) := by decide +kernel
theorem d_T_joined_79 : decode prog_11_method_20_code 79 = .ok (.lreturn, 1) := by decide +kernel
theorem d_T_joined_72 : decode prog_11_method_20_code 72 = .ok (.lconst 0, 1) := by decide +kernel
theorem d_T_joined_73 : decode prog_11_method_20_code 73 = .ok (.goto 6, 3) := by decide +kernel
set_option maxHeartbeats 4000000 in
set_option maxRecDepth 100000 in
theorem v_Tjoined_37 (l : Launch) (D : va_G) (dA : Nat → ClassId) (sz : Nat) (u : Int64) (v : Int64) : Met l ⟨"SeriesVault$Table", "joined", "(IJJ)J"⟩ [Cond.code ⟨"SeriesVault$Table", "joined", "(IJJ)J"⟩ prog_11_method_20_code 5 (some FieldType.long)] { frames := 1, cells := 0, slots := 0, locals := 0 } (pC D dA [.int 37, .long u, .long v] ([]) sz) (va_Ql (fun (r9 : Int64) (u9 : Unit) => r9 = jnVl 37 u v) (fun (u9 : Unit) t9 => bW D (va_A ([]) sz) ([]) t9) (va_A ([]) sz)) 0 0 (va_A ([]) sz) := by
  refine mkC (y := ⟨"SeriesVault$Table", "joined", "(IJJ)J"⟩) (cc := prog_11_method_20_code) (maxL := 5) (av := [.int 37, .long u, .long v]) (ws := []) (sz := sz) (Qc := fun A => va_Ql (fun (r9 : Int64) (u9 : Unit) => r9 = jnVl 37 u v) (fun (u9 : Unit) t9 => bW D A ([]) t9) A) (by decide) (Nat.le_of_ble_eq_true rfl) ?_
  intro A p e s m below meth c ls hsz hB
  obtain ⟨hx, hb, hr, hml, hown, hin, hlk, hE, hK, hP, hD, hS, hA, hN, hl⟩ := hB
  have hown : s.vm.findClass "SeriesVault$Table" = some m.cls := hown
  have hl : lv_has ls 5 [(0, .int 37), (1, .long u), (3, .long v)] := hl
  obtain ⟨H, hH⟩ : ∃ z, z = s.heap := ⟨_, rfl⟩
  have hP : va_P D vwCl ([]) H := by rw [hH]; exact hP
  have hS : va_S A s.heap H [] := by rw [hH]; exact hS
  rw [← hH]
  refine lv_iload_n hx hb d_T_joined_0 rfl (lv_at hl 0 rfl) ?_
  refine lv_tableOut (tgt := 66) hx hb d_T_joined_1 (by decide) rfl ?_
  refine lv_lload_n hx hb d_T_joined_66 rfl (lv_at hl 2 rfl) ?_
  refine lv_lconst (v := 0) hx hb d_T_joined_67 (by decide) ?_
  refine W.lcmp hx hb d_T_joined_68 ?_
  refine lv_if_ne hx hb d_T_joined_69 (tgt := 76) rfl (fun g1 => ?_) (fun g1 => ?_)
  · have g1 := mt (lg_cmp_eq _ _).mpr g1
    refine lv_lload_n hx hb d_T_joined_76 rfl (lv_at hl 1 rfl) ?_
    refine lv_lload_n hx hb d_T_joined_77 rfl (lv_at hl 2 rfl) ?_
    refine lv_lrem hx hb d_T_joined_78 (by assumption) ?_
    exact rfL hx hb hr hlk hS () (by simp [jnVl, *]) hP hD (Nat.le_of_ble_eq_true rfl) (Nat.le_of_ble_eq_true rfl) d_T_joined_79
  · have g1 := (lg_cmp_eq _ _).mp g1
    refine lv_lconst (v := 0) hx hb d_T_joined_72 (by decide) ?_
    refine lv_goto hx hb d_T_joined_73 (tgt := 79) rfl ?_
    exact rfL hx hb hr hlk hS () (by simp [jnVl, *]) hP hD (Nat.le_of_ble_eq_true rfl) (Nat.le_of_ble_eq_true rfl) d_T_joined_79
end
section
theorem v_Tjoined (l : Launch) (D : va_G) (dA : Nat → ClassId) (sz : Nat) (sg : Int32) (u : Int64) (v : Int64) (hop : isOp sg) : Met l ⟨"SeriesVault$Table", "joined", "(IJJ)J"⟩ [Cond.code ⟨"SeriesVault$Table", "joined", "(IJJ)J"⟩ prog_11_method_20_code 5 (some FieldType.long)] { frames := 1, cells := 0, slots := 0, locals := 0 } (pC D dA [.int sg, .long u, .long v] ([]) sz) (va_Ql (fun (r9 : Int64) (u9 : Unit) => r9 = jnVl sg u v) (fun (u9 : Unit) t9 => bW D (va_A ([]) sz) ([]) t9) (va_A ([]) sz)) 0 0 (va_A ([]) sz) := by
  rcases hop with h | h | h | h | h <;> subst h
  · exact v_Tjoined_43 l D dA sz u v
  · exact v_Tjoined_45 l D dA sz u v
  · exact v_Tjoined_42 l D dA sz u v
  · exact v_Tjoined_47 l D dA sz u v
  · exact v_Tjoined_37 l D dA sz u v
section JW
variable {sg : Int32} {both : Int64} {L R f : Nat → Int64} {b w : Nat} {st : Int64} {g : Nat → Int64}
theorem jrW_t (h : jnS sg both (R w) w = true) (e : jrW sg both L R f b w = (st, g)) : jrW sg both L R f b (w + 1) = (st ||| bitL w, va_up g (b + w) (jnVl sg (L w) (R w))) := by
  show (if _ then _ else _) = _
  rw [if_pos h, e]
theorem jrW_f (h : jnS sg both (R w) w = false) (e : jrW sg both L R f b w = (st, g)) : jrW sg both L R f b (w + 1) = (st, g) := by
  show (if _ then _ else _) = _
  rw [if_neg (by rw [h]; decide), e]
end JW
theorem jrW_at {sg : Int32} {both : Int64} {L R f : Nat → Int64} {b : Nat} : ∀ {w q : Nat}, (q < b ∨ b + w ≤ q) → (jrW sg both L R f b w).2 q = f q
  | 0, q, _ => rfl
  | w + 1, q, h => by
    cases e : jnS sg both (R w) w with
    | false => rw [jrW_f e rfl]; exact jrW_at (by omega)
    | true => rw [jrW_t e rfl]; show va_up _ _ _ q = _; rw [va_up_ne _ _ (by omega)]; exact jrW_at (by omega)
def dvB (sg : Int32) : Bool := decide (sg = 47) || decide (sg = 37)
theorem d_T_joinRow_0 : decode prog_11_method_19_code 0 = .ok (.aload_n 2, 1) := by decide +kernel
theorem d_T_joinRow_1 : decode prog_11_method_19_code 1 = .ok (.getfield 23, 3) := by decide +kernel
theorem d_T_joinRow_4 : decode prog_11_method_19_code 4 = .ok (.iload_n 3, 1) := by decide +kernel
theorem d_T_joinRow_5 : decode prog_11_method_19_code 5 = .ok (.laload, 1) := by decide +kernel
theorem d_T_joinRow_6 : decode prog_11_method_19_code 6 = .ok (.aload 4, 2) := by decide +kernel
theorem d_T_joinRow_8 : decode prog_11_method_19_code 8 = .ok (.getfield 23, 3) := by decide +kernel
theorem d_T_joinRow_11 : decode prog_11_method_19_code 11 = .ok (.iload 5, 2) := by decide +kernel
theorem d_T_joinRow_13 : decode prog_11_method_19_code 13 = .ok (.laload, 1) := by decide +kernel
theorem d_T_joinRow_14 : decode prog_11_method_19_code 14 = .ok (.land, 1) := by decide +kernel
theorem d_T_joinRow_15 : decode prog_11_method_19_code 15 = .ok (.lstore 7, 2) := by decide +kernel
theorem d_T_joinRow_17 : decode prog_11_method_19_code 17 = .ok (.lconst 0, 1) := by decide +kernel
theorem d_T_joinRow_18 : decode prog_11_method_19_code 18 = .ok (.lstore 9, 2) := by decide +kernel
theorem d_T_joinRow_20 : decode prog_11_method_19_code 20 = .ok (.iconst 0, 1) := by decide +kernel
theorem d_T_joinRow_21 : decode prog_11_method_19_code 21 = .ok (.istore 11, 2) := by decide +kernel
theorem d_T_joinRow_23 : decode prog_11_method_19_code 23 = .ok (.iload 11, 2) := by decide +kernel
theorem d_T_joinRow_25 : decode prog_11_method_19_code 25 = .ok (.aload_n 0, 1) := by decide +kernel
theorem d_T_joinRow_26 : decode prog_11_method_19_code 26 = .ok (.getfield 30, 3) := by decide +kernel
theorem d_T_joinRow_29 : decode prog_11_method_19_code 29 = .ok (.if_icmp .ge 104, 3) := by decide +kernel
theorem d_T_joinRow_133 : decode prog_11_method_19_code 133 = .ok (.aload_n 0, 1) := by decide +kernel
theorem d_T_joinRow_134 : decode prog_11_method_19_code 134 = .ok (.getfield 23, 3) := by decide +kernel
theorem d_T_joinRow_137 : decode prog_11_method_19_code 137 = .ok (.iload 6, 2) := by decide +kernel
theorem d_T_joinRow_139 : decode prog_11_method_19_code 139 = .ok (.lload 9, 2) := by decide +kernel
theorem d_T_joinRow_141 : decode prog_11_method_19_code 141 = .ok (.lastore, 1) := by decide +kernel
theorem d_T_joinRow_142 : decode prog_11_method_19_code 142 = .ok (.return_, 1) := by decide +kernel
theorem d_T_joinRow_32 : decode prog_11_method_19_code 32 = .ok (.aload_n 2, 1) := by decide +kernel
theorem d_T_joinRow_33 : decode prog_11_method_19_code 33 = .ok (.iload_n 3, 1) := by decide +kernel
theorem d_T_joinRow_34 : decode prog_11_method_19_code 34 = .ok (.iload 11, 2) := by decide +kernel
theorem d_T_joinRow_36 : decode prog_11_method_19_code 36 = .ok (.invokevirtual 100, 3) := by decide +kernel
theorem d_T_joinRow_39 : decode prog_11_method_19_code 39 = .ok (.lstore 12, 2) := by decide +kernel
theorem d_T_joinRow_41 : decode prog_11_method_19_code 41 = .ok (.aload 4, 2) := by decide +kernel
theorem d_T_joinRow_43 : decode prog_11_method_19_code 43 = .ok (.iload 5, 2) := by decide +kernel
theorem d_T_joinRow_45 : decode prog_11_method_19_code 45 = .ok (.iload 11, 2) := by decide +kernel
theorem d_T_joinRow_47 : decode prog_11_method_19_code 47 = .ok (.invokevirtual 100, 3) := by decide +kernel
theorem d_T_joinRow_50 : decode prog_11_method_19_code 50 = .ok (.lstore 14, 2) := by decide +kernel
theorem d_T_joinRow_71 : decode prog_11_method_19_code 71 = .ok (.lload 7, 2) := by decide +kernel
theorem d_T_joinRow_73 : decode prog_11_method_19_code 73 = .ok (.iload 11, 2) := by decide +kernel
theorem d_T_joinRow_75 : decode prog_11_method_19_code 75 = .ok (.lushr, 1) := by decide +kernel
theorem d_T_joinRow_76 : decode prog_11_method_19_code 76 = .ok (.lconst 1, 1) := by decide +kernel
theorem d_T_joinRow_77 : decode prog_11_method_19_code 77 = .ok (.land, 1) := by decide +kernel
theorem d_T_joinRow_78 : decode prog_11_method_19_code 78 = .ok (.lconst 1, 1) := by decide +kernel
theorem d_T_joinRow_79 : decode prog_11_method_19_code 79 = .ok (.lcmp, 1) := by decide +kernel
theorem d_T_joinRow_80 : decode prog_11_method_19_code 80 = .ok (.ifCond .ne 47, 3) := by decide +kernel
theorem d_T_joinRow_127 : decode prog_11_method_19_code 127 = .ok (.iinc 11 1, 3) := by decide +kernel
theorem d_T_joinRow_130 : decode prog_11_method_19_code 130 = .ok (.goto (-107), 3) := by decide +kernel
theorem d_T_joinRow_83 : decode prog_11_method_19_code 83 = .ok (.iload 16, 2) := by decide +kernel
theorem d_T_joinRow_85 : decode prog_11_method_19_code 85 = .ok (.ifCond .eq 10, 3) := by decide +kernel
theorem d_T_joinRow_95 : decode prog_11_method_19_code 95 = .ok (.lload 9, 2) := by decide +kernel
theorem d_T_joinRow_97 : decode prog_11_method_19_code 97 = .ok (.lconst 1, 1) := by decide +kernel
theorem d_T_joinRow_98 : decode prog_11_method_19_code 98 = .ok (.iload 11, 2) := by decide +kernel
theorem d_T_joinRow_100 : decode prog_11_method_19_code 100 = .ok (.lshl, 1) := by decide +kernel
theorem d_T_joinRow_101 : decode prog_11_method_19_code 101 = .ok (.lor, 1) := by decide +kernel
theorem d_T_joinRow_102 : decode prog_11_method_19_code 102 = .ok (.lstore 9, 2) := by decide +kernel
theorem d_T_joinRow_104 : decode prog_11_method_19_code 104 = .ok (.aload_n 0, 1) := by decide +kernel
theorem d_T_joinRow_105 : decode prog_11_method_19_code 105 = .ok (.getfield 27, 3) := by decide +kernel
theorem d_T_joinRow_108 : decode prog_11_method_19_code 108 = .ok (.iload 6, 2) := by decide +kernel
theorem d_T_joinRow_110 : decode prog_11_method_19_code 110 = .ok (.aload_n 0, 1) := by decide +kernel
theorem d_T_joinRow_111 : decode prog_11_method_19_code 111 = .ok (.getfield 30, 3) := by decide +kernel
theorem d_T_joinRow_114 : decode prog_11_method_19_code 114 = .ok (.imul, 1) := by decide +kernel
theorem d_T_joinRow_115 : decode prog_11_method_19_code 115 = .ok (.iload 11, 2) := by decide +kernel
theorem d_T_joinRow_117 : decode prog_11_method_19_code 117 = .ok (.iadd, 1) := by decide +kernel
theorem d_T_joinRow_118 : decode prog_11_method_19_code 118 = .ok (.iload_n 1, 1) := by decide +kernel
theorem d_T_joinRow_119 : decode prog_11_method_19_code 119 = .ok (.lload 12, 2) := by decide +kernel
theorem d_T_joinRow_121 : decode prog_11_method_19_code 121 = .ok (.lload 14, 2) := by decide +kernel
theorem d_T_joinRow_123 : decode prog_11_method_19_code 123 = .ok (.invokestatic 104, 3) := by decide +kernel
theorem d_T_joinRow_126 : decode prog_11_method_19_code 126 = .ok (.lastore, 1) := by decide +kernel
theorem d_T_joinRow_88 : decode prog_11_method_19_code 88 = .ok (.lload 14, 2) := by decide +kernel
theorem d_T_joinRow_90 : decode prog_11_method_19_code 90 = .ok (.lconst 0, 1) := by decide +kernel
theorem d_T_joinRow_91 : decode prog_11_method_19_code 91 = .ok (.lcmp, 1) := by decide +kernel
theorem d_T_joinRow_92 : decode prog_11_method_19_code 92 = .ok (.ifCond .eq 35, 3) := by decide +kernel
theorem d_T_joinRow_52 : decode prog_11_method_19_code 52 = .ok (.iload_n 1, 1) := by decide +kernel
theorem d_T_joinRow_53 : decode prog_11_method_19_code 53 = .ok (.bipush 47, 2) := by decide +kernel
theorem d_T_joinRow_55 : decode prog_11_method_19_code 55 = .ok (.if_icmp .eq 9, 3) := by decide +kernel
theorem d_T_joinRow_64 : decode prog_11_method_19_code 64 = .ok (.iconst 1, 1) := by decide +kernel
theorem d_T_joinRow_65 : decode prog_11_method_19_code 65 = .ok (.goto 4, 3) := by decide +kernel
theorem d_T_joinRow_69 : decode prog_11_method_19_code 69 = .ok (.istore 16, 2) := by decide +kernel
theorem d_T_joinRow_58 : decode prog_11_method_19_code 58 = .ok (.iload_n 1, 1) := by decide +kernel
theorem d_T_joinRow_59 : decode prog_11_method_19_code 59 = .ok (.bipush 37, 2) := by decide +kernel
theorem d_T_joinRow_61 : decode prog_11_method_19_code 61 = .ok (.if_icmp .ne 7, 3) := by decide +kernel
theorem d_T_joinRow_68 : decode prog_11_method_19_code 68 = .ok (.iconst 0, 1) := by decide +kernel
theorem w1413 : Cond.methodLink "SeriesVault$Table" 100 ⟨"SeriesVault$Table", "numberAt", "(II)J"⟩ ∈ aW := aw_of (tb_8 (List.mem_of_getElem? (i := 58) rfl)) rfl
theorem w1414 : Cond.code ⟨"SeriesVault$Table", "numberAt", "(II)J"⟩ prog_11_method_10_code 3 (some FieldType.long) ∈ aW := aw_of (tb_8 (List.mem_of_getElem? (i := 13) rfl)) rfl
theorem w1415 : Cond.instanceMethod ⟨"SeriesVault$Table", "numberAt", "(II)J"⟩ ∈ aW := aw_of (tb_8 (List.mem_of_getElem? (i := 11) rfl)) rfl
theorem w1416 : Cond.selects "SeriesVault$Table" ⟨"SeriesVault$Table", "numberAt", "(II)J"⟩ ⟨"SeriesVault$Table", "numberAt", "(II)J"⟩ ∈ aW := aw_of (tb_8 (List.mem_of_getElem? (i := 12) rfl)) rfl
theorem w1417 : Cond.methodLink "SeriesVault$Table" 104 ⟨"SeriesVault$Table", "joined", "(IJJ)J"⟩ ∈ aW := aw_of (tb_8 (List.mem_of_getElem? (i := 59) rfl)) rfl
theorem w1418 : Cond.code ⟨"SeriesVault$Table", "joined", "(IJJ)J"⟩ prog_11_method_20_code 5 (some FieldType.long) ∈ aW := aw_of (tb_8 (List.mem_of_getElem? (i := 61) rfl)) rfl
theorem w1419 : Cond.static ⟨"SeriesVault$Table", "joined", "(IJJ)J"⟩ ∈ aW := aw_of (tb_8 (List.mem_of_getElem? (i := 60) rfl)) rfl
set_option maxHeartbeats 4000000 in
set_option maxRecDepth 100000 in
theorem v_TjoinRow_l (l : Launch) (D : va_G) (dA : Nat → ClassId) (sz : Nat) (ws : va_W) (ta : Nat → Nat) (t : TB) (tb : Nat → Nat) (u : TB) (sg : Int32) (a : Nat) (b : Nat) (g : Nat) (hop : isOp sg) (hcN : t.cN ≤ 65536) (hcM : u.cN ≤ 65536) (hl1 : a < 256) (hr1 : b < 256) (hg1 : g < 256) (hg2 : g * t.wi + t.wi ≤ t.cN) (hl2 : a * t.wi + t.wi ≤ t.cN) (hr2 : b * u.wi + t.wi ≤ u.cN) (hga : g ≤ a) : Met l ⟨"SeriesVault$Table", "joinRow", "(ILSeriesVault$Table;ILSeriesVault$Table;II)V"⟩ [Cond.code ⟨"SeriesVault$Table", "joinRow", "(ILSeriesVault$Table;ILSeriesVault$Table;II)V"⟩ prog_11_method_19_code 17 none] { frames := 2, cells := 0, slots := 0, locals := 24 } (pC D dA [.ref (ta 0), .int sg, .ref (ta 0), .int (nI a), .ref (tb 0), .int (nI b), .int (nI g)] (TbW dA ta t ++ (TbW dA tb u ++ (ws))) sz) (va_Qv (fun (u9 : Unit) => True) (fun (u9 : Unit) t9 => bW D (va_A (TbW dA ta t ++ (TbW dA tb u ++ (ws))) sz) (TbW dA ta (TB.s_ce (TB.s_th t (va_up t.th g (jrW sg ((t.th a) &&& (u.th b)) (fun w => t.ce (a * t.wi + w)) (fun w => u.ce (b * u.wi + w)) t.ce (g * t.wi) t.wi).1)) ((jrW sg ((t.th a) &&& (u.th b)) (fun w => t.ce (a * t.wi + w)) (fun w => u.ce (b * u.wi + w)) t.ce (g * t.wi) t.wi).2)) ++ (TbW dA tb u ++ (ws))) t9) (va_A (TbW dA ta t ++ (TbW dA tb u ++ (ws))) sz)) 0 0 (va_A (TbW dA ta t ++ (TbW dA tb u ++ (ws))) sz) := by
  refine mkC (y := ⟨"SeriesVault$Table", "joinRow", "(ILSeriesVault$Table;ILSeriesVault$Table;II)V"⟩) (cc := prog_11_method_19_code) (maxL := 17) (av := [.ref (ta 0), .int sg, .ref (ta 0), .int (nI a), .ref (tb 0), .int (nI b), .int (nI g)]) (ws := TbW dA ta t ++ (TbW dA tb u ++ (ws))) (sz := sz) (Qc := fun A => va_Qv (fun (u9 : Unit) => True) (fun (u9 : Unit) t9 => bW D A (TbW dA ta (TB.s_ce (TB.s_th t (va_up t.th g (jrW sg ((t.th a) &&& (u.th b)) (fun w => t.ce (a * t.wi + w)) (fun w => u.ce (b * u.wi + w)) t.ce (g * t.wi) t.wi).1)) ((jrW sg ((t.th a) &&& (u.th b)) (fun w => t.ce (a * t.wi + w)) (fun w => u.ce (b * u.wi + w)) t.ce (g * t.wi) t.wi).2)) ++ (TbW dA tb u ++ (ws))) t9) A) (by decide) (Nat.le_of_ble_eq_true rfl) ?_
  intro A p e s m below meth c ls hsz hB
  obtain ⟨hx, hb, hr, hml, hown, hin, hlk, hE, hK, hP, hD, hS, hA, hN, hl⟩ := hB
  have hown : s.vm.findClass "SeriesVault$Table" = some m.cls := hown
  have hl : lv_has ls 17 [(0, .ref (ta 0)), (1, .int sg), (2, .ref (ta 0)), (3, .int (nI a)), (4, .ref (tb 0)), (5, .int (nI b)), (6, .int (nI g))] := hl
  obtain ⟨H, hH⟩ : ∃ z, z = s.heap := ⟨_, rfl⟩
  have hP : va_P D vwCl (TbW dA ta t ++ (TbW dA tb u ++ (ws))) H := by rw [hH]; exact hP
  have hS : va_S A s.heap H [] := by rw [hH]; exact hS
  rw [← hH]
  refine lv_aload_n hx hb d_T_joinRow_0 rfl (lv_at hl 2 rfl) ?_
  refine gF (v := .ref (ta 3)) hx hb hown hE hK hP 0 rfl rfl layT 5 (by decide) w788 rfl d_T_joinRow_1 ?_
  refine lv_iload_n hx hb d_T_joinRow_4 rfl (lv_at hl 3 rfl) ?_
  refine nlld (f := t.th) (n := 256) hx hb hK hP (3) 2 rfl rfl (a) (by omega) (by decide) d_T_joinRow_5 ?_
  refine lv_aload hx hb d_T_joinRow_6 (lv_at hl 4 rfl) ?_
  refine gF (v := .ref (tb 3)) hx hb hown hE hK hP 5 rfl rfl layT 5 (by decide) w788 rfl d_T_joinRow_8 ?_
  refine lv_iload hx hb d_T_joinRow_11 (lv_at hl 5 rfl) ?_
  refine nlld (f := u.th) (n := 256) hx hb hK hP (8) 2 rfl rfl (b) (by omega) (by decide) d_T_joinRow_13 ?_
  refine lv_land hx hb d_T_joinRow_14 ?_
  refine lv_lstore hx hb d_T_joinRow_15 hl (by decide) rfl (fun ls hl => ?_)
  have hl : lv_has ls 17 [(7, .long ((t.th a) &&& (u.th b))), (0, .ref (ta 0)), (1, .int sg), (2, .ref (ta 0)), (3, .int (nI a)), (4, .ref (tb 0)), (5, .int (nI b)), (6, .int (nI g))] := hl
  refine lv_lconst (v := 0) hx hb d_T_joinRow_17 (by decide) ?_
  refine lv_lstore hx hb d_T_joinRow_18 hl (by decide) rfl (fun ls hl => ?_)
  have hl : lv_has ls 17 [(9, .long 0), (7, .long ((t.th a) &&& (u.th b))), (0, .ref (ta 0)), (1, .int sg), (2, .ref (ta 0)), (3, .int (nI a)), (4, .ref (tb 0)), (5, .int (nI b)), (6, .int (nI g))] := hl
  refine lv_iconst (v := 0) hx hb d_T_joinRow_20 (by decide) ?_
  refine lv_istore hx hb d_T_joinRow_21 hl (by decide) rfl (fun ls hl => ?_)
  have hl : lv_has ls 17 [(11, .int 0), (9, .long 0), (7, .long ((t.th a) &&& (u.th b))), (0, .ref (ta 0)), (1, .int sg), (2, .ref (ta 0)), (3, .int (nI a)), (4, .ref (tb 0)), (5, .int (nI b)), (6, .int (nI g))] := hl
  have L23 : ∀ (k9 : Nat) (w : Nat) (st : Int64) (z : Nat → Int64) (i1 : w ≤ t.wi) (ez : jrW sg ((t.th a) &&& (u.th b)) (fun w => t.ce (a * t.wi + w)) (fun w => u.ce (b * u.wi + w)) t.ce (g * t.wi) w = (st, z)) (hk9 : t.wi - w = k9), ∀ (H : Heap) (locs : List Loc) (ls : Array Slot) (hP : va_P D vwCl (TbW dA ta (TB.s_ce t z) ++ (TbW dA tb u ++ (ws))) H) (hD : va_D A (TbW dA ta (TB.s_ce t z) ++ (TbW dA tb u ++ (ws)))) (hS : va_S A s.heap H locs) (hl : lv_has ls 17 [(11, .int (nI w)), (9, .long st), (7, .long ((t.th a) &&& (u.th b))), (0, .ref (ta 0)), (1, .int sg), (2, .ref (ta 0)), (3, .int (nI a)), (4, .ref (tb 0)), (5, .int (nI b)), (6, .int (nI g))]), W p l e ({ frames := 2, cells := 0, slots := 0, locals := 24 } : Room) s m ([.ref (ta 0), .int sg, .ref (ta 0), .int (nI a), .ref (tb 0), .int (nI b), .int (nI g)] : List Value).toArray below meth c H locs 0 0 (MQ below (va_Qv (fun (u9 : Unit) => True) (fun (u9 : Unit) t9 => bW D A (TbW dA ta (TB.s_ce (TB.s_th t (va_up t.th g (jrW sg ((t.th a) &&& (u.th b)) (fun w => t.ce (a * t.wi + w)) (fun w => u.ce (b * u.wi + w)) t.ce (g * t.wi) t.wi).1)) ((jrW sg ((t.th a) &&& (u.th b)) (fun w => t.ce (a * t.wi + w)) (fun w => u.ce (b * u.wi + w)) t.ce (g * t.wi) t.wi).2)) ++ (TbW dA tb u ++ (ws))) t9) A) ([.ref (ta 0), .int sg, .ref (ta 0), .int (nI a), .ref (tb 0), .int (nI b), .int (nI g)] : List Value).toArray s 0 0 A) (F0 m 23 ls []) := by
    intro k9
    induction k9 using Nat.strongRecOn with
    | ind k9 ih23 =>
      intro w st z i1 ez hk9 H locs ls hP hD hS hl
      have hz : z = (jrW sg ((t.th a) &&& (u.th b)) (fun w => t.ce (a * t.wi + w)) (fun w => u.ce (b * u.wi + w)) t.ce (g * t.wi) w).2 := by rw [ez]
      refine lv_iload hx hb d_T_joinRow_23 (lv_at hl 0 rfl) ?_
      refine lv_aload_n hx hb d_T_joinRow_25 rfl (lv_at hl 3 rfl) ?_
      refine gF (v := .int (nI t.wi)) hx hb hown hE hK hP 0 rfl rfl layT 2 (by decide) w1367 rfl d_T_joinRow_26 ?_
      refine lv_icmp_ge hx hb d_T_joinRow_29 (tgt := 133) rfl (fun g1 => ?_) (fun g1 => ?_)
      · have g1 := (nI_leI (a := t.wi) (b := w) (by omega) (by omega)).mp g1
        refine lv_aload_n hx hb d_T_joinRow_133 rfl (lv_at hl 3 rfl) ?_
        refine gF (v := .ref (ta 3)) hx hb hown hE hK hP 0 rfl rfl layT 5 (by decide) w788 rfl d_T_joinRow_134 ?_
        refine lv_iload hx hb d_T_joinRow_137 (lv_at hl 9 rfl) ?_
        refine lv_lload hx hb d_T_joinRow_139 (lv_at hl 1 rfl) ?_
        refine nlst (n := 256) hx hb hK hP hD hS (3) 2 rfl rfl (g) (by omega) (by decide) d_T_joinRow_141 (fun H locs hP hD hS => ?_)
        have hP : va_P D vwCl (TbW dA ta (TB.s_ce (TB.s_th t (va_up t.th g st)) z) ++ (TbW dA tb u ++ (ws))) H := hP
        have hD : va_D A (TbW dA ta (TB.s_ce (TB.s_th t (va_up t.th g st)) z) ++ (TbW dA tb u ++ (ws))) := hD
        have e9 : (TB.s_ce (TB.s_th t (va_up t.th g st)) z : TB) = TB.s_ce (TB.s_th t (va_up t.th g (jrW sg ((t.th a) &&& (u.th b)) (fun w => t.ce (a * t.wi + w)) (fun w => u.ce (b * u.wi + w)) t.ce (g * t.wi) t.wi).1)) ((jrW sg ((t.th a) &&& (u.th b)) (fun w => t.ce (a * t.wi + w)) (fun w => u.ce (b * u.wi + w)) t.ce (g * t.wi) t.wi).2) := by rw [show (va_up t.th g (jrW sg ((t.th a) &&& (u.th b)) (fun w => t.ce (a * t.wi + w)) (fun w => u.ce (b * u.wi + w)) t.ce (g * t.wi) t.wi).1) = (va_up t.th g st) from by (have e8 := ez; rw [show w = t.wi by omega] at e8; rw [e8]), show ((jrW sg ((t.th a) &&& (u.th b)) (fun w => t.ce (a * t.wi + w)) (fun w => u.ce (b * u.wi + w)) t.ce (g * t.wi) t.wi).2) = z from by (have e8 := ez; rw [show w = t.wi by omega] at e8; rw [e8])] <;> rfl
        rw [e9] at hP hD
        exact rfV hx hb hr hlk hS () trivial hP hD (Nat.le_of_ble_eq_true rfl) (Nat.le_of_ble_eq_true rfl) d_T_joinRow_142
      · have g1 := mt (nI_leI (a := t.wi) (b := w) (by omega) (by omega)).mpr g1
        refine lv_aload_n hx hb d_T_joinRow_32 rfl (lv_at hl 5 rfl) ?_
        refine lv_iload_n hx hb d_T_joinRow_33 rfl (lv_at hl 6 rfl) ?_
        refine lv_iload hx hb d_T_joinRow_34 (lv_at hl 0 rfl) ?_
        refine jkL (wr := []) (rnV (As := [.int (nI a), .int (nI w)]) (rest := []) hx hb hml hown hE hK (hN _ _ hS) hP hD (v_TnumberAt l D dA H.size (TbW dA tb u ++ (ws)) ta (TB.s_ce t z) a w hcN (show a * t.wi + w < t.cN by omega)) (q0 := 0) rfl rfl w1414 w1413 w1415 w1416 w807 rfl rfl ⟨⟨by decide, by decide⟩, rfl⟩ ⟨(Nat.le_of_ble_eq_true rfl), (Nat.le_of_ble_eq_true rfl)⟩ rfl hl.1 rfl (Nat.le_of_ble_eq_true rfl) d_T_joinRow_36 ⟨(Nat.le_of_ble_eq_true rfl), (Nat.le_of_ble_eq_true rfl)⟩) hP hD hS hA (fun r2 u3 H locs hp9 hP hD hS => ?_)
        have hP : va_P D vwCl (TbW dA ta (TB.s_ce t z) ++ (TbW dA tb u ++ (ws))) H := hP
        have hD : va_D A (TbW dA ta (TB.s_ce t z) ++ (TbW dA tb u ++ (ws))) := hD
        replace hp9 : z (a * t.wi + w) = r2 := Eq.symm hp9
        subst hp9
        refine tpl (y := (fun w => t.ce (a * t.wi + w)) w) (by rw [hz]; exact jrW_at (jl_in hga (by omega))) ?_
        refine lv_lstore hx hb d_T_joinRow_39 hl (by decide) rfl (fun ls hl => ?_)
        have hl : lv_has ls 17 [(12, .long ((fun w => t.ce (a * t.wi + w)) w)), (11, .int (nI w)), (9, .long st), (7, .long ((t.th a) &&& (u.th b))), (0, .ref (ta 0)), (1, .int sg), (2, .ref (ta 0)), (3, .int (nI a)), (4, .ref (tb 0)), (5, .int (nI b)), (6, .int (nI g))] := hl
        refine lv_aload hx hb d_T_joinRow_41 (lv_at hl 8 rfl) ?_
        refine lv_iload hx hb d_T_joinRow_43 (lv_at hl 9 rfl) ?_
        refine lv_iload hx hb d_T_joinRow_45 (lv_at hl 1 rfl) ?_
        have hP := pmP (show List.Perm (α := Nat × va_E) (TbW dA ta (TB.s_ce t z) ++ (TbW dA tb u ++ (ws))) (TbW dA tb u ++ (TbW dA ta (TB.s_ce t z) ++ (ws))) from List.perm_append_comm_assoc (TbW dA ta (TB.s_ce t z)) (TbW dA tb u) (ws)) hP
        have hD := pmD (show List.Perm (α := Nat × va_E) (TbW dA ta (TB.s_ce t z) ++ (TbW dA tb u ++ (ws))) (TbW dA tb u ++ (TbW dA ta (TB.s_ce t z) ++ (ws))) from List.perm_append_comm_assoc (TbW dA ta (TB.s_ce t z)) (TbW dA tb u) (ws)) hD
        refine jkL (wr := []) (rnV (As := [.int (nI b), .int (nI w)]) (rest := []) hx hb hml hown hE hK (hN _ _ hS) hP hD (v_TnumberAt l D dA H.size (TbW dA ta (TB.s_ce t z) ++ (ws)) tb u b w hcM (show b * u.wi + w < u.cN by omega)) (q0 := 0) rfl rfl w1414 w1413 w1415 w1416 w807 rfl rfl ⟨⟨by decide, by decide⟩, rfl⟩ ⟨(Nat.le_of_ble_eq_true rfl), (Nat.le_of_ble_eq_true rfl)⟩ rfl hl.1 rfl (Nat.le_of_ble_eq_true rfl) d_T_joinRow_47 ⟨(Nat.le_of_ble_eq_true rfl), (Nat.le_of_ble_eq_true rfl)⟩) hP hD hS hA (fun r4 u5 H locs hp9 hP hD hS => ?_)
        have hP : va_P D vwCl (TbW dA tb u ++ (TbW dA ta (TB.s_ce t z) ++ (ws))) H := hP
        have hD : va_D A (TbW dA tb u ++ (TbW dA ta (TB.s_ce t z) ++ (ws))) := hD
        replace hp9 : u.ce (b * u.wi + w) = r4 := Eq.symm hp9
        subst hp9
        refine tpl (y := (fun w => u.ce (b * u.wi + w)) w) rfl ?_
        have hP := pmP (show List.Perm (α := Nat × va_E) (TbW dA tb u ++ (TbW dA ta (TB.s_ce t z) ++ (ws))) (TbW dA ta (TB.s_ce t z) ++ (TbW dA tb u ++ (ws))) from List.perm_append_comm_assoc (TbW dA tb u) (TbW dA ta (TB.s_ce t z)) (ws)) hP
        have hD := pmD (show List.Perm (α := Nat × va_E) (TbW dA tb u ++ (TbW dA ta (TB.s_ce t z) ++ (ws))) (TbW dA ta (TB.s_ce t z) ++ (TbW dA tb u ++ (ws))) from List.perm_append_comm_assoc (TbW dA tb u) (TbW dA ta (TB.s_ce t z)) (ws)) hD
        refine lv_lstore hx hb d_T_joinRow_50 hl (by decide) rfl (fun ls hl => ?_)
        have hl : lv_has ls 17 [(14, .long ((fun w => u.ce (b * u.wi + w)) w)), (12, .long ((fun w => t.ce (a * t.wi + w)) w)), (11, .int (nI w)), (9, .long st), (7, .long ((t.th a) &&& (u.th b))), (0, .ref (ta 0)), (1, .int sg), (2, .ref (ta 0)), (3, .int (nI a)), (4, .ref (tb 0)), (5, .int (nI b)), (6, .int (nI g))] := hl
        have J71 : ∀ (dv : Bool) (edv : (decide (sg = 47) || decide (sg = 37)) = dv), ∀ (H : Heap) (locs : List Loc) (ls : Array Slot) (hP : va_P D vwCl (TbW dA ta (TB.s_ce t z) ++ (TbW dA tb u ++ (ws))) H) (hD : va_D A (TbW dA ta (TB.s_ce t z) ++ (TbW dA tb u ++ (ws)))) (hS : va_S A s.heap H locs) (hl : lv_has ls 17 [(11, .int (nI w)), (9, .long st), (7, .long ((t.th a) &&& (u.th b))), (0, .ref (ta 0)), (1, .int sg), (2, .ref (ta 0)), (3, .int (nI a)), (4, .ref (tb 0)), (5, .int (nI b)), (6, .int (nI g)), (16, .int (bI dv)), (12, .long ((fun w => t.ce (a * t.wi + w)) w)), (14, .long ((fun w => u.ce (b * u.wi + w)) w))]), W p l e ({ frames := 2, cells := 0, slots := 0, locals := 24 } : Room) s m ([.ref (ta 0), .int sg, .ref (ta 0), .int (nI a), .ref (tb 0), .int (nI b), .int (nI g)] : List Value).toArray below meth c H locs 0 0 (MQ below (va_Qv (fun (u9 : Unit) => True) (fun (u9 : Unit) t9 => bW D A (TbW dA ta (TB.s_ce (TB.s_th t (va_up t.th g (jrW sg ((t.th a) &&& (u.th b)) (fun w => t.ce (a * t.wi + w)) (fun w => u.ce (b * u.wi + w)) t.ce (g * t.wi) t.wi).1)) ((jrW sg ((t.th a) &&& (u.th b)) (fun w => t.ce (a * t.wi + w)) (fun w => u.ce (b * u.wi + w)) t.ce (g * t.wi) t.wi).2)) ++ (TbW dA tb u ++ (ws))) t9) A) ([.ref (ta 0), .int sg, .ref (ta 0), .int (nI a), .ref (tb 0), .int (nI b), .int (nI g)] : List Value).toArray s 0 0 A) (F0 m 71 ls []) := by
          intro dv edv H locs ls hP hD hS hl
          refine lv_lload hx hb d_T_joinRow_71 (lv_at hl 2 rfl) ?_
          refine lv_iload hx hb d_T_joinRow_73 (lv_at hl 0 rfl) ?_
          refine lv_lushr (v := ushL ((t.th a) &&& (u.th b)) (nI w)) hx hb d_T_joinRow_75 rfl ?_
          refine lv_lconst (v := 1) hx hb d_T_joinRow_76 (by decide) ?_
          refine lv_land hx hb d_T_joinRow_77 ?_
          refine lv_lconst (v := 1) hx hb d_T_joinRow_78 (by decide) ?_
          refine W.lcmp hx hb d_T_joinRow_79 ?_
          refine lv_if_ne hx hb d_T_joinRow_80 (tgt := 127) rfl (fun g6 => ?_) (fun g6 => ?_)
          · have g6 := mt (lg_cmp_eq _ _).mpr g6
            refine lv_iinc (k := 0) (v := nI (w + 1)) hx hb d_T_joinRow_127 hl rfl (iincN (w) 1 1 (by decide)) (by decide) rfl (fun ls hl => ?_)
            have hl : lv_has ls 17 [(11, .int (nI (w + 1))), (9, .long st), (7, .long ((t.th a) &&& (u.th b))), (0, .ref (ta 0)), (1, .int sg), (2, .ref (ta 0)), (3, .int (nI a)), (4, .ref (tb 0)), (5, .int (nI b)), (6, .int (nI g)), (16, .int (bI dv)), (12, .long ((fun w => t.ce (a * t.wi + w)) w)), (14, .long ((fun w => u.ce (b * u.wi + w)) w))] := hl
            refine lv_goto hx hb d_T_joinRow_130 (tgt := 23) rfl ?_
            exact ih23 _ (by omega) (w + 1) st z (by omega) (jrW_f (R := fun w => u.ce (b * u.wi + w)) (by unfold jnS; rw [decide_eq_false g6]; rfl) ez) rfl H _ ls hP hD hS (lv_sub hl [0, 1, 2, 3, 4, 5, 6, 7, 8, 9] rfl)
          · have g6 := (lg_cmp_eq _ _).mp g6
            refine lv_iload hx hb d_T_joinRow_83 (lv_at hl 10 rfl) ?_
            refine lv_if_eq hx hb d_T_joinRow_85 (tgt := 95) rfl (fun g7 => ?_) (fun g7 => ?_)
            · have g7 := bI_0 g7
              refine lv_lload hx hb d_T_joinRow_95 (lv_at hl 1 rfl) ?_
              refine lv_lconst (v := 1) hx hb d_T_joinRow_97 (by decide) ?_
              refine lv_iload hx hb d_T_joinRow_98 (lv_at hl 0 rfl) ?_
              refine lv_lshl hx hb d_T_joinRow_100 rfl ?_
              refine lv_lor hx hb d_T_joinRow_101 ?_
              refine lv_lstore hx hb d_T_joinRow_102 hl (by decide) rfl (fun ls hl => ?_)
              have hl : lv_has ls 17 [(9, .long (st ||| (1 <<< ((nI w).toInt64 &&& 63)))), (11, .int (nI w)), (7, .long ((t.th a) &&& (u.th b))), (0, .ref (ta 0)), (1, .int sg), (2, .ref (ta 0)), (3, .int (nI a)), (4, .ref (tb 0)), (5, .int (nI b)), (6, .int (nI g)), (16, .int (bI dv)), (12, .long ((fun w => t.ce (a * t.wi + w)) w)), (14, .long ((fun w => u.ce (b * u.wi + w)) w))] := hl
              refine lv_aload_n hx hb d_T_joinRow_104 rfl (lv_at hl 3 rfl) ?_
              refine gF (v := .ref t.cA) hx hb hown hE hK hP 0 rfl rfl layT 6 (by decide) w789 rfl d_T_joinRow_105 ?_
              refine lv_iload hx hb d_T_joinRow_108 (lv_at hl 9 rfl) ?_
              refine lv_aload_n hx hb d_T_joinRow_110 rfl (lv_at hl 3 rfl) ?_
              refine gF (v := .int (nI t.wi)) hx hb hown hE hK hP 0 rfl rfl layT 2 (by decide) w1367 rfl d_T_joinRow_111 ?_
              refine lv_imul hx hb d_T_joinRow_114 (tpi (y := nI (g * t.wi)) (pk_mul (g) (t.wi)) ?_)
              refine lv_iload hx hb d_T_joinRow_115 (lv_at hl 1 rfl) ?_
              refine lv_iadd hx hb d_T_joinRow_117 (tpi (y := nI ((g * t.wi) + w)) (nI_add (g * t.wi) (w)) ?_)
              refine lv_iload_n hx hb d_T_joinRow_118 rfl (lv_at hl 4 rfl) ?_
              refine lv_lload hx hb d_T_joinRow_119 (lv_at hl 11 rfl) ?_
              refine lv_lload hx hb d_T_joinRow_121 (lv_at hl 12 rfl) ?_
              have hPc := hP.sub (ws' := []) [] rfl
              have hDc := hD.sub (ws' := []) [] (by decide) rfl
              refine jpL (rnS (As := [.int sg, .long ((fun w => t.ce (a * t.wi + w)) w), .long ((fun w => u.ce (b * u.wi + w)) w)]) (rest := [.int (nI ((g * t.wi) + w)), .ref t.cA]) hx hb hml hown hE hK (hN _ _ hS) hPc hDc (v_Tjoined l D dA H.size sg ((fun w => t.ce (a * t.wi + w)) w) ((fun w => u.ce (b * u.wi + w)) w) hop) w1418 w1417 w1419 w807 rfl rfl ⟨⟨by decide, by decide⟩, rfl⟩ ⟨(Nat.le_of_ble_eq_true rfl), (Nat.le_of_ble_eq_true rfl)⟩ rfl hl.1 rfl (Nat.le_of_ble_eq_true rfl) d_T_joinRow_123 ⟨(Nat.le_of_ble_eq_true rfl), (Nat.le_of_ble_eq_true rfl)⟩) hP hD hS hA (fun r8 u9 H locs hp9 hP hD hS => ?_)
              have hP : va_P D vwCl (TbW dA ta (TB.s_ce t z) ++ (TbW dA tb u ++ (ws))) H := hP
              have hD : va_D A (TbW dA ta (TB.s_ce t z) ++ (TbW dA tb u ++ (ws))) := hD
              replace hp9 : jnVl sg ((fun w => t.ce (a * t.wi + w)) w) ((fun w => u.ce (b * u.wi + w)) w) = r8 := Eq.symm hp9
              subst hp9
              refine nlst (n := t.cN) hx hb hK hP hD hS (4) 2 rfl rfl ((g * t.wi) + w) (by omega) (by omega) d_T_joinRow_126 (fun H locs hP hD hS => ?_)
              have hP : va_P D vwCl (TbW dA ta (TB.s_ce t (va_up z ((g * t.wi) + w) (jnVl sg ((fun w => t.ce (a * t.wi + w)) w) ((fun w => u.ce (b * u.wi + w)) w)))) ++ (TbW dA tb u ++ (ws))) H := hP
              have hD : va_D A (TbW dA ta (TB.s_ce t (va_up z ((g * t.wi) + w) (jnVl sg ((fun w => t.ce (a * t.wi + w)) w) ((fun w => u.ce (b * u.wi + w)) w)))) ++ (TbW dA tb u ++ (ws))) := hD
              refine lv_iinc (k := 1) (v := nI (w + 1)) hx hb d_T_joinRow_127 hl rfl (iincN (w) 1 1 (by decide)) (by decide) rfl (fun ls hl => ?_)
              have hl : lv_has ls 17 [(11, .int (nI (w + 1))), (9, .long (st ||| (1 <<< ((nI w).toInt64 &&& 63)))), (7, .long ((t.th a) &&& (u.th b))), (0, .ref (ta 0)), (1, .int sg), (2, .ref (ta 0)), (3, .int (nI a)), (4, .ref (tb 0)), (5, .int (nI b)), (6, .int (nI g)), (16, .int (bI dv)), (12, .long ((fun w => t.ce (a * t.wi + w)) w)), (14, .long ((fun w => u.ce (b * u.wi + w)) w))] := hl
              refine lv_goto hx hb d_T_joinRow_130 (tgt := 23) rfl ?_
              exact ih23 _ (by omega) (w + 1) (st ||| (1 <<< ((nI w).toInt64 &&& 63))) (va_up z ((g * t.wi) + w) (jnVl sg ((fun w => t.ce (a * t.wi + w)) w) ((fun w => u.ce (b * u.wi + w)) w))) (by omega) (jrW_t (R := fun w => u.ce (b * u.wi + w)) (by unfold jnS; rw [decide_eq_true g6, show (decide (sg = 47) || decide (sg = 37)) = false from edv.trans g7]; rfl) ez) rfl H _ ls hP hD hS (lv_sub hl [0, 1, 2, 3, 4, 5, 6, 7, 8, 9] rfl)
            · have g7 := bI_n0 g7
              refine lv_lload hx hb d_T_joinRow_88 (lv_at hl 12 rfl) ?_
              refine lv_lconst (v := 0) hx hb d_T_joinRow_90 (by decide) ?_
              refine W.lcmp hx hb d_T_joinRow_91 ?_
              refine lv_if_eq hx hb d_T_joinRow_92 (tgt := 127) rfl (fun g10 => ?_) (fun g10 => ?_)
              · have g10 := (lg_cmp_eq _ _).mp g10
                refine lv_iinc (k := 0) (v := nI (w + 1)) hx hb d_T_joinRow_127 hl rfl (iincN (w) 1 1 (by decide)) (by decide) rfl (fun ls hl => ?_)
                have hl : lv_has ls 17 [(11, .int (nI (w + 1))), (9, .long st), (7, .long ((t.th a) &&& (u.th b))), (0, .ref (ta 0)), (1, .int sg), (2, .ref (ta 0)), (3, .int (nI a)), (4, .ref (tb 0)), (5, .int (nI b)), (6, .int (nI g)), (16, .int (bI dv)), (12, .long ((fun w => t.ce (a * t.wi + w)) w)), (14, .long ((fun w => u.ce (b * u.wi + w)) w))] := hl
                refine lv_goto hx hb d_T_joinRow_130 (tgt := 23) rfl ?_
                exact ih23 _ (by omega) (w + 1) st z (by omega) (jrW_f (R := fun w => u.ce (b * u.wi + w)) (by unfold jnS; rw [decide_eq_true g6, show (decide (sg = 47) || decide (sg = 37)) = true from edv.trans g7, decide_eq_true g10]; rfl) ez) rfl H _ ls hP hD hS (lv_sub hl [0, 1, 2, 3, 4, 5, 6, 7, 8, 9] rfl)
              · have g10 := mt (lg_cmp_eq _ _).mpr g10
                refine lv_lload hx hb d_T_joinRow_95 (lv_at hl 1 rfl) ?_
                refine lv_lconst (v := 1) hx hb d_T_joinRow_97 (by decide) ?_
                refine lv_iload hx hb d_T_joinRow_98 (lv_at hl 0 rfl) ?_
                refine lv_lshl hx hb d_T_joinRow_100 rfl ?_
                refine lv_lor hx hb d_T_joinRow_101 ?_
                refine lv_lstore hx hb d_T_joinRow_102 hl (by decide) rfl (fun ls hl => ?_)
                have hl : lv_has ls 17 [(9, .long (st ||| (1 <<< ((nI w).toInt64 &&& 63)))), (11, .int (nI w)), (7, .long ((t.th a) &&& (u.th b))), (0, .ref (ta 0)), (1, .int sg), (2, .ref (ta 0)), (3, .int (nI a)), (4, .ref (tb 0)), (5, .int (nI b)), (6, .int (nI g)), (16, .int (bI dv)), (12, .long ((fun w => t.ce (a * t.wi + w)) w)), (14, .long ((fun w => u.ce (b * u.wi + w)) w))] := hl
                refine lv_aload_n hx hb d_T_joinRow_104 rfl (lv_at hl 3 rfl) ?_
                refine gF (v := .ref t.cA) hx hb hown hE hK hP 0 rfl rfl layT 6 (by decide) w789 rfl d_T_joinRow_105 ?_
                refine lv_iload hx hb d_T_joinRow_108 (lv_at hl 9 rfl) ?_
                refine lv_aload_n hx hb d_T_joinRow_110 rfl (lv_at hl 3 rfl) ?_
                refine gF (v := .int (nI t.wi)) hx hb hown hE hK hP 0 rfl rfl layT 2 (by decide) w1367 rfl d_T_joinRow_111 ?_
                refine lv_imul hx hb d_T_joinRow_114 (tpi (y := nI (g * t.wi)) (pk_mul (g) (t.wi)) ?_)
                refine lv_iload hx hb d_T_joinRow_115 (lv_at hl 1 rfl) ?_
                refine lv_iadd hx hb d_T_joinRow_117 (tpi (y := nI ((g * t.wi) + w)) (nI_add (g * t.wi) (w)) ?_)
                refine lv_iload_n hx hb d_T_joinRow_118 rfl (lv_at hl 4 rfl) ?_
                refine lv_lload hx hb d_T_joinRow_119 (lv_at hl 11 rfl) ?_
                refine lv_lload hx hb d_T_joinRow_121 (lv_at hl 12 rfl) ?_
                have hPc := hP.sub (ws' := []) [] rfl
                have hDc := hD.sub (ws' := []) [] (by decide) rfl
                refine jpL (rnS (As := [.int sg, .long ((fun w => t.ce (a * t.wi + w)) w), .long ((fun w => u.ce (b * u.wi + w)) w)]) (rest := [.int (nI ((g * t.wi) + w)), .ref t.cA]) hx hb hml hown hE hK (hN _ _ hS) hPc hDc (v_Tjoined l D dA H.size sg ((fun w => t.ce (a * t.wi + w)) w) ((fun w => u.ce (b * u.wi + w)) w) hop) w1418 w1417 w1419 w807 rfl rfl ⟨⟨by decide, by decide⟩, rfl⟩ ⟨(Nat.le_of_ble_eq_true rfl), (Nat.le_of_ble_eq_true rfl)⟩ rfl hl.1 rfl (Nat.le_of_ble_eq_true rfl) d_T_joinRow_123 ⟨(Nat.le_of_ble_eq_true rfl), (Nat.le_of_ble_eq_true rfl)⟩) hP hD hS hA (fun r11 u9 H locs hp9 hP hD hS => ?_)
                have hP : va_P D vwCl (TbW dA ta (TB.s_ce t z) ++ (TbW dA tb u ++ (ws))) H := hP
                have hD : va_D A (TbW dA ta (TB.s_ce t z) ++ (TbW dA tb u ++ (ws))) := hD
                replace hp9 : jnVl sg ((fun w => t.ce (a * t.wi + w)) w) ((fun w => u.ce (b * u.wi + w)) w) = r11 := Eq.symm hp9
                subst hp9
                refine nlst (n := t.cN) hx hb hK hP hD hS (4) 2 rfl rfl ((g * t.wi) + w) (by omega) (by omega) d_T_joinRow_126 (fun H locs hP hD hS => ?_)
                have hP : va_P D vwCl (TbW dA ta (TB.s_ce t (va_up z ((g * t.wi) + w) (jnVl sg ((fun w => t.ce (a * t.wi + w)) w) ((fun w => u.ce (b * u.wi + w)) w)))) ++ (TbW dA tb u ++ (ws))) H := hP
                have hD : va_D A (TbW dA ta (TB.s_ce t (va_up z ((g * t.wi) + w) (jnVl sg ((fun w => t.ce (a * t.wi + w)) w) ((fun w => u.ce (b * u.wi + w)) w)))) ++ (TbW dA tb u ++ (ws))) := hD
                refine lv_iinc (k := 1) (v := nI (w + 1)) hx hb d_T_joinRow_127 hl rfl (iincN (w) 1 1 (by decide)) (by decide) rfl (fun ls hl => ?_)
                have hl : lv_has ls 17 [(11, .int (nI (w + 1))), (9, .long (st ||| (1 <<< ((nI w).toInt64 &&& 63)))), (7, .long ((t.th a) &&& (u.th b))), (0, .ref (ta 0)), (1, .int sg), (2, .ref (ta 0)), (3, .int (nI a)), (4, .ref (tb 0)), (5, .int (nI b)), (6, .int (nI g)), (16, .int (bI dv)), (12, .long ((fun w => t.ce (a * t.wi + w)) w)), (14, .long ((fun w => u.ce (b * u.wi + w)) w))] := hl
                refine lv_goto hx hb d_T_joinRow_130 (tgt := 23) rfl ?_
                exact ih23 _ (by omega) (w + 1) (st ||| (1 <<< ((nI w).toInt64 &&& 63))) (va_up z ((g * t.wi) + w) (jnVl sg ((fun w => t.ce (a * t.wi + w)) w) ((fun w => u.ce (b * u.wi + w)) w))) (by omega) (jrW_t (R := fun w => u.ce (b * u.wi + w)) (by unfold jnS; rw [decide_eq_true g6, decide_eq_false g10, Bool.and_false]; rfl) ez) rfl H _ ls hP hD hS (lv_sub hl [0, 1, 2, 3, 4, 5, 6, 7, 8, 9] rfl)
        refine lv_iload_n hx hb d_T_joinRow_52 rfl (lv_at hl 6 rfl) ?_
        refine lv_bipush (v := 47) hx hb d_T_joinRow_53 (by decide) ?_
        refine lv_icmp_eq hx hb d_T_joinRow_55 (tgt := 64) rfl (fun g13 => ?_) (fun g13 => ?_)
        · have g13 := g13
          refine lv_iconst (v := 1) hx hb d_T_joinRow_64 (by decide) ?_
          refine lv_goto hx hb d_T_joinRow_65 (tgt := 69) rfl ?_
          refine lv_istore hx hb d_T_joinRow_69 hl (by decide) rfl (fun ls hl => ?_)
          have hl : lv_has ls 17 [(16, .int 1), (14, .long ((fun w => u.ce (b * u.wi + w)) w)), (12, .long ((fun w => t.ce (a * t.wi + w)) w)), (11, .int (nI w)), (9, .long st), (7, .long ((t.th a) &&& (u.th b))), (0, .ref (ta 0)), (1, .int sg), (2, .ref (ta 0)), (3, .int (nI a)), (4, .ref (tb 0)), (5, .int (nI b)), (6, .int (nI g))] := hl
          exact J71 true (by rw [decide_eq_true g13]; rfl) H _ ls hP hD hS (lv_sub hl [3, 4, 5, 6, 7, 8, 9, 10, 11, 12, 0, 2, 1] rfl)
        · have g13 := g13
          refine lv_iload_n hx hb d_T_joinRow_58 rfl (lv_at hl 6 rfl) ?_
          refine lv_bipush (v := 37) hx hb d_T_joinRow_59 (by decide) ?_
          refine lv_icmp_ne hx hb d_T_joinRow_61 (tgt := 68) rfl (fun g14 => ?_) (fun g14 => ?_)
          · have g14 := g14
            refine lv_iconst (v := 0) hx hb d_T_joinRow_68 (by decide) ?_
            refine lv_istore hx hb d_T_joinRow_69 hl (by decide) rfl (fun ls hl => ?_)
            have hl : lv_has ls 17 [(16, .int 0), (14, .long ((fun w => u.ce (b * u.wi + w)) w)), (12, .long ((fun w => t.ce (a * t.wi + w)) w)), (11, .int (nI w)), (9, .long st), (7, .long ((t.th a) &&& (u.th b))), (0, .ref (ta 0)), (1, .int sg), (2, .ref (ta 0)), (3, .int (nI a)), (4, .ref (tb 0)), (5, .int (nI b)), (6, .int (nI g))] := hl
            exact J71 false (by rw [decide_eq_false g13, decide_eq_false g14]; rfl) H _ ls hP hD hS (lv_sub hl [3, 4, 5, 6, 7, 8, 9, 10, 11, 12, 0, 2, 1] rfl)
          · have g14 := g14
            refine lv_iconst (v := 1) hx hb d_T_joinRow_64 (by decide) ?_
            refine lv_goto hx hb d_T_joinRow_65 (tgt := 69) rfl ?_
            refine lv_istore hx hb d_T_joinRow_69 hl (by decide) rfl (fun ls hl => ?_)
            have hl : lv_has ls 17 [(16, .int 1), (14, .long ((fun w => u.ce (b * u.wi + w)) w)), (12, .long ((fun w => t.ce (a * t.wi + w)) w)), (11, .int (nI w)), (9, .long st), (7, .long ((t.th a) &&& (u.th b))), (0, .ref (ta 0)), (1, .int sg), (2, .ref (ta 0)), (3, .int (nI a)), (4, .ref (tb 0)), (5, .int (nI b)), (6, .int (nI g))] := hl
            exact J71 true (by rw [decide_eq_false g13, decide_eq_true g14]; rfl) H _ ls hP hD hS (lv_sub hl [3, 4, 5, 6, 7, 8, 9, 10, 11, 12, 0, 2, 1] rfl)
  exact L23 _ 0 0 t.ce (Nat.zero_le _) rfl rfl H _ ls hP hD hS (lv_sub hl [0, 1, 2, 3, 4, 5, 6, 7, 8, 9] rfl)
set_option maxHeartbeats 4000000 in
set_option maxRecDepth 100000 in
theorem v_TjoinRow_r (l : Launch) (D : va_G) (dA : Nat → ClassId) (sz : Nat) (ws : va_W) (ta : Nat → Nat) (t : TB) (tb : Nat → Nat) (u : TB) (sg : Int32) (a : Nat) (b : Nat) (g : Nat) (hop : isOp sg) (hcN : t.cN ≤ 65536) (hcM : u.cN ≤ 65536) (hl1 : a < 256) (hr1 : b < 256) (hg1 : g < 256) (hg2 : g * t.wi + t.wi ≤ t.cN) (hl2 : a * u.wi + t.wi ≤ u.cN) (hr2 : b * t.wi + t.wi ≤ t.cN) (hgb : g ≤ b) : Met l ⟨"SeriesVault$Table", "joinRow", "(ILSeriesVault$Table;ILSeriesVault$Table;II)V"⟩ [Cond.code ⟨"SeriesVault$Table", "joinRow", "(ILSeriesVault$Table;ILSeriesVault$Table;II)V"⟩ prog_11_method_19_code 17 none] { frames := 2, cells := 0, slots := 0, locals := 24 } (pC D dA [.ref (ta 0), .int sg, .ref (tb 0), .int (nI a), .ref (ta 0), .int (nI b), .int (nI g)] (TbW dA ta t ++ (TbW dA tb u ++ (ws))) sz) (va_Qv (fun (u9 : Unit) => True) (fun (u9 : Unit) t9 => bW D (va_A (TbW dA ta t ++ (TbW dA tb u ++ (ws))) sz) (TbW dA ta (TB.s_ce (TB.s_th t (va_up t.th g (jrW sg ((u.th a) &&& (t.th b)) (fun w => u.ce (a * u.wi + w)) (fun w => t.ce (b * t.wi + w)) t.ce (g * t.wi) t.wi).1)) ((jrW sg ((u.th a) &&& (t.th b)) (fun w => u.ce (a * u.wi + w)) (fun w => t.ce (b * t.wi + w)) t.ce (g * t.wi) t.wi).2)) ++ (TbW dA tb u ++ (ws))) t9) (va_A (TbW dA ta t ++ (TbW dA tb u ++ (ws))) sz)) 0 0 (va_A (TbW dA ta t ++ (TbW dA tb u ++ (ws))) sz) := by
  refine mkC (y := ⟨"SeriesVault$Table", "joinRow", "(ILSeriesVault$Table;ILSeriesVault$Table;II)V"⟩) (cc := prog_11_method_19_code) (maxL := 17) (av := [.ref (ta 0), .int sg, .ref (tb 0), .int (nI a), .ref (ta 0), .int (nI b), .int (nI g)]) (ws := TbW dA ta t ++ (TbW dA tb u ++ (ws))) (sz := sz) (Qc := fun A => va_Qv (fun (u9 : Unit) => True) (fun (u9 : Unit) t9 => bW D A (TbW dA ta (TB.s_ce (TB.s_th t (va_up t.th g (jrW sg ((u.th a) &&& (t.th b)) (fun w => u.ce (a * u.wi + w)) (fun w => t.ce (b * t.wi + w)) t.ce (g * t.wi) t.wi).1)) ((jrW sg ((u.th a) &&& (t.th b)) (fun w => u.ce (a * u.wi + w)) (fun w => t.ce (b * t.wi + w)) t.ce (g * t.wi) t.wi).2)) ++ (TbW dA tb u ++ (ws))) t9) A) (by decide) (Nat.le_of_ble_eq_true rfl) ?_
  intro A p e s m below meth c ls hsz hB
  obtain ⟨hx, hb, hr, hml, hown, hin, hlk, hE, hK, hP, hD, hS, hA, hN, hl⟩ := hB
  have hown : s.vm.findClass "SeriesVault$Table" = some m.cls := hown
  have hl : lv_has ls 17 [(0, .ref (ta 0)), (1, .int sg), (2, .ref (tb 0)), (3, .int (nI a)), (4, .ref (ta 0)), (5, .int (nI b)), (6, .int (nI g))] := hl
  obtain ⟨H, hH⟩ : ∃ z, z = s.heap := ⟨_, rfl⟩
  have hP : va_P D vwCl (TbW dA ta t ++ (TbW dA tb u ++ (ws))) H := by rw [hH]; exact hP
  have hS : va_S A s.heap H [] := by rw [hH]; exact hS
  rw [← hH]
  refine lv_aload_n hx hb d_T_joinRow_0 rfl (lv_at hl 2 rfl) ?_
  refine gF (v := .ref (tb 3)) hx hb hown hE hK hP 5 rfl rfl layT 5 (by decide) w788 rfl d_T_joinRow_1 ?_
  refine lv_iload_n hx hb d_T_joinRow_4 rfl (lv_at hl 3 rfl) ?_
  refine nlld (f := u.th) (n := 256) hx hb hK hP (8) 2 rfl rfl (a) (by omega) (by decide) d_T_joinRow_5 ?_
  refine lv_aload hx hb d_T_joinRow_6 (lv_at hl 4 rfl) ?_
  refine gF (v := .ref (ta 3)) hx hb hown hE hK hP 0 rfl rfl layT 5 (by decide) w788 rfl d_T_joinRow_8 ?_
  refine lv_iload hx hb d_T_joinRow_11 (lv_at hl 5 rfl) ?_
  refine nlld (f := t.th) (n := 256) hx hb hK hP (3) 2 rfl rfl (b) (by omega) (by decide) d_T_joinRow_13 ?_
  refine lv_land hx hb d_T_joinRow_14 ?_
  refine lv_lstore hx hb d_T_joinRow_15 hl (by decide) rfl (fun ls hl => ?_)
  have hl : lv_has ls 17 [(7, .long ((u.th a) &&& (t.th b))), (0, .ref (ta 0)), (1, .int sg), (2, .ref (tb 0)), (3, .int (nI a)), (4, .ref (ta 0)), (5, .int (nI b)), (6, .int (nI g))] := hl
  refine lv_lconst (v := 0) hx hb d_T_joinRow_17 (by decide) ?_
  refine lv_lstore hx hb d_T_joinRow_18 hl (by decide) rfl (fun ls hl => ?_)
  have hl : lv_has ls 17 [(9, .long 0), (7, .long ((u.th a) &&& (t.th b))), (0, .ref (ta 0)), (1, .int sg), (2, .ref (tb 0)), (3, .int (nI a)), (4, .ref (ta 0)), (5, .int (nI b)), (6, .int (nI g))] := hl
  refine lv_iconst (v := 0) hx hb d_T_joinRow_20 (by decide) ?_
  refine lv_istore hx hb d_T_joinRow_21 hl (by decide) rfl (fun ls hl => ?_)
  have hl : lv_has ls 17 [(11, .int 0), (9, .long 0), (7, .long ((u.th a) &&& (t.th b))), (0, .ref (ta 0)), (1, .int sg), (2, .ref (tb 0)), (3, .int (nI a)), (4, .ref (ta 0)), (5, .int (nI b)), (6, .int (nI g))] := hl
  have L23 : ∀ (k9 : Nat) (w : Nat) (st : Int64) (z : Nat → Int64) (i1 : w ≤ t.wi) (ez : jrW sg ((u.th a) &&& (t.th b)) (fun w => u.ce (a * u.wi + w)) (fun w => t.ce (b * t.wi + w)) t.ce (g * t.wi) w = (st, z)) (hk9 : t.wi - w = k9), ∀ (H : Heap) (locs : List Loc) (ls : Array Slot) (hP : va_P D vwCl (TbW dA ta (TB.s_ce t z) ++ (TbW dA tb u ++ (ws))) H) (hD : va_D A (TbW dA ta (TB.s_ce t z) ++ (TbW dA tb u ++ (ws)))) (hS : va_S A s.heap H locs) (hl : lv_has ls 17 [(11, .int (nI w)), (9, .long st), (7, .long ((u.th a) &&& (t.th b))), (0, .ref (ta 0)), (1, .int sg), (2, .ref (tb 0)), (3, .int (nI a)), (4, .ref (ta 0)), (5, .int (nI b)), (6, .int (nI g))]), W p l e ({ frames := 2, cells := 0, slots := 0, locals := 24 } : Room) s m ([.ref (ta 0), .int sg, .ref (tb 0), .int (nI a), .ref (ta 0), .int (nI b), .int (nI g)] : List Value).toArray below meth c H locs 0 0 (MQ below (va_Qv (fun (u9 : Unit) => True) (fun (u9 : Unit) t9 => bW D A (TbW dA ta (TB.s_ce (TB.s_th t (va_up t.th g (jrW sg ((u.th a) &&& (t.th b)) (fun w => u.ce (a * u.wi + w)) (fun w => t.ce (b * t.wi + w)) t.ce (g * t.wi) t.wi).1)) ((jrW sg ((u.th a) &&& (t.th b)) (fun w => u.ce (a * u.wi + w)) (fun w => t.ce (b * t.wi + w)) t.ce (g * t.wi) t.wi).2)) ++ (TbW dA tb u ++ (ws))) t9) A) ([.ref (ta 0), .int sg, .ref (tb 0), .int (nI a), .ref (ta 0), .int (nI b), .int (nI g)] : List Value).toArray s 0 0 A) (F0 m 23 ls []) := by
    intro k9
    induction k9 using Nat.strongRecOn with
    | ind k9 ih23 =>
      intro w st z i1 ez hk9 H locs ls hP hD hS hl
      have hz : z = (jrW sg ((u.th a) &&& (t.th b)) (fun w => u.ce (a * u.wi + w)) (fun w => t.ce (b * t.wi + w)) t.ce (g * t.wi) w).2 := by rw [ez]
      refine lv_iload hx hb d_T_joinRow_23 (lv_at hl 0 rfl) ?_
      refine lv_aload_n hx hb d_T_joinRow_25 rfl (lv_at hl 3 rfl) ?_
      refine gF (v := .int (nI t.wi)) hx hb hown hE hK hP 0 rfl rfl layT 2 (by decide) w1367 rfl d_T_joinRow_26 ?_
      refine lv_icmp_ge hx hb d_T_joinRow_29 (tgt := 133) rfl (fun g1 => ?_) (fun g1 => ?_)
      · have g1 := (nI_leI (a := t.wi) (b := w) (by omega) (by omega)).mp g1
        refine lv_aload_n hx hb d_T_joinRow_133 rfl (lv_at hl 3 rfl) ?_
        refine gF (v := .ref (ta 3)) hx hb hown hE hK hP 0 rfl rfl layT 5 (by decide) w788 rfl d_T_joinRow_134 ?_
        refine lv_iload hx hb d_T_joinRow_137 (lv_at hl 9 rfl) ?_
        refine lv_lload hx hb d_T_joinRow_139 (lv_at hl 1 rfl) ?_
        refine nlst (n := 256) hx hb hK hP hD hS (3) 2 rfl rfl (g) (by omega) (by decide) d_T_joinRow_141 (fun H locs hP hD hS => ?_)
        have hP : va_P D vwCl (TbW dA ta (TB.s_ce (TB.s_th t (va_up t.th g st)) z) ++ (TbW dA tb u ++ (ws))) H := hP
        have hD : va_D A (TbW dA ta (TB.s_ce (TB.s_th t (va_up t.th g st)) z) ++ (TbW dA tb u ++ (ws))) := hD
        have e9 : (TB.s_ce (TB.s_th t (va_up t.th g st)) z : TB) = TB.s_ce (TB.s_th t (va_up t.th g (jrW sg ((u.th a) &&& (t.th b)) (fun w => u.ce (a * u.wi + w)) (fun w => t.ce (b * t.wi + w)) t.ce (g * t.wi) t.wi).1)) ((jrW sg ((u.th a) &&& (t.th b)) (fun w => u.ce (a * u.wi + w)) (fun w => t.ce (b * t.wi + w)) t.ce (g * t.wi) t.wi).2) := by rw [show (va_up t.th g (jrW sg ((u.th a) &&& (t.th b)) (fun w => u.ce (a * u.wi + w)) (fun w => t.ce (b * t.wi + w)) t.ce (g * t.wi) t.wi).1) = (va_up t.th g st) from by (have e8 := ez; rw [show w = t.wi by omega] at e8; rw [e8]), show ((jrW sg ((u.th a) &&& (t.th b)) (fun w => u.ce (a * u.wi + w)) (fun w => t.ce (b * t.wi + w)) t.ce (g * t.wi) t.wi).2) = z from by (have e8 := ez; rw [show w = t.wi by omega] at e8; rw [e8])] <;> rfl
        rw [e9] at hP hD
        exact rfV hx hb hr hlk hS () trivial hP hD (Nat.le_of_ble_eq_true rfl) (Nat.le_of_ble_eq_true rfl) d_T_joinRow_142
      · have g1 := mt (nI_leI (a := t.wi) (b := w) (by omega) (by omega)).mpr g1
        refine lv_aload_n hx hb d_T_joinRow_32 rfl (lv_at hl 5 rfl) ?_
        refine lv_iload_n hx hb d_T_joinRow_33 rfl (lv_at hl 6 rfl) ?_
        refine lv_iload hx hb d_T_joinRow_34 (lv_at hl 0 rfl) ?_
        have hP := pmP (show List.Perm (α := Nat × va_E) (TbW dA ta (TB.s_ce t z) ++ (TbW dA tb u ++ (ws))) (TbW dA tb u ++ (TbW dA ta (TB.s_ce t z) ++ (ws))) from List.perm_append_comm_assoc (TbW dA ta (TB.s_ce t z)) (TbW dA tb u) (ws)) hP
        have hD := pmD (show List.Perm (α := Nat × va_E) (TbW dA ta (TB.s_ce t z) ++ (TbW dA tb u ++ (ws))) (TbW dA tb u ++ (TbW dA ta (TB.s_ce t z) ++ (ws))) from List.perm_append_comm_assoc (TbW dA ta (TB.s_ce t z)) (TbW dA tb u) (ws)) hD
        refine jkL (wr := []) (rnV (As := [.int (nI a), .int (nI w)]) (rest := []) hx hb hml hown hE hK (hN _ _ hS) hP hD (v_TnumberAt l D dA H.size (TbW dA ta (TB.s_ce t z) ++ (ws)) tb u a w hcM (show a * u.wi + w < u.cN by omega)) (q0 := 0) rfl rfl w1414 w1413 w1415 w1416 w807 rfl rfl ⟨⟨by decide, by decide⟩, rfl⟩ ⟨(Nat.le_of_ble_eq_true rfl), (Nat.le_of_ble_eq_true rfl)⟩ rfl hl.1 rfl (Nat.le_of_ble_eq_true rfl) d_T_joinRow_36 ⟨(Nat.le_of_ble_eq_true rfl), (Nat.le_of_ble_eq_true rfl)⟩) hP hD hS hA (fun r2 u3 H locs hp9 hP hD hS => ?_)
        have hP : va_P D vwCl (TbW dA tb u ++ (TbW dA ta (TB.s_ce t z) ++ (ws))) H := hP
        have hD : va_D A (TbW dA tb u ++ (TbW dA ta (TB.s_ce t z) ++ (ws))) := hD
        replace hp9 : u.ce (a * u.wi + w) = r2 := Eq.symm hp9
        subst hp9
        refine tpl (y := (fun w => u.ce (a * u.wi + w)) w) rfl ?_
        refine lv_lstore hx hb d_T_joinRow_39 hl (by decide) rfl (fun ls hl => ?_)
        have hl : lv_has ls 17 [(12, .long ((fun w => u.ce (a * u.wi + w)) w)), (11, .int (nI w)), (9, .long st), (7, .long ((u.th a) &&& (t.th b))), (0, .ref (ta 0)), (1, .int sg), (2, .ref (tb 0)), (3, .int (nI a)), (4, .ref (ta 0)), (5, .int (nI b)), (6, .int (nI g))] := hl
        refine lv_aload hx hb d_T_joinRow_41 (lv_at hl 8 rfl) ?_
        refine lv_iload hx hb d_T_joinRow_43 (lv_at hl 9 rfl) ?_
        refine lv_iload hx hb d_T_joinRow_45 (lv_at hl 1 rfl) ?_
        have hP := pmP (show List.Perm (α := Nat × va_E) (TbW dA tb u ++ (TbW dA ta (TB.s_ce t z) ++ (ws))) (TbW dA ta (TB.s_ce t z) ++ (TbW dA tb u ++ (ws))) from List.perm_append_comm_assoc (TbW dA tb u) (TbW dA ta (TB.s_ce t z)) (ws)) hP
        have hD := pmD (show List.Perm (α := Nat × va_E) (TbW dA tb u ++ (TbW dA ta (TB.s_ce t z) ++ (ws))) (TbW dA ta (TB.s_ce t z) ++ (TbW dA tb u ++ (ws))) from List.perm_append_comm_assoc (TbW dA tb u) (TbW dA ta (TB.s_ce t z)) (ws)) hD
        refine jkL (wr := []) (rnV (As := [.int (nI b), .int (nI w)]) (rest := []) hx hb hml hown hE hK (hN _ _ hS) hP hD (v_TnumberAt l D dA H.size (TbW dA tb u ++ (ws)) ta (TB.s_ce t z) b w hcN (show b * t.wi + w < t.cN by omega)) (q0 := 0) rfl rfl w1414 w1413 w1415 w1416 w807 rfl rfl ⟨⟨by decide, by decide⟩, rfl⟩ ⟨(Nat.le_of_ble_eq_true rfl), (Nat.le_of_ble_eq_true rfl)⟩ rfl hl.1 rfl (Nat.le_of_ble_eq_true rfl) d_T_joinRow_47 ⟨(Nat.le_of_ble_eq_true rfl), (Nat.le_of_ble_eq_true rfl)⟩) hP hD hS hA (fun r4 u5 H locs hp9 hP hD hS => ?_)
        have hP : va_P D vwCl (TbW dA ta (TB.s_ce t z) ++ (TbW dA tb u ++ (ws))) H := hP
        have hD : va_D A (TbW dA ta (TB.s_ce t z) ++ (TbW dA tb u ++ (ws))) := hD
        replace hp9 : z (b * t.wi + w) = r4 := Eq.symm hp9
        subst hp9
        refine tpl (y := (fun w => t.ce (b * t.wi + w)) w) (by rw [hz]; exact jrW_at (jl_in hgb (by omega))) ?_
        refine lv_lstore hx hb d_T_joinRow_50 hl (by decide) rfl (fun ls hl => ?_)
        have hl : lv_has ls 17 [(14, .long ((fun w => t.ce (b * t.wi + w)) w)), (12, .long ((fun w => u.ce (a * u.wi + w)) w)), (11, .int (nI w)), (9, .long st), (7, .long ((u.th a) &&& (t.th b))), (0, .ref (ta 0)), (1, .int sg), (2, .ref (tb 0)), (3, .int (nI a)), (4, .ref (ta 0)), (5, .int (nI b)), (6, .int (nI g))] := hl
        have J71 : ∀ (dv : Bool) (edv : (decide (sg = 47) || decide (sg = 37)) = dv), ∀ (H : Heap) (locs : List Loc) (ls : Array Slot) (hP : va_P D vwCl (TbW dA ta (TB.s_ce t z) ++ (TbW dA tb u ++ (ws))) H) (hD : va_D A (TbW dA ta (TB.s_ce t z) ++ (TbW dA tb u ++ (ws)))) (hS : va_S A s.heap H locs) (hl : lv_has ls 17 [(11, .int (nI w)), (9, .long st), (7, .long ((u.th a) &&& (t.th b))), (0, .ref (ta 0)), (1, .int sg), (2, .ref (tb 0)), (3, .int (nI a)), (4, .ref (ta 0)), (5, .int (nI b)), (6, .int (nI g)), (16, .int (bI dv)), (12, .long ((fun w => u.ce (a * u.wi + w)) w)), (14, .long ((fun w => t.ce (b * t.wi + w)) w))]), W p l e ({ frames := 2, cells := 0, slots := 0, locals := 24 } : Room) s m ([.ref (ta 0), .int sg, .ref (tb 0), .int (nI a), .ref (ta 0), .int (nI b), .int (nI g)] : List Value).toArray below meth c H locs 0 0 (MQ below (va_Qv (fun (u9 : Unit) => True) (fun (u9 : Unit) t9 => bW D A (TbW dA ta (TB.s_ce (TB.s_th t (va_up t.th g (jrW sg ((u.th a) &&& (t.th b)) (fun w => u.ce (a * u.wi + w)) (fun w => t.ce (b * t.wi + w)) t.ce (g * t.wi) t.wi).1)) ((jrW sg ((u.th a) &&& (t.th b)) (fun w => u.ce (a * u.wi + w)) (fun w => t.ce (b * t.wi + w)) t.ce (g * t.wi) t.wi).2)) ++ (TbW dA tb u ++ (ws))) t9) A) ([.ref (ta 0), .int sg, .ref (tb 0), .int (nI a), .ref (ta 0), .int (nI b), .int (nI g)] : List Value).toArray s 0 0 A) (F0 m 71 ls []) := by
          intro dv edv H locs ls hP hD hS hl
          refine lv_lload hx hb d_T_joinRow_71 (lv_at hl 2 rfl) ?_
          refine lv_iload hx hb d_T_joinRow_73 (lv_at hl 0 rfl) ?_
          refine lv_lushr (v := ushL ((u.th a) &&& (t.th b)) (nI w)) hx hb d_T_joinRow_75 rfl ?_
          refine lv_lconst (v := 1) hx hb d_T_joinRow_76 (by decide) ?_
          refine lv_land hx hb d_T_joinRow_77 ?_
          refine lv_lconst (v := 1) hx hb d_T_joinRow_78 (by decide) ?_
          refine W.lcmp hx hb d_T_joinRow_79 ?_
          refine lv_if_ne hx hb d_T_joinRow_80 (tgt := 127) rfl (fun g6 => ?_) (fun g6 => ?_)
          · have g6 := mt (lg_cmp_eq _ _).mpr g6
            refine lv_iinc (k := 0) (v := nI (w + 1)) hx hb d_T_joinRow_127 hl rfl (iincN (w) 1 1 (by decide)) (by decide) rfl (fun ls hl => ?_)
            have hl : lv_has ls 17 [(11, .int (nI (w + 1))), (9, .long st), (7, .long ((u.th a) &&& (t.th b))), (0, .ref (ta 0)), (1, .int sg), (2, .ref (tb 0)), (3, .int (nI a)), (4, .ref (ta 0)), (5, .int (nI b)), (6, .int (nI g)), (16, .int (bI dv)), (12, .long ((fun w => u.ce (a * u.wi + w)) w)), (14, .long ((fun w => t.ce (b * t.wi + w)) w))] := hl
            refine lv_goto hx hb d_T_joinRow_130 (tgt := 23) rfl ?_
            exact ih23 _ (by omega) (w + 1) st z (by omega) (jrW_f (R := fun w => t.ce (b * t.wi + w)) (by unfold jnS; rw [decide_eq_false g6]; rfl) ez) rfl H _ ls hP hD hS (lv_sub hl [0, 1, 2, 3, 4, 5, 6, 7, 8, 9] rfl)
          · have g6 := (lg_cmp_eq _ _).mp g6
            refine lv_iload hx hb d_T_joinRow_83 (lv_at hl 10 rfl) ?_
            refine lv_if_eq hx hb d_T_joinRow_85 (tgt := 95) rfl (fun g7 => ?_) (fun g7 => ?_)
            · have g7 := bI_0 g7
              refine lv_lload hx hb d_T_joinRow_95 (lv_at hl 1 rfl) ?_
              refine lv_lconst (v := 1) hx hb d_T_joinRow_97 (by decide) ?_
              refine lv_iload hx hb d_T_joinRow_98 (lv_at hl 0 rfl) ?_
              refine lv_lshl hx hb d_T_joinRow_100 rfl ?_
              refine lv_lor hx hb d_T_joinRow_101 ?_
              refine lv_lstore hx hb d_T_joinRow_102 hl (by decide) rfl (fun ls hl => ?_)
              have hl : lv_has ls 17 [(9, .long (st ||| (1 <<< ((nI w).toInt64 &&& 63)))), (11, .int (nI w)), (7, .long ((u.th a) &&& (t.th b))), (0, .ref (ta 0)), (1, .int sg), (2, .ref (tb 0)), (3, .int (nI a)), (4, .ref (ta 0)), (5, .int (nI b)), (6, .int (nI g)), (16, .int (bI dv)), (12, .long ((fun w => u.ce (a * u.wi + w)) w)), (14, .long ((fun w => t.ce (b * t.wi + w)) w))] := hl
              refine lv_aload_n hx hb d_T_joinRow_104 rfl (lv_at hl 3 rfl) ?_
              refine gF (v := .ref t.cA) hx hb hown hE hK hP 0 rfl rfl layT 6 (by decide) w789 rfl d_T_joinRow_105 ?_
              refine lv_iload hx hb d_T_joinRow_108 (lv_at hl 9 rfl) ?_
              refine lv_aload_n hx hb d_T_joinRow_110 rfl (lv_at hl 3 rfl) ?_
              refine gF (v := .int (nI t.wi)) hx hb hown hE hK hP 0 rfl rfl layT 2 (by decide) w1367 rfl d_T_joinRow_111 ?_
              refine lv_imul hx hb d_T_joinRow_114 (tpi (y := nI (g * t.wi)) (pk_mul (g) (t.wi)) ?_)
              refine lv_iload hx hb d_T_joinRow_115 (lv_at hl 1 rfl) ?_
              refine lv_iadd hx hb d_T_joinRow_117 (tpi (y := nI ((g * t.wi) + w)) (nI_add (g * t.wi) (w)) ?_)
              refine lv_iload_n hx hb d_T_joinRow_118 rfl (lv_at hl 4 rfl) ?_
              refine lv_lload hx hb d_T_joinRow_119 (lv_at hl 11 rfl) ?_
              refine lv_lload hx hb d_T_joinRow_121 (lv_at hl 12 rfl) ?_
              have hPc := hP.sub (ws' := []) [] rfl
              have hDc := hD.sub (ws' := []) [] (by decide) rfl
              refine jpL (rnS (As := [.int sg, .long ((fun w => u.ce (a * u.wi + w)) w), .long ((fun w => t.ce (b * t.wi + w)) w)]) (rest := [.int (nI ((g * t.wi) + w)), .ref t.cA]) hx hb hml hown hE hK (hN _ _ hS) hPc hDc (v_Tjoined l D dA H.size sg ((fun w => u.ce (a * u.wi + w)) w) ((fun w => t.ce (b * t.wi + w)) w) hop) w1418 w1417 w1419 w807 rfl rfl ⟨⟨by decide, by decide⟩, rfl⟩ ⟨(Nat.le_of_ble_eq_true rfl), (Nat.le_of_ble_eq_true rfl)⟩ rfl hl.1 rfl (Nat.le_of_ble_eq_true rfl) d_T_joinRow_123 ⟨(Nat.le_of_ble_eq_true rfl), (Nat.le_of_ble_eq_true rfl)⟩) hP hD hS hA (fun r8 u9 H locs hp9 hP hD hS => ?_)
              have hP : va_P D vwCl (TbW dA ta (TB.s_ce t z) ++ (TbW dA tb u ++ (ws))) H := hP
              have hD : va_D A (TbW dA ta (TB.s_ce t z) ++ (TbW dA tb u ++ (ws))) := hD
              replace hp9 : jnVl sg ((fun w => u.ce (a * u.wi + w)) w) ((fun w => t.ce (b * t.wi + w)) w) = r8 := Eq.symm hp9
              subst hp9
              refine nlst (n := t.cN) hx hb hK hP hD hS (4) 2 rfl rfl ((g * t.wi) + w) (by omega) (by omega) d_T_joinRow_126 (fun H locs hP hD hS => ?_)
              have hP : va_P D vwCl (TbW dA ta (TB.s_ce t (va_up z ((g * t.wi) + w) (jnVl sg ((fun w => u.ce (a * u.wi + w)) w) ((fun w => t.ce (b * t.wi + w)) w)))) ++ (TbW dA tb u ++ (ws))) H := hP
              have hD : va_D A (TbW dA ta (TB.s_ce t (va_up z ((g * t.wi) + w) (jnVl sg ((fun w => u.ce (a * u.wi + w)) w) ((fun w => t.ce (b * t.wi + w)) w)))) ++ (TbW dA tb u ++ (ws))) := hD
              refine lv_iinc (k := 1) (v := nI (w + 1)) hx hb d_T_joinRow_127 hl rfl (iincN (w) 1 1 (by decide)) (by decide) rfl (fun ls hl => ?_)
              have hl : lv_has ls 17 [(11, .int (nI (w + 1))), (9, .long (st ||| (1 <<< ((nI w).toInt64 &&& 63)))), (7, .long ((u.th a) &&& (t.th b))), (0, .ref (ta 0)), (1, .int sg), (2, .ref (tb 0)), (3, .int (nI a)), (4, .ref (ta 0)), (5, .int (nI b)), (6, .int (nI g)), (16, .int (bI dv)), (12, .long ((fun w => u.ce (a * u.wi + w)) w)), (14, .long ((fun w => t.ce (b * t.wi + w)) w))] := hl
              refine lv_goto hx hb d_T_joinRow_130 (tgt := 23) rfl ?_
              exact ih23 _ (by omega) (w + 1) (st ||| (1 <<< ((nI w).toInt64 &&& 63))) (va_up z ((g * t.wi) + w) (jnVl sg ((fun w => u.ce (a * u.wi + w)) w) ((fun w => t.ce (b * t.wi + w)) w))) (by omega) (jrW_t (R := fun w => t.ce (b * t.wi + w)) (by unfold jnS; rw [decide_eq_true g6, show (decide (sg = 47) || decide (sg = 37)) = false from edv.trans g7]; rfl) ez) rfl H _ ls hP hD hS (lv_sub hl [0, 1, 2, 3, 4, 5, 6, 7, 8, 9] rfl)
            · have g7 := bI_n0 g7
              refine lv_lload hx hb d_T_joinRow_88 (lv_at hl 12 rfl) ?_
              refine lv_lconst (v := 0) hx hb d_T_joinRow_90 (by decide) ?_
              refine W.lcmp hx hb d_T_joinRow_91 ?_
              refine lv_if_eq hx hb d_T_joinRow_92 (tgt := 127) rfl (fun g10 => ?_) (fun g10 => ?_)
              · have g10 := (lg_cmp_eq _ _).mp g10
                refine lv_iinc (k := 0) (v := nI (w + 1)) hx hb d_T_joinRow_127 hl rfl (iincN (w) 1 1 (by decide)) (by decide) rfl (fun ls hl => ?_)
                have hl : lv_has ls 17 [(11, .int (nI (w + 1))), (9, .long st), (7, .long ((u.th a) &&& (t.th b))), (0, .ref (ta 0)), (1, .int sg), (2, .ref (tb 0)), (3, .int (nI a)), (4, .ref (ta 0)), (5, .int (nI b)), (6, .int (nI g)), (16, .int (bI dv)), (12, .long ((fun w => u.ce (a * u.wi + w)) w)), (14, .long ((fun w => t.ce (b * t.wi + w)) w))] := hl
                refine lv_goto hx hb d_T_joinRow_130 (tgt := 23) rfl ?_
                exact ih23 _ (by omega) (w + 1) st z (by omega) (jrW_f (R := fun w => t.ce (b * t.wi + w)) (by unfold jnS; rw [decide_eq_true g6, show (decide (sg = 47) || decide (sg = 37)) = true from edv.trans g7, decide_eq_true g10]; rfl) ez) rfl H _ ls hP hD hS (lv_sub hl [0, 1, 2, 3, 4, 5, 6, 7, 8, 9] rfl)
              · have g10 := mt (lg_cmp_eq _ _).mpr g10
                refine lv_lload hx hb d_T_joinRow_95 (lv_at hl 1 rfl) ?_
                refine lv_lconst (v := 1) hx hb d_T_joinRow_97 (by decide) ?_
                refine lv_iload hx hb d_T_joinRow_98 (lv_at hl 0 rfl) ?_
                refine lv_lshl hx hb d_T_joinRow_100 rfl ?_
                refine lv_lor hx hb d_T_joinRow_101 ?_
                refine lv_lstore hx hb d_T_joinRow_102 hl (by decide) rfl (fun ls hl => ?_)
                have hl : lv_has ls 17 [(9, .long (st ||| (1 <<< ((nI w).toInt64 &&& 63)))), (11, .int (nI w)), (7, .long ((u.th a) &&& (t.th b))), (0, .ref (ta 0)), (1, .int sg), (2, .ref (tb 0)), (3, .int (nI a)), (4, .ref (ta 0)), (5, .int (nI b)), (6, .int (nI g)), (16, .int (bI dv)), (12, .long ((fun w => u.ce (a * u.wi + w)) w)), (14, .long ((fun w => t.ce (b * t.wi + w)) w))] := hl
                refine lv_aload_n hx hb d_T_joinRow_104 rfl (lv_at hl 3 rfl) ?_
                refine gF (v := .ref t.cA) hx hb hown hE hK hP 0 rfl rfl layT 6 (by decide) w789 rfl d_T_joinRow_105 ?_
                refine lv_iload hx hb d_T_joinRow_108 (lv_at hl 9 rfl) ?_
                refine lv_aload_n hx hb d_T_joinRow_110 rfl (lv_at hl 3 rfl) ?_
                refine gF (v := .int (nI t.wi)) hx hb hown hE hK hP 0 rfl rfl layT 2 (by decide) w1367 rfl d_T_joinRow_111 ?_
                refine lv_imul hx hb d_T_joinRow_114 (tpi (y := nI (g * t.wi)) (pk_mul (g) (t.wi)) ?_)
                refine lv_iload hx hb d_T_joinRow_115 (lv_at hl 1 rfl) ?_
                refine lv_iadd hx hb d_T_joinRow_117 (tpi (y := nI ((g * t.wi) + w)) (nI_add (g * t.wi) (w)) ?_)
                refine lv_iload_n hx hb d_T_joinRow_118 rfl (lv_at hl 4 rfl) ?_
                refine lv_lload hx hb d_T_joinRow_119 (lv_at hl 11 rfl) ?_
                refine lv_lload hx hb d_T_joinRow_121 (lv_at hl 12 rfl) ?_
                have hPc := hP.sub (ws' := []) [] rfl
                have hDc := hD.sub (ws' := []) [] (by decide) rfl
                refine jpL (rnS (As := [.int sg, .long ((fun w => u.ce (a * u.wi + w)) w), .long ((fun w => t.ce (b * t.wi + w)) w)]) (rest := [.int (nI ((g * t.wi) + w)), .ref t.cA]) hx hb hml hown hE hK (hN _ _ hS) hPc hDc (v_Tjoined l D dA H.size sg ((fun w => u.ce (a * u.wi + w)) w) ((fun w => t.ce (b * t.wi + w)) w) hop) w1418 w1417 w1419 w807 rfl rfl ⟨⟨by decide, by decide⟩, rfl⟩ ⟨(Nat.le_of_ble_eq_true rfl), (Nat.le_of_ble_eq_true rfl)⟩ rfl hl.1 rfl (Nat.le_of_ble_eq_true rfl) d_T_joinRow_123 ⟨(Nat.le_of_ble_eq_true rfl), (Nat.le_of_ble_eq_true rfl)⟩) hP hD hS hA (fun r11 u9 H locs hp9 hP hD hS => ?_)
                have hP : va_P D vwCl (TbW dA ta (TB.s_ce t z) ++ (TbW dA tb u ++ (ws))) H := hP
                have hD : va_D A (TbW dA ta (TB.s_ce t z) ++ (TbW dA tb u ++ (ws))) := hD
                replace hp9 : jnVl sg ((fun w => u.ce (a * u.wi + w)) w) ((fun w => t.ce (b * t.wi + w)) w) = r11 := Eq.symm hp9
                subst hp9
                refine nlst (n := t.cN) hx hb hK hP hD hS (4) 2 rfl rfl ((g * t.wi) + w) (by omega) (by omega) d_T_joinRow_126 (fun H locs hP hD hS => ?_)
                have hP : va_P D vwCl (TbW dA ta (TB.s_ce t (va_up z ((g * t.wi) + w) (jnVl sg ((fun w => u.ce (a * u.wi + w)) w) ((fun w => t.ce (b * t.wi + w)) w)))) ++ (TbW dA tb u ++ (ws))) H := hP
                have hD : va_D A (TbW dA ta (TB.s_ce t (va_up z ((g * t.wi) + w) (jnVl sg ((fun w => u.ce (a * u.wi + w)) w) ((fun w => t.ce (b * t.wi + w)) w)))) ++ (TbW dA tb u ++ (ws))) := hD
                refine lv_iinc (k := 1) (v := nI (w + 1)) hx hb d_T_joinRow_127 hl rfl (iincN (w) 1 1 (by decide)) (by decide) rfl (fun ls hl => ?_)
                have hl : lv_has ls 17 [(11, .int (nI (w + 1))), (9, .long (st ||| (1 <<< ((nI w).toInt64 &&& 63)))), (7, .long ((u.th a) &&& (t.th b))), (0, .ref (ta 0)), (1, .int sg), (2, .ref (tb 0)), (3, .int (nI a)), (4, .ref (ta 0)), (5, .int (nI b)), (6, .int (nI g)), (16, .int (bI dv)), (12, .long ((fun w => u.ce (a * u.wi + w)) w)), (14, .long ((fun w => t.ce (b * t.wi + w)) w))] := hl
                refine lv_goto hx hb d_T_joinRow_130 (tgt := 23) rfl ?_
                exact ih23 _ (by omega) (w + 1) (st ||| (1 <<< ((nI w).toInt64 &&& 63))) (va_up z ((g * t.wi) + w) (jnVl sg ((fun w => u.ce (a * u.wi + w)) w) ((fun w => t.ce (b * t.wi + w)) w))) (by omega) (jrW_t (R := fun w => t.ce (b * t.wi + w)) (by unfold jnS; rw [decide_eq_true g6, decide_eq_false g10, Bool.and_false]; rfl) ez) rfl H _ ls hP hD hS (lv_sub hl [0, 1, 2, 3, 4, 5, 6, 7, 8, 9] rfl)
        refine lv_iload_n hx hb d_T_joinRow_52 rfl (lv_at hl 6 rfl) ?_
        refine lv_bipush (v := 47) hx hb d_T_joinRow_53 (by decide) ?_
        refine lv_icmp_eq hx hb d_T_joinRow_55 (tgt := 64) rfl (fun g13 => ?_) (fun g13 => ?_)
        · have g13 := g13
          refine lv_iconst (v := 1) hx hb d_T_joinRow_64 (by decide) ?_
          refine lv_goto hx hb d_T_joinRow_65 (tgt := 69) rfl ?_
          refine lv_istore hx hb d_T_joinRow_69 hl (by decide) rfl (fun ls hl => ?_)
          have hl : lv_has ls 17 [(16, .int 1), (14, .long ((fun w => t.ce (b * t.wi + w)) w)), (12, .long ((fun w => u.ce (a * u.wi + w)) w)), (11, .int (nI w)), (9, .long st), (7, .long ((u.th a) &&& (t.th b))), (0, .ref (ta 0)), (1, .int sg), (2, .ref (tb 0)), (3, .int (nI a)), (4, .ref (ta 0)), (5, .int (nI b)), (6, .int (nI g))] := hl
          exact J71 true (by rw [decide_eq_true g13]; rfl) H _ ls hP hD hS (lv_sub hl [3, 4, 5, 6, 7, 8, 9, 10, 11, 12, 0, 2, 1] rfl)
        · have g13 := g13
          refine lv_iload_n hx hb d_T_joinRow_58 rfl (lv_at hl 6 rfl) ?_
          refine lv_bipush (v := 37) hx hb d_T_joinRow_59 (by decide) ?_
          refine lv_icmp_ne hx hb d_T_joinRow_61 (tgt := 68) rfl (fun g14 => ?_) (fun g14 => ?_)
          · have g14 := g14
            refine lv_iconst (v := 0) hx hb d_T_joinRow_68 (by decide) ?_
            refine lv_istore hx hb d_T_joinRow_69 hl (by decide) rfl (fun ls hl => ?_)
            have hl : lv_has ls 17 [(16, .int 0), (14, .long ((fun w => t.ce (b * t.wi + w)) w)), (12, .long ((fun w => u.ce (a * u.wi + w)) w)), (11, .int (nI w)), (9, .long st), (7, .long ((u.th a) &&& (t.th b))), (0, .ref (ta 0)), (1, .int sg), (2, .ref (tb 0)), (3, .int (nI a)), (4, .ref (ta 0)), (5, .int (nI b)), (6, .int (nI g))] := hl
            exact J71 false (by rw [decide_eq_false g13, decide_eq_false g14]; rfl) H _ ls hP hD hS (lv_sub hl [3, 4, 5, 6, 7, 8, 9, 10, 11, 12, 0, 2, 1] rfl)
          · have g14 := g14
            refine lv_iconst (v := 1) hx hb d_T_joinRow_64 (by decide) ?_
            refine lv_goto hx hb d_T_joinRow_65 (tgt := 69) rfl ?_
            refine lv_istore hx hb d_T_joinRow_69 hl (by decide) rfl (fun ls hl => ?_)
            have hl : lv_has ls 17 [(16, .int 1), (14, .long ((fun w => t.ce (b * t.wi + w)) w)), (12, .long ((fun w => u.ce (a * u.wi + w)) w)), (11, .int (nI w)), (9, .long st), (7, .long ((u.th a) &&& (t.th b))), (0, .ref (ta 0)), (1, .int sg), (2, .ref (tb 0)), (3, .int (nI a)), (4, .ref (ta 0)), (5, .int (nI b)), (6, .int (nI g))] := hl
            exact J71 true (by rw [decide_eq_false g13, decide_eq_true g14]; rfl) H _ ls hP hD hS (lv_sub hl [3, 4, 5, 6, 7, 8, 9, 10, 11, 12, 0, 2, 1] rfl)
  exact L23 _ 0 0 t.ce (Nat.zero_le _) rfl rfl H _ ls hP hD hS (lv_sub hl [0, 1, 2, 3, 4, 5, 6, 7, 8, 9] rfl)
end
