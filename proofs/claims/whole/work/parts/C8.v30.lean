/-! Tables. -/
def hasB (z : Int64) (w : Nat) : Bool := decide (ushL z (nI w) &&& 1 = 1)
def bitL (w : Nat) : Int64 := 1 <<< ((nI w).toInt64 &&& 63)
def tnG (f : Nat → Int64) : Nat → Nat → Int64
  | 0 => f
  | i + 1 => va_up (tnG f i) i (-(f i))
theorem tnG_at (f : Nat → Int64) : ∀ {i q : Nat}, i ≤ q → tnG f i q = f q
  | 0, q, _ => rfl
  | i + 1, q, h => by
    show va_up (tnG f i) i (-(f i)) q = f q
    rw [va_up_ne _ _ (by omega), tnG_at f (by omega)]
/-- the names of a table; how the texts of two series compare -/
def nmOk (dA : Nat → ClassId) (ws : va_W) (nm : Nat → Option Nat) (n : Nat) (NL : Nat → List Int32) : Prop := ∀ k, k < n → ∃ p : Nat, nm k = some p ∧ isWo dA ws p (NL k) ∧ (NL k).length ≤ 65536
theorem nmOk_m {dA : Nat → ClassId} {ws ws' : va_W} {nm : Nat → Option Nat} {n : Nat} {NL : Nat → List Int32} (hs : ∀ c, c ∈ ws → c ∈ ws') (h : nmOk dA ws nm n NL) : nmOk dA ws' nm n NL := by
  intro k hk
  obtain ⟨p, a, b, c⟩ := h k hk
  exact ⟨p, a, isWo_m hs b, c⟩
def ctC (NL : Nat → List Int32) (S1 S2 : List LB) (k : Nat) : Int32 := cmpW (valS S1 (NL k)) (valS S2 (NL k))
def ctB (NL : Nat → List Int32) (S1 S2 : List LB) (k : Nat) : Bool := !decide (ctC NL S1 S2 k = 0)
def cmT (NL : Nat → List Int32) (n : Nat) (S1 S2 : List LB) : Int32 := match frst (ctB NL S1 S2) n 0 with
  | none => 0
  | some k => ctC NL S1 S2 k
theorem cmT_n {NL : Nat → List Int32} {n : Nat} {S1 S2 : List LB} (h : frst (ctB NL S1 S2) n 0 = none) : cmT NL n S1 S2 = 0 := by unfold cmT; rw [h]
theorem cmT_s {NL : Nat → List Int32} {n k : Nat} {S1 S2 : List LB} (h : frst (ctB NL S1 S2) n 0 = some k) : cmT NL n S1 S2 = ctC NL S1 S2 k := by unfold cmT; rw [h]
theorem valS_le {S : List LB} {M : List Int32} (h : serOk S) : (valS S M).length ≤ 24 := by
  cases e : frst (vsB S M) S.length 0 with
  | none => rw [valS_n e]; exact Nat.zero_le _
  | some k =>
    rw [valS_s e]
    have := frst_lt e
    exact (h.2 k (by omega)).2
/-- what a sign makes of two numbers -/
def jnVl (sg : Int32) (u y : Int64) : Int64 := if sg = 43 then u + y else if sg = 45 then u - y else if sg = 42 then u * y else if y = 0 then 0 else if sg = 47 then u / y else u - u / y * y
def jnS (sg : Int32) (both : Int64) (y : Int64) (w : Nat) : Bool := decide (ushL both (nI w) &&& 1 = 1) && !((decide (sg = 47) || decide (sg = 37)) && decide (y = 0))
/-- a row of cells joined: the bits that stay, the cells -/
def jrW (sg : Int32) (both : Int64) (L R : Nat → Int64) (f : Nat → Int64) (b : Nat) : Nat → Int64 × (Nat → Int64)
  | 0 => (0, f)
  | w + 1 => if jnS sg both (R w) w = true then ((jrW sg both L R f b w).1 ||| bitL w, va_up (jrW sg both L R f b w).2 (b + w) (jnVl sg (L w) (R w))) else jrW sg both L R f b w
abbrev TB : Type := (Nat → Option Nat) × Nat × Nat × Nat × (Nat → Option Nat) × (Nat → Int64) × Nat × Nat × (Nat → Int64)
abbrev TB.nm (x : TB) : Nat → Option Nat := x.1
abbrev TB.s_nm (x : TB) (v : Nat → Option Nat) : TB := (v, x.2)
abbrev TB.nc (x : TB) : Nat := x.2.1
abbrev TB.s_nc (x : TB) (v : Nat) : TB := (x.1, v, x.2.2)
abbrev TB.wi (x : TB) : Nat := x.2.2.1
abbrev TB.s_wi (x : TB) (v : Nat) : TB := (x.1, x.2.1, v, x.2.2.2)
abbrev TB.rc (x : TB) : Nat := x.2.2.2.1
abbrev TB.s_rc (x : TB) (v : Nat) : TB := (x.1, x.2.1, x.2.2.1, v, x.2.2.2.2)
abbrev TB.rs (x : TB) : Nat → Option Nat := x.2.2.2.2.1
abbrev TB.s_rs (x : TB) (v : Nat → Option Nat) : TB := (x.1, x.2.1, x.2.2.1, x.2.2.2.1, v, x.2.2.2.2.2)
abbrev TB.th (x : TB) : Nat → Int64 := x.2.2.2.2.2.1
abbrev TB.s_th (x : TB) (v : Nat → Int64) : TB := (x.1, x.2.1, x.2.2.1, x.2.2.2.1, x.2.2.2.2.1, v, x.2.2.2.2.2.2)
abbrev TB.cA (x : TB) : Nat := x.2.2.2.2.2.2.1
abbrev TB.s_cA (x : TB) (v : Nat) : TB := (x.1, x.2.1, x.2.2.1, x.2.2.2.1, x.2.2.2.2.1, x.2.2.2.2.2.1, v, x.2.2.2.2.2.2.2)
abbrev TB.cN (x : TB) : Nat := x.2.2.2.2.2.2.2.1
abbrev TB.s_cN (x : TB) (v : Nat) : TB := (x.1, x.2.1, x.2.2.1, x.2.2.2.1, x.2.2.2.2.1, x.2.2.2.2.2.1, x.2.2.2.2.2.2.1, v, x.2.2.2.2.2.2.2.2)
abbrev TB.ce (x : TB) : Nat → Int64 := x.2.2.2.2.2.2.2.2
abbrev TB.s_ce (x : TB) (v : Nat → Int64) : TB := (x.1, x.2.1, x.2.2.1, x.2.2.2.1, x.2.2.2.2.1, x.2.2.2.2.2.1, x.2.2.2.2.2.2.1, x.2.2.2.2.2.2.2.1, v)
def TbWf (dA : Nat → ClassId) (ta : Nat → Nat) (x y : TB) : va_W := [(ta 0, .inr (8, [.ref (ta 1), .int (nI x.nc), .int (nI x.wi), .int (nI x.rc), .ref (ta 2), .ref (ta 3), .ref y.cA])), (ta 1, .inl (dA 6, 6, .inr (.inr (.inr (.inr x.nm))))), (ta 2, .inl (dA 5, 256, .inr (.inr (.inr (.inr x.rs))))), (ta 3, .inl (dA 2, 256, .inr (.inl x.th))), (x.cA, .inl (dA 2, x.cN, .inr (.inl x.ce)))]
def TbW (dA : Nat → ClassId) (ta : Nat → Nat) (x : TB) : va_W := TbWf dA ta x x
theorem d_T_numberAt_0 : decode prog_11_method_10_code 0 = .ok (.aload_n 0, 1) := by decide +kernel
theorem d_T_numberAt_1 : decode prog_11_method_10_code 1 = .ok (.getfield 27, 3) := by decide +kernel
theorem d_T_numberAt_4 : decode prog_11_method_10_code 4 = .ok (.iload_n 1, 1) := by decide +kernel
theorem d_T_numberAt_5 : decode prog_11_method_10_code 5 = .ok (.aload_n 0, 1) := by decide +kernel
theorem d_T_numberAt_6 : decode prog_11_method_10_code 6 = .ok (.getfield 30, 3) := by decide +kernel
theorem d_T_numberAt_9 : decode prog_11_method_10_code 9 = .ok (.imul, 1) := by decide +kernel
theorem d_T_numberAt_10 : decode prog_11_method_10_code 10 = .ok (.iload_n 2, 1) := by decide +kernel
theorem d_T_numberAt_11 : decode prog_11_method_10_code 11 = .ok (.iadd, 1) := by decide +kernel
theorem d_T_numberAt_12 : decode prog_11_method_10_code 12 = .ok (.laload, 1) := by decide +kernel
theorem d_T_numberAt_13 : decode prog_11_method_10_code 13 = .ok (.lreturn, 1) := by decide +kernel
theorem w1367 : Cond.fieldLink "SeriesVault$Table" 30 "SeriesVault$Table" "windows" "I" ∈ aW := aw_of (tb_2 (List.mem_of_getElem? (i := 57) rfl)) rfl
set_option maxHeartbeats 4000000 in
set_option maxRecDepth 100000 in
theorem v_TnumberAt (l : Launch) (D : va_G) (dA : Nat → ClassId) (sz : Nat) (ws : va_W) (ta : Nat → Nat) (t : TB) (r : Nat) (w : Nat) (hN : t.cN ≤ 65536) (h1 : r * t.wi + w < t.cN) : Met l ⟨"SeriesVault$Table", "numberAt", "(II)J"⟩ [Cond.code ⟨"SeriesVault$Table", "numberAt", "(II)J"⟩ prog_11_method_10_code 3 (some FieldType.long)] { frames := 1, cells := 0, slots := 0, locals := 0 } (pC D dA [.ref (ta 0), .int (nI r), .int (nI w)] (TbW dA ta t ++ (ws)) sz) (va_Ql (fun (r9 : Int64) (u9 : Unit) => r9 = t.ce (r * t.wi + w)) (fun (u9 : Unit) t9 => bW D (va_A (TbW dA ta t ++ (ws)) sz) (TbW dA ta t ++ (ws)) t9) (va_A (TbW dA ta t ++ (ws)) sz)) 0 0 (va_A (TbW dA ta t ++ (ws)) sz) := by
  refine mkC (y := ⟨"SeriesVault$Table", "numberAt", "(II)J"⟩) (cc := prog_11_method_10_code) (maxL := 3) (av := [.ref (ta 0), .int (nI r), .int (nI w)]) (ws := TbW dA ta t ++ (ws)) (sz := sz) (Qc := fun A => va_Ql (fun (r9 : Int64) (u9 : Unit) => r9 = t.ce (r * t.wi + w)) (fun (u9 : Unit) t9 => bW D A (TbW dA ta t ++ (ws)) t9) A) (by decide) (Nat.le_of_ble_eq_true rfl) ?_
  intro A p e s m below meth c ls hsz hB
  obtain ⟨hx, hb, hr, hml, hown, hin, hlk, hE, hK, hP, hD, hS, hA, hN, hl⟩ := hB
  have hown : s.vm.findClass "SeriesVault$Table" = some m.cls := hown
  have hl : lv_has ls 3 [(0, .ref (ta 0)), (1, .int (nI r)), (2, .int (nI w))] := hl
  obtain ⟨H, hH⟩ : ∃ z, z = s.heap := ⟨_, rfl⟩
  have hP : va_P D vwCl (TbW dA ta t ++ (ws)) H := by rw [hH]; exact hP
  have hS : va_S A s.heap H [] := by rw [hH]; exact hS
  rw [← hH]
  refine lv_aload_n hx hb d_T_numberAt_0 rfl (lv_at hl 0 rfl) ?_
  refine gF (v := .ref t.cA) hx hb hown hE hK hP 0 rfl rfl layT 6 (by decide) w789 rfl d_T_numberAt_1 ?_
  refine lv_iload_n hx hb d_T_numberAt_4 rfl (lv_at hl 1 rfl) ?_
  refine lv_aload_n hx hb d_T_numberAt_5 rfl (lv_at hl 0 rfl) ?_
  refine gF (v := .int (nI t.wi)) hx hb hown hE hK hP 0 rfl rfl layT 2 (by decide) w1367 rfl d_T_numberAt_6 ?_
  refine lv_imul hx hb d_T_numberAt_9 (tpi (y := nI (r * t.wi)) (pk_mul (r) (t.wi)) ?_)
  refine lv_iload_n hx hb d_T_numberAt_10 rfl (lv_at hl 2 rfl) ?_
  refine lv_iadd hx hb d_T_numberAt_11 (tpi (y := nI ((r * t.wi) + w)) (nI_add (r * t.wi) (w)) ?_)
  refine nlld (f := t.ce) (n := t.cN) hx hb hK hP (4) 2 rfl rfl ((r * t.wi) + w) (by omega) (by omega) d_T_numberAt_12 ?_
  exact rfL hx hb hr hlk hS () rfl hP hD (Nat.le_of_ble_eq_true rfl) (Nat.le_of_ble_eq_true rfl) d_T_numberAt_13
theorem d_T_has_0 : decode prog_11_method_9_code 0 = .ok (.aload_n 0, 1) := by decide +kernel
theorem d_T_has_1 : decode prog_11_method_9_code 1 = .ok (.getfield 23, 3) := by decide +kernel
theorem d_T_has_4 : decode prog_11_method_9_code 4 = .ok (.iload_n 1, 1) := by decide +kernel
theorem d_T_has_5 : decode prog_11_method_9_code 5 = .ok (.laload, 1) := by decide +kernel
theorem d_T_has_6 : decode prog_11_method_9_code 6 = .ok (.iload_n 2, 1) := by decide +kernel
theorem d_T_has_7 : decode prog_11_method_9_code 7 = .ok (.lushr, 1) := by decide +kernel
theorem d_T_has_8 : decode prog_11_method_9_code 8 = .ok (.lconst 1, 1) := by decide +kernel
theorem d_T_has_9 : decode prog_11_method_9_code 9 = .ok (.land, 1) := by decide +kernel
theorem d_T_has_10 : decode prog_11_method_9_code 10 = .ok (.lconst 1, 1) := by decide +kernel
theorem d_T_has_11 : decode prog_11_method_9_code 11 = .ok (.lcmp, 1) := by decide +kernel
theorem d_T_has_12 : decode prog_11_method_9_code 12 = .ok (.ifCond .ne 7, 3) := by decide +kernel
theorem d_T_has_19 : decode prog_11_method_9_code 19 = .ok (.iconst 0, 1) := by decide +kernel
theorem d_T_has_20 : decode prog_11_method_9_code 20 = .ok (.ireturn, 1) := by decide +kernel
theorem d_T_has_15 : decode prog_11_method_9_code 15 = .ok (.iconst 1, 1) := by decide +kernel
theorem d_T_has_16 : decode prog_11_method_9_code 16 = .ok (.goto 4, 3) := by decide +kernel
set_option maxHeartbeats 4000000 in
set_option maxRecDepth 100000 in
theorem v_Thas (l : Launch) (D : va_G) (dA : Nat → ClassId) (sz : Nat) (ws : va_W) (ta : Nat → Nat) (t : TB) (r : Nat) (w : Nat) (h1 : r < 256) : Met l ⟨"SeriesVault$Table", "has", "(II)Z"⟩ [Cond.code ⟨"SeriesVault$Table", "has", "(II)Z"⟩ prog_11_method_9_code 3 (some FieldType.boolean)] { frames := 1, cells := 0, slots := 0, locals := 0 } (pC D dA [.ref (ta 0), .int (nI r), .int (nI w)] (TbW dA ta t ++ (ws)) sz) (va_Qi (fun (r9 : Int32) (u9 : Unit) => r9 = bI (hasB (t.th r) w)) (fun (u9 : Unit) t9 => bW D (va_A (TbW dA ta t ++ (ws)) sz) (TbW dA ta t ++ (ws)) t9) (va_A (TbW dA ta t ++ (ws)) sz)) 0 0 (va_A (TbW dA ta t ++ (ws)) sz) := by
  refine mkC (y := ⟨"SeriesVault$Table", "has", "(II)Z"⟩) (cc := prog_11_method_9_code) (maxL := 3) (av := [.ref (ta 0), .int (nI r), .int (nI w)]) (ws := TbW dA ta t ++ (ws)) (sz := sz) (Qc := fun A => va_Qi (fun (r9 : Int32) (u9 : Unit) => r9 = bI (hasB (t.th r) w)) (fun (u9 : Unit) t9 => bW D A (TbW dA ta t ++ (ws)) t9) A) (by decide) (Nat.le_of_ble_eq_true rfl) ?_
  intro A p e s m below meth c ls hsz hB
  obtain ⟨hx, hb, hr, hml, hown, hin, hlk, hE, hK, hP, hD, hS, hA, hN, hl⟩ := hB
  have hown : s.vm.findClass "SeriesVault$Table" = some m.cls := hown
  have hl : lv_has ls 3 [(0, .ref (ta 0)), (1, .int (nI r)), (2, .int (nI w))] := hl
  obtain ⟨H, hH⟩ : ∃ z, z = s.heap := ⟨_, rfl⟩
  have hP : va_P D vwCl (TbW dA ta t ++ (ws)) H := by rw [hH]; exact hP
  have hS : va_S A s.heap H [] := by rw [hH]; exact hS
  rw [← hH]
  refine lv_aload_n hx hb d_T_has_0 rfl (lv_at hl 0 rfl) ?_
  refine gF (v := .ref (ta 3)) hx hb hown hE hK hP 0 rfl rfl layT 5 (by decide) w788 rfl d_T_has_1 ?_
  refine lv_iload_n hx hb d_T_has_4 rfl (lv_at hl 1 rfl) ?_
  refine nlld (f := t.th) (n := 256) hx hb hK hP (3) 2 rfl rfl (r) (by omega) (by decide) d_T_has_5 ?_
  refine lv_iload_n hx hb d_T_has_6 rfl (lv_at hl 2 rfl) ?_
  refine lv_lushr (v := ushL (t.th r) (nI w)) hx hb d_T_has_7 rfl ?_
  refine lv_lconst (v := 1) hx hb d_T_has_8 (by decide) ?_
  refine lv_land hx hb d_T_has_9 ?_
  refine lv_lconst (v := 1) hx hb d_T_has_10 (by decide) ?_
  refine W.lcmp hx hb d_T_has_11 ?_
  refine lv_if_ne hx hb d_T_has_12 (tgt := 19) rfl (fun g1 => ?_) (fun g1 => ?_)
  · have g1 := mt (lg_cmp_eq _ _).mpr g1
    refine lv_iconst (v := 0) hx hb d_T_has_19 (by decide) ?_
    exact rfZ hx hb hr (bI_nar false) hlk hS () (by unfold hasB; rw [decide_eq_false g1]; rfl) hP hD (Nat.le_of_ble_eq_true rfl) (Nat.le_of_ble_eq_true rfl) d_T_has_20
  · have g1 := (lg_cmp_eq _ _).mp g1
    refine lv_iconst (v := 1) hx hb d_T_has_15 (by decide) ?_
    refine lv_goto hx hb d_T_has_16 (tgt := 20) rfl ?_
    exact rfZ hx hb hr (bI_nar true) hlk hS () (by unfold hasB; rw [decide_eq_true g1]; rfl) hP hD (Nat.le_of_ble_eq_true rfl) (Nat.le_of_ble_eq_true rfl) d_T_has_20
theorem d_T_put_0 : decode prog_11_method_11_code 0 = .ok (.aload_n 0, 1) := by decide +kernel
theorem d_T_put_1 : decode prog_11_method_11_code 1 = .ok (.getfield 27, 3) := by decide +kernel
theorem d_T_put_4 : decode prog_11_method_11_code 4 = .ok (.iload_n 1, 1) := by decide +kernel
theorem d_T_put_5 : decode prog_11_method_11_code 5 = .ok (.aload_n 0, 1) := by decide +kernel
theorem d_T_put_6 : decode prog_11_method_11_code 6 = .ok (.getfield 30, 3) := by decide +kernel
theorem d_T_put_9 : decode prog_11_method_11_code 9 = .ok (.imul, 1) := by decide +kernel
theorem d_T_put_10 : decode prog_11_method_11_code 10 = .ok (.iload_n 2, 1) := by decide +kernel
theorem d_T_put_11 : decode prog_11_method_11_code 11 = .ok (.iadd, 1) := by decide +kernel
theorem d_T_put_12 : decode prog_11_method_11_code 12 = .ok (.lload_n 3, 1) := by decide +kernel
theorem d_T_put_13 : decode prog_11_method_11_code 13 = .ok (.lastore, 1) := by decide +kernel
theorem d_T_put_14 : decode prog_11_method_11_code 14 = .ok (.aload_n 0, 1) := by decide +kernel
theorem d_T_put_15 : decode prog_11_method_11_code 15 = .ok (.getfield 23, 3) := by decide +kernel
theorem d_T_put_18 : decode prog_11_method_11_code 18 = .ok (.iload_n 1, 1) := by decide +kernel
theorem d_T_put_19 : decode prog_11_method_11_code 19 = .ok (.dup2, 1) := by decide +kernel
theorem d_T_put_20 : decode prog_11_method_11_code 20 = .ok (.laload, 1) := by decide +kernel
theorem d_T_put_21 : decode prog_11_method_11_code 21 = .ok (.lconst 1, 1) := by decide +kernel
theorem d_T_put_22 : decode prog_11_method_11_code 22 = .ok (.iload_n 2, 1) := by decide +kernel
theorem d_T_put_23 : decode prog_11_method_11_code 23 = .ok (.lshl, 1) := by decide +kernel
theorem d_T_put_24 : decode prog_11_method_11_code 24 = .ok (.lor, 1) := by decide +kernel
theorem d_T_put_25 : decode prog_11_method_11_code 25 = .ok (.lastore, 1) := by decide +kernel
theorem d_T_put_26 : decode prog_11_method_11_code 26 = .ok (.return_, 1) := by decide +kernel
set_option maxHeartbeats 4000000 in
set_option maxRecDepth 100000 in
theorem v_Tput (l : Launch) (D : va_G) (dA : Nat → ClassId) (sz : Nat) (ws : va_W) (ta : Nat → Nat) (t : TB) (r : Nat) (w : Nat) (v : Int64) (hN : t.cN ≤ 65536) (h1 : r * t.wi + w < t.cN) (h2 : r < 256) : Met l ⟨"SeriesVault$Table", "put", "(IIJ)V"⟩ [Cond.code ⟨"SeriesVault$Table", "put", "(IIJ)V"⟩ prog_11_method_11_code 5 none] { frames := 1, cells := 0, slots := 0, locals := 0 } (pC D dA [.ref (ta 0), .int (nI r), .int (nI w), .long v] (TbW dA ta t ++ (ws)) sz) (va_Qv (fun (u9 : Unit) => True) (fun (u9 : Unit) t9 => bW D (va_A (TbW dA ta t ++ (ws)) sz) (TbW dA ta (TB.s_ce (TB.s_th t (va_up t.th r (t.th r ||| bitL w))) (va_up t.ce (r * t.wi + w) v)) ++ (ws)) t9) (va_A (TbW dA ta t ++ (ws)) sz)) 0 0 (va_A (TbW dA ta t ++ (ws)) sz) := by
  refine mkC (y := ⟨"SeriesVault$Table", "put", "(IIJ)V"⟩) (cc := prog_11_method_11_code) (maxL := 5) (av := [.ref (ta 0), .int (nI r), .int (nI w), .long v]) (ws := TbW dA ta t ++ (ws)) (sz := sz) (Qc := fun A => va_Qv (fun (u9 : Unit) => True) (fun (u9 : Unit) t9 => bW D A (TbW dA ta (TB.s_ce (TB.s_th t (va_up t.th r (t.th r ||| bitL w))) (va_up t.ce (r * t.wi + w) v)) ++ (ws)) t9) A) (by decide) (Nat.le_of_ble_eq_true rfl) ?_
  intro A p e s m below meth c ls hsz hB
  obtain ⟨hx, hb, hr, hml, hown, hin, hlk, hE, hK, hP, hD, hS, hA, hN, hl⟩ := hB
  have hown : s.vm.findClass "SeriesVault$Table" = some m.cls := hown
  have hl : lv_has ls 5 [(0, .ref (ta 0)), (1, .int (nI r)), (2, .int (nI w)), (3, .long v)] := hl
  obtain ⟨H, hH⟩ : ∃ z, z = s.heap := ⟨_, rfl⟩
  have hP : va_P D vwCl (TbW dA ta t ++ (ws)) H := by rw [hH]; exact hP
  have hS : va_S A s.heap H [] := by rw [hH]; exact hS
  rw [← hH]
  refine lv_aload_n hx hb d_T_put_0 rfl (lv_at hl 0 rfl) ?_
  refine gF (v := .ref t.cA) hx hb hown hE hK hP 0 rfl rfl layT 6 (by decide) w789 rfl d_T_put_1 ?_
  refine lv_iload_n hx hb d_T_put_4 rfl (lv_at hl 1 rfl) ?_
  refine lv_aload_n hx hb d_T_put_5 rfl (lv_at hl 0 rfl) ?_
  refine gF (v := .int (nI t.wi)) hx hb hown hE hK hP 0 rfl rfl layT 2 (by decide) w1367 rfl d_T_put_6 ?_
  refine lv_imul hx hb d_T_put_9 (tpi (y := nI (r * t.wi)) (pk_mul (r) (t.wi)) ?_)
  refine lv_iload_n hx hb d_T_put_10 rfl (lv_at hl 2 rfl) ?_
  refine lv_iadd hx hb d_T_put_11 (tpi (y := nI ((r * t.wi) + w)) (nI_add (r * t.wi) (w)) ?_)
  refine lv_lload_n hx hb d_T_put_12 rfl (lv_at hl 3 rfl) ?_
  refine nlst (n := t.cN) hx hb hK hP hD hS (4) 2 rfl rfl ((r * t.wi) + w) (by omega) (by omega) d_T_put_13 (fun H locs hP hD hS => ?_)
  have hP : va_P D vwCl (TbW dA ta (TB.s_ce t (va_up t.ce ((r * t.wi) + w) v)) ++ (ws)) H := hP
  have hD : va_D A (TbW dA ta (TB.s_ce t (va_up t.ce ((r * t.wi) + w) v)) ++ (ws)) := hD
  refine lv_aload_n hx hb d_T_put_14 rfl (lv_at hl 0 rfl) ?_
  refine gF (v := .ref (ta 3)) hx hb hown hE hK hP 0 rfl rfl layT 5 (by decide) w788 rfl d_T_put_15 ?_
  refine lv_iload_n hx hb d_T_put_18 rfl (lv_at hl 1 rfl) ?_
  refine lv_dup2_11 hx hb d_T_put_19 rfl rfl ?_
  refine nlld (f := t.th) (n := 256) hx hb hK hP (3) 2 rfl rfl (r) (by omega) (by decide) d_T_put_20 ?_
  refine lv_lconst (v := 1) hx hb d_T_put_21 (by decide) ?_
  refine lv_iload_n hx hb d_T_put_22 rfl (lv_at hl 2 rfl) ?_
  refine lv_lshl hx hb d_T_put_23 rfl ?_
  refine lv_lor hx hb d_T_put_24 ?_
  refine nlst (n := 256) hx hb hK hP hD hS (3) 2 rfl rfl (r) (by omega) (by decide) d_T_put_25 (fun H locs hP hD hS => ?_)
  have hP : va_P D vwCl (TbW dA ta (TB.s_ce (TB.s_th t (va_up t.th r ((t.th r) ||| (1 <<< ((nI w).toInt64 &&& 63))))) (va_up t.ce ((r * t.wi) + w) v)) ++ (ws)) H := hP
  have hD : va_D A (TbW dA ta (TB.s_ce (TB.s_th t (va_up t.th r ((t.th r) ||| (1 <<< ((nI w).toInt64 &&& 63))))) (va_up t.ce ((r * t.wi) + w) v)) ++ (ws)) := hD
  have e9 : (TB.s_ce (TB.s_th t (va_up t.th r ((t.th r) ||| (1 <<< ((nI w).toInt64 &&& 63))))) (va_up t.ce ((r * t.wi) + w) v) : TB) = TB.s_ce (TB.s_th t (va_up t.th r (t.th r ||| bitL w))) (va_up t.ce (r * t.wi + w) v) := by rw [show (va_up t.th r (t.th r ||| bitL w)) = (va_up t.th r ((t.th r) ||| (1 <<< ((nI w).toInt64 &&& 63)))) from by rfl, show (va_up t.ce (r * t.wi + w) v) = (va_up t.ce ((r * t.wi) + w) v) from by rfl] <;> rfl
  rw [e9] at hP hD
  exact rfV hx hb hr hlk hS () trivial hP hD (Nat.le_of_ble_eq_true rfl) (Nat.le_of_ble_eq_true rfl) d_T_put_26
theorem d_T_turn_0 : decode prog_11_method_13_code 0 = .ok (.iconst 0, 1) := by decide +kernel
theorem d_T_turn_1 : decode prog_11_method_13_code 1 = .ok (.istore_n 1, 1) := by decide +kernel
theorem d_T_turn_2 : decode prog_11_method_13_code 2 = .ok (.iload_n 1, 1) := by decide +kernel
theorem d_T_turn_3 : decode prog_11_method_13_code 3 = .ok (.aload_n 0, 1) := by decide +kernel
theorem d_T_turn_4 : decode prog_11_method_13_code 4 = .ok (.getfield 37, 3) := by decide +kernel
theorem d_T_turn_7 : decode prog_11_method_13_code 7 = .ok (.aload_n 0, 1) := by decide +kernel
theorem d_T_turn_8 : decode prog_11_method_13_code 8 = .ok (.getfield 30, 3) := by decide +kernel
theorem d_T_turn_11 : decode prog_11_method_13_code 11 = .ok (.imul, 1) := by decide +kernel
theorem d_T_turn_12 : decode prog_11_method_13_code 12 = .ok (.if_icmp .ge 22, 3) := by decide +kernel
theorem d_T_turn_34 : decode prog_11_method_13_code 34 = .ok (.return_, 1) := by decide +kernel
theorem d_T_turn_15 : decode prog_11_method_13_code 15 = .ok (.aload_n 0, 1) := by decide +kernel
theorem d_T_turn_16 : decode prog_11_method_13_code 16 = .ok (.getfield 27, 3) := by decide +kernel
theorem d_T_turn_19 : decode prog_11_method_13_code 19 = .ok (.iload_n 1, 1) := by decide +kernel
theorem d_T_turn_20 : decode prog_11_method_13_code 20 = .ok (.aload_n 0, 1) := by decide +kernel
theorem d_T_turn_21 : decode prog_11_method_13_code 21 = .ok (.getfield 27, 3) := by decide +kernel
theorem d_T_turn_24 : decode prog_11_method_13_code 24 = .ok (.iload_n 1, 1) := by decide +kernel
theorem d_T_turn_25 : decode prog_11_method_13_code 25 = .ok (.laload, 1) := by decide +kernel
theorem d_T_turn_26 : decode prog_11_method_13_code 26 = .ok (.lneg, 1) := by decide +kernel
theorem d_T_turn_27 : decode prog_11_method_13_code 27 = .ok (.lastore, 1) := by decide +kernel
theorem d_T_turn_28 : decode prog_11_method_13_code 28 = .ok (.iinc 1 1, 3) := by decide +kernel
theorem d_T_turn_31 : decode prog_11_method_13_code 31 = .ok (.goto (-29), 3) := by decide +kernel
theorem w1368 : Cond.fieldLink "SeriesVault$Table" 37 "SeriesVault$Table" "rowCount" "I" ∈ aW := aw_of (tb_2 (List.mem_of_getElem? (i := 59) rfl)) rfl
set_option maxHeartbeats 4000000 in
set_option maxRecDepth 100000 in
theorem v_Tturn (l : Launch) (D : va_G) (dA : Nat → ClassId) (sz : Nat) (ws : va_W) (ta : Nat → Nat) (t : TB) (hN : t.cN ≤ 65536) (h1 : t.rc * t.wi ≤ t.cN) : Met l ⟨"SeriesVault$Table", "turn", "()V"⟩ [Cond.code ⟨"SeriesVault$Table", "turn", "()V"⟩ prog_11_method_13_code 2 none] { frames := 1, cells := 0, slots := 0, locals := 0 } (pC D dA [.ref (ta 0)] (TbW dA ta t ++ (ws)) sz) (va_Qv (fun (u9 : Unit) => True) (fun (u9 : Unit) t9 => bW D (va_A (TbW dA ta t ++ (ws)) sz) (TbW dA ta (TB.s_ce t (tnG t.ce (t.rc * t.wi))) ++ (ws)) t9) (va_A (TbW dA ta t ++ (ws)) sz)) 0 0 (va_A (TbW dA ta t ++ (ws)) sz) := by
  refine mkC (y := ⟨"SeriesVault$Table", "turn", "()V"⟩) (cc := prog_11_method_13_code) (maxL := 2) (av := [.ref (ta 0)]) (ws := TbW dA ta t ++ (ws)) (sz := sz) (Qc := fun A => va_Qv (fun (u9 : Unit) => True) (fun (u9 : Unit) t9 => bW D A (TbW dA ta (TB.s_ce t (tnG t.ce (t.rc * t.wi))) ++ (ws)) t9) A) (by decide) (Nat.le_of_ble_eq_true rfl) ?_
  intro A p e s m below meth c ls hsz hB
  obtain ⟨hx, hb, hr, hml, hown, hin, hlk, hE, hK, hP, hD, hS, hA, hN, hl⟩ := hB
  have hown : s.vm.findClass "SeriesVault$Table" = some m.cls := hown
  have hl : lv_has ls 2 [(0, .ref (ta 0))] := hl
  obtain ⟨H, hH⟩ : ∃ z, z = s.heap := ⟨_, rfl⟩
  have hP : va_P D vwCl (TbW dA ta t ++ (ws)) H := by rw [hH]; exact hP
  have hS : va_S A s.heap H [] := by rw [hH]; exact hS
  rw [← hH]
  refine lv_iconst (v := 0) hx hb d_T_turn_0 (by decide) ?_
  refine lv_istore_n hx hb d_T_turn_1 rfl hl (by decide) rfl (fun ls hl => ?_)
  have hl : lv_has ls 2 [(1, .int 0), (0, .ref (ta 0))] := hl
  have L2 : ∀ (k9 : Nat) (i : Nat) (i1 : i ≤ t.rc * t.wi) (hk9 : t.rc * t.wi - i = k9), ∀ (H : Heap) (locs : List Loc) (ls : Array Slot) (hP : va_P D vwCl (TbW dA ta (TB.s_ce t (tnG t.ce i)) ++ (ws)) H) (hD : va_D A (TbW dA ta (TB.s_ce t (tnG t.ce i)) ++ (ws))) (hS : va_S A s.heap H locs) (hl : lv_has ls 2 [(1, .int (nI i)), (0, .ref (ta 0))]), W p l e ({ frames := 1, cells := 0, slots := 0, locals := 0 } : Room) s m ([.ref (ta 0)] : List Value).toArray below meth c H locs 0 0 (MQ below (va_Qv (fun (u9 : Unit) => True) (fun (u9 : Unit) t9 => bW D A (TbW dA ta (TB.s_ce t (tnG t.ce (t.rc * t.wi))) ++ (ws)) t9) A) ([.ref (ta 0)] : List Value).toArray s 0 0 A) (F0 m 2 ls []) := by
    intro k9
    induction k9 using Nat.strongRecOn with
    | ind k9 ih2 =>
      intro i i1 hk9 H locs ls hP hD hS hl
      refine lv_iload_n hx hb d_T_turn_2 rfl (lv_at hl 0 rfl) ?_
      refine lv_aload_n hx hb d_T_turn_3 rfl (lv_at hl 1 rfl) ?_
      refine gF (v := .int (nI t.rc)) hx hb hown hE hK hP 0 rfl rfl layT 3 (by decide) w1368 rfl d_T_turn_4 ?_
      refine lv_aload_n hx hb d_T_turn_7 rfl (lv_at hl 1 rfl) ?_
      refine gF (v := .int (nI t.wi)) hx hb hown hE hK hP 0 rfl rfl layT 2 (by decide) w1367 rfl d_T_turn_8 ?_
      refine lv_imul hx hb d_T_turn_11 (tpi (y := nI (t.rc * t.wi)) (pk_mul (t.rc) (t.wi)) ?_)
      refine lv_icmp_ge hx hb d_T_turn_12 (tgt := 34) rfl (fun g1 => ?_) (fun g1 => ?_)
      · have g1 := (nI_leI (a := t.rc * t.wi) (b := i) (by omega) (by omega)).mp g1
        have e9 : (TB.s_ce t (tnG t.ce i) : TB) = TB.s_ce t (tnG t.ce (t.rc * t.wi)) := by rw [show (tnG t.ce (t.rc * t.wi)) = (tnG t.ce i) from by (rw [show t.rc * t.wi = i by omega])] <;> rfl
        rw [e9] at hP hD
        exact rfV hx hb hr hlk hS () trivial hP hD (Nat.le_of_ble_eq_true rfl) (Nat.le_of_ble_eq_true rfl) d_T_turn_34
      · have g1 := mt (nI_leI (a := t.rc * t.wi) (b := i) (by omega) (by omega)).mpr g1
        refine lv_aload_n hx hb d_T_turn_15 rfl (lv_at hl 1 rfl) ?_
        refine gF (v := .ref t.cA) hx hb hown hE hK hP 0 rfl rfl layT 6 (by decide) w789 rfl d_T_turn_16 ?_
        refine lv_iload_n hx hb d_T_turn_19 rfl (lv_at hl 0 rfl) ?_
        refine lv_aload_n hx hb d_T_turn_20 rfl (lv_at hl 1 rfl) ?_
        refine gF (v := .ref t.cA) hx hb hown hE hK hP 0 rfl rfl layT 6 (by decide) w789 rfl d_T_turn_21 ?_
        refine lv_iload_n hx hb d_T_turn_24 rfl (lv_at hl 0 rfl) ?_
        refine nlld (f := (tnG t.ce i)) (n := t.cN) hx hb hK hP (4) 2 rfl rfl (i) (by omega) (by omega) d_T_turn_25 ?_
        refine tpl (y := (t.ce i)) (tnG_at _ (Nat.le_refl i)) ?_
        refine lv_lneg hx hb d_T_turn_26 ?_
        refine nlst (n := t.cN) hx hb hK hP hD hS (4) 2 rfl rfl (i) (by omega) (by omega) d_T_turn_27 (fun H locs hP hD hS => ?_)
        have hP : va_P D vwCl (TbW dA ta (TB.s_ce t (va_up (tnG t.ce i) i (-(t.ce i)))) ++ (ws)) H := hP
        have hD : va_D A (TbW dA ta (TB.s_ce t (va_up (tnG t.ce i) i (-(t.ce i)))) ++ (ws)) := hD
        refine lv_iinc (k := 0) (v := nI (i + 1)) hx hb d_T_turn_28 hl rfl (iincN (i) 1 1 (by decide)) (by decide) rfl (fun ls hl => ?_)
        have hl : lv_has ls 2 [(1, .int (nI (i + 1))), (0, .ref (ta 0))] := hl
        refine lv_goto hx hb d_T_turn_31 (tgt := 2) rfl ?_
        have e9 : (TB.s_ce t (va_up (tnG t.ce i) i (-(t.ce i))) : TB) = TB.s_ce t (tnG t.ce (i + 1)) := by rw [show (tnG t.ce (i + 1)) = (va_up (tnG t.ce i) i (-(t.ce i))) from rfl] <;> rfl
        rw [e9] at hP hD
        exact ih2 _ (by omega) (i + 1) (by omega) rfl H _ ls hP hD hS (lv_sub hl [0, 1] rfl)
  have e9 : (t : TB) = TB.s_ce t (tnG t.ce 0) := by rw [show (tnG t.ce 0) = t.ce from rfl] <;> rfl
  rw [e9] at hP hD
  exact L2 _ 0 (Nat.zero_le _) rfl H _ ls hP hD hS (lv_sub hl [0, 1] rfl)
theorem d_Arrays_rangeCheck_0 : decode prog_38_method_30_code 0 = .ok (.iload_n 1, 1) := by decide +kernel
theorem d_Arrays_rangeCheck_1 : decode prog_38_method_30_code 1 = .ok (.iload_n 2, 1) := by decide +kernel
theorem d_Arrays_rangeCheck_2 : decode prog_38_method_30_code 2 = .ok (.if_icmp .le 44, 3) := by decide +kernel
theorem d_Arrays_rangeCheck_46 : decode prog_38_method_30_code 46 = .ok (.iload_n 1, 1) := by decide +kernel
theorem d_Arrays_rangeCheck_47 : decode prog_38_method_30_code 47 = .ok (.ifCond .ge 12, 3) := by decide +kernel
theorem d_Arrays_rangeCheck_59 : decode prog_38_method_30_code 59 = .ok (.iload_n 2, 1) := by decide +kernel
theorem d_Arrays_rangeCheck_60 : decode prog_38_method_30_code 60 = .ok (.iload_n 0, 1) := by decide +kernel
theorem d_Arrays_rangeCheck_61 : decode prog_38_method_30_code 61 = .ok (.if_icmp .le 12, 3) := by decide +kernel
theorem d_Arrays_rangeCheck_73 : decode prog_38_method_30_code 73 = .ok (.return_, 1) := by decide +kernel
set_option maxHeartbeats 4000000 in
set_option maxRecDepth 100000 in
theorem v_rangeCheck (l : Launch) (D : va_G) (dA : Nat → ClassId) (sz : Nat) (n : Nat) (a : Nat) (b : Nat) (h1 : a ≤ b) (h2 : b ≤ n) (h3 : n ≤ 65536) : Met l ⟨"java/util/Arrays", "rangeCheck", "(III)V"⟩ [Cond.code ⟨"java/util/Arrays", "rangeCheck", "(III)V"⟩ prog_38_method_30_code 3 none] { frames := 1, cells := 0, slots := 0, locals := 0 } (pC D dA [.int (nI n), .int (nI a), .int (nI b)] ([]) sz) (va_Qv (fun (u9 : Unit) => True) (fun (u9 : Unit) t9 => bW D (va_A ([]) sz) ([]) t9) (va_A ([]) sz)) 0 0 (va_A ([]) sz) := by
  refine mkC (y := ⟨"java/util/Arrays", "rangeCheck", "(III)V"⟩) (cc := prog_38_method_30_code) (maxL := 3) (av := [.int (nI n), .int (nI a), .int (nI b)]) (ws := []) (sz := sz) (Qc := fun A => va_Qv (fun (u9 : Unit) => True) (fun (u9 : Unit) t9 => bW D A ([]) t9) A) (by decide) (Nat.le_of_ble_eq_true rfl) ?_
  intro A p e s m below meth c ls hsz hB
  obtain ⟨hx, hb, hr, hml, hown, hin, hlk, hE, hK, hP, hD, hS, hA, hN, hl⟩ := hB
  have hown : s.vm.findClass "java/util/Arrays" = some m.cls := hown
  have hl : lv_has ls 3 [(0, .int (nI n)), (1, .int (nI a)), (2, .int (nI b))] := hl
  obtain ⟨H, hH⟩ : ∃ z, z = s.heap := ⟨_, rfl⟩
  have hP : va_P D vwCl ([]) H := by rw [hH]; exact hP
  have hS : va_S A s.heap H [] := by rw [hH]; exact hS
  rw [← hH]
  refine lv_iload_n hx hb d_Arrays_rangeCheck_0 rfl (lv_at hl 1 rfl) ?_
  refine lv_iload_n hx hb d_Arrays_rangeCheck_1 rfl (lv_at hl 2 rfl) ?_
  refine lv_icmp_le hx hb d_Arrays_rangeCheck_2 (tgt := 46) rfl (fun _ => ?_) (fun h9 => absurd ((nI_leI (a := a) (b := b) (by omega) (by omega)).mpr h1) h9)
  refine lv_iload_n hx hb d_Arrays_rangeCheck_46 rfl (lv_at hl 1 rfl) ?_
  refine lv_if_ge hx hb d_Arrays_rangeCheck_47 (tgt := 59) rfl (fun _ => ?_) (fun h9 => absurd (nI_pos' (n := a) (by omega)) h9)
  refine lv_iload_n hx hb d_Arrays_rangeCheck_59 rfl (lv_at hl 2 rfl) ?_
  refine lv_iload_n hx hb d_Arrays_rangeCheck_60 rfl (lv_at hl 0 rfl) ?_
  refine lv_icmp_le hx hb d_Arrays_rangeCheck_61 (tgt := 73) rfl (fun _ => ?_) (fun h9 => absurd ((nI_leI (a := b) (b := n) (by omega) (by omega)).mpr h2) h9)
  exact rfV hx hb hr hlk hS () trivial hP hD (Nat.le_of_ble_eq_true rfl) (Nat.le_of_ble_eq_true rfl) d_Arrays_rangeCheck_73
theorem d_Arrays_fill_6c8_0 : decode prog_38_method_102_code 0 = .ok (.aload_n 0, 1) := by decide +kernel
theorem d_Arrays_fill_6c8_1 : decode prog_38_method_102_code 1 = .ok (.arraylength, 1) := by decide +kernel
theorem d_Arrays_fill_6c8_2 : decode prog_38_method_102_code 2 = .ok (.iload_n 1, 1) := by decide +kernel
theorem d_Arrays_fill_6c8_3 : decode prog_38_method_102_code 3 = .ok (.iload_n 2, 1) := by decide +kernel
theorem d_Arrays_fill_6c8_4 : decode prog_38_method_102_code 4 = .ok (.invokestatic 13, 3) := by decide +kernel
theorem d_Arrays_fill_6c8_7 : decode prog_38_method_102_code 7 = .ok (.iload_n 1, 1) := by decide +kernel
theorem d_Arrays_fill_6c8_8 : decode prog_38_method_102_code 8 = .ok (.istore 5, 2) := by decide +kernel
theorem d_Arrays_fill_6c8_10 : decode prog_38_method_102_code 10 = .ok (.iload 5, 2) := by decide +kernel
theorem d_Arrays_fill_6c8_12 : decode prog_38_method_102_code 12 = .ok (.iload_n 2, 1) := by decide +kernel
theorem d_Arrays_fill_6c8_13 : decode prog_38_method_102_code 13 = .ok (.if_icmp .ge 14, 3) := by decide +kernel
theorem d_Arrays_fill_6c8_27 : decode prog_38_method_102_code 27 = .ok (.return_, 1) := by decide +kernel
theorem d_Arrays_fill_6c8_16 : decode prog_38_method_102_code 16 = .ok (.aload_n 0, 1) := by decide +kernel
theorem d_Arrays_fill_6c8_17 : decode prog_38_method_102_code 17 = .ok (.iload 5, 2) := by decide +kernel
theorem d_Arrays_fill_6c8_19 : decode prog_38_method_102_code 19 = .ok (.lload_n 3, 1) := by decide +kernel
theorem d_Arrays_fill_6c8_20 : decode prog_38_method_102_code 20 = .ok (.lastore, 1) := by decide +kernel
theorem d_Arrays_fill_6c8_21 : decode prog_38_method_102_code 21 = .ok (.iinc 5 1, 3) := by decide +kernel
theorem d_Arrays_fill_6c8_24 : decode prog_38_method_102_code 24 = .ok (.goto (-14), 3) := by decide +kernel
theorem w1369 : Cond.methodLink "java/util/Arrays" 13 ⟨"java/util/Arrays", "rangeCheck", "(III)V"⟩ ∈ aW := aw_of (tb_7 (List.mem_of_getElem? (i := 152) rfl)) rfl
theorem w1370 : Cond.code ⟨"java/util/Arrays", "rangeCheck", "(III)V"⟩ prog_38_method_30_code 3 none ∈ aW := aw_of (tb_7 (List.mem_of_getElem? (i := 154) rfl)) rfl
theorem w1371 : Cond.static ⟨"java/util/Arrays", "rangeCheck", "(III)V"⟩ ∈ aW := aw_of (tb_7 (List.mem_of_getElem? (i := 153) rfl)) rfl
set_option maxHeartbeats 4000000 in
set_option maxRecDepth 100000 in
theorem v_Tfill_c (l : Launch) (D : va_G) (dA : Nat → ClassId) (sz : Nat) (ws : va_W) (ta : Nat → Nat) (t : TB) (b : Nat) (hN : t.cN ≤ 65536) (h1 : b ≤ t.cN) : Met l ⟨"java/util/Arrays", "fill", "([JIIJ)V"⟩ [Cond.code ⟨"java/util/Arrays", "fill", "([JIIJ)V"⟩ prog_38_method_102_code 6 none] { frames := 2, cells := 0, slots := 0, locals := 22 } (pC D dA [.ref t.cA, .int 0, .int (nI b), .long 0] (TbW dA ta t ++ (ws)) sz) (va_Qv (fun (u9 : Unit) => True) (fun (u9 : Unit) t9 => bW D (va_A (TbW dA ta t ++ (ws)) sz) (TbW dA ta (TB.s_ce t (filG t.ce 0 0 b)) ++ (ws)) t9) (va_A (TbW dA ta t ++ (ws)) sz)) 0 0 (va_A (TbW dA ta t ++ (ws)) sz) := by
  refine mkC (y := ⟨"java/util/Arrays", "fill", "([JIIJ)V"⟩) (cc := prog_38_method_102_code) (maxL := 6) (av := [.ref t.cA, .int 0, .int (nI b), .long 0]) (ws := TbW dA ta t ++ (ws)) (sz := sz) (Qc := fun A => va_Qv (fun (u9 : Unit) => True) (fun (u9 : Unit) t9 => bW D A (TbW dA ta (TB.s_ce t (filG t.ce 0 0 b)) ++ (ws)) t9) A) (by decide) (Nat.le_of_ble_eq_true rfl) ?_
  intro A p e s m below meth c ls hsz hB
  obtain ⟨hx, hb, hr, hml, hown, hin, hlk, hE, hK, hP, hD, hS, hA, hN, hl⟩ := hB
  have hown : s.vm.findClass "java/util/Arrays" = some m.cls := hown
  have hl : lv_has ls 6 [(0, .ref t.cA), (1, .int 0), (2, .int (nI b)), (3, .long 0)] := hl
  obtain ⟨H, hH⟩ : ∃ z, z = s.heap := ⟨_, rfl⟩
  have hP : va_P D vwCl (TbW dA ta t ++ (ws)) H := by rw [hH]; exact hP
  have hS : va_S A s.heap H [] := by rw [hH]; exact hS
  rw [← hH]
  refine lv_aload_n hx hb d_Arrays_fill_6c8_0 rfl (lv_at hl 0 rfl) ?_
  refine va_alen (v := nI t.cN) hx hb hK hP (4) 2 rfl rfl rfl d_Arrays_fill_6c8_1 ?_
  refine lv_iload_n hx hb d_Arrays_fill_6c8_2 rfl (lv_at hl 1 rfl) ?_
  refine lv_iload_n hx hb d_Arrays_fill_6c8_3 rfl (lv_at hl 2 rfl) ?_
  have hPc := hP.sub (ws' := []) [] rfl
  have hDc := hD.sub (ws' := []) [] (by decide) rfl
  refine jpV (rnS (As := [.int (nI t.cN), .int 0, .int (nI b)]) (rest := []) hx hb hml hown hE hK (hN _ _ hS) hPc hDc (v_rangeCheck l D dA H.size t.cN 0 b (show 0 ≤ b from by omega) (show b ≤ t.cN from by omega) (show t.cN ≤ 65536 from by omega)) w1370 w1369 w1371 w712 rfl rfl ⟨⟨by decide, by decide⟩, rfl⟩ ⟨(Nat.le_of_ble_eq_true rfl), (Nat.le_of_ble_eq_true rfl)⟩ rfl hl.1 rfl (Nat.le_of_ble_eq_true rfl) d_Arrays_fill_6c8_4 ⟨(Nat.le_of_ble_eq_true rfl), (Nat.le_of_ble_eq_true rfl)⟩) hP hD hS hA (fun u9 H locs hp9 hP hD hS => ?_)
  have hP : va_P D vwCl (TbW dA ta t ++ (ws)) H := hP
  have hD : va_D A (TbW dA ta t ++ (ws)) := hD
  refine lv_iload_n hx hb d_Arrays_fill_6c8_7 rfl (lv_at hl 1 rfl) ?_
  refine lv_istore hx hb d_Arrays_fill_6c8_8 hl (by decide) rfl (fun ls hl => ?_)
  have hl : lv_has ls 6 [(5, .int 0), (0, .ref t.cA), (1, .int 0), (2, .int (nI b)), (3, .long 0)] := hl
  have L10 : ∀ (k9 : Nat) (k : Nat) (i1 : k ≤ b) (hk9 : b - k = k9), ∀ (H : Heap) (locs : List Loc) (ls : Array Slot) (hP : va_P D vwCl (TbW dA ta (TB.s_ce t (filG t.ce 0 0 k)) ++ (ws)) H) (hD : va_D A (TbW dA ta (TB.s_ce t (filG t.ce 0 0 k)) ++ (ws))) (hS : va_S A s.heap H locs) (hl : lv_has ls 6 [(5, .int (nI k)), (0, .ref t.cA), (1, .int 0), (2, .int (nI b)), (3, .long 0)]), W p l e ({ frames := 2, cells := 0, slots := 0, locals := 22 } : Room) s m ([.ref t.cA, .int 0, .int (nI b), .long 0] : List Value).toArray below meth c H locs 0 0 (MQ below (va_Qv (fun (u9 : Unit) => True) (fun (u9 : Unit) t9 => bW D A (TbW dA ta (TB.s_ce t (filG t.ce 0 0 b)) ++ (ws)) t9) A) ([.ref t.cA, .int 0, .int (nI b), .long 0] : List Value).toArray s 0 0 A) (F0 m 10 ls []) := by
    intro k9
    induction k9 using Nat.strongRecOn with
    | ind k9 ih10 =>
      intro k i1 hk9 H locs ls hP hD hS hl
      refine lv_iload hx hb d_Arrays_fill_6c8_10 (lv_at hl 0 rfl) ?_
      refine lv_iload_n hx hb d_Arrays_fill_6c8_12 rfl (lv_at hl 3 rfl) ?_
      refine lv_icmp_ge hx hb d_Arrays_fill_6c8_13 (tgt := 27) rfl (fun g3 => ?_) (fun g3 => ?_)
      · have g3 := (nI_leI (a := b) (b := k) (by omega) (by omega)).mp g3
        have e9 : (TB.s_ce t (filG t.ce 0 0 k) : TB) = TB.s_ce t (filG t.ce 0 0 b) := by rw [show (filG t.ce 0 0 b) = (filG t.ce 0 0 k) from by (rw [show b = k by omega])] <;> rfl
        rw [e9] at hP hD
        exact rfV hx hb hr hlk hS () trivial hP hD (Nat.le_of_ble_eq_true rfl) (Nat.le_of_ble_eq_true rfl) d_Arrays_fill_6c8_27
      · have g3 := mt (nI_leI (a := b) (b := k) (by omega) (by omega)).mpr g3
        refine lv_aload_n hx hb d_Arrays_fill_6c8_16 rfl (lv_at hl 1 rfl) ?_
        refine lv_iload hx hb d_Arrays_fill_6c8_17 (lv_at hl 0 rfl) ?_
        refine lv_lload_n hx hb d_Arrays_fill_6c8_19 rfl (lv_at hl 4 rfl) ?_
        refine nlst (n := t.cN) hx hb hK hP hD hS (4) 2 rfl rfl (k) (by omega) (by omega) d_Arrays_fill_6c8_20 (fun H locs hP hD hS => ?_)
        have hP : va_P D vwCl (TbW dA ta (TB.s_ce t (va_up (filG t.ce 0 0 k) k 0)) ++ (ws)) H := hP
        have hD : va_D A (TbW dA ta (TB.s_ce t (va_up (filG t.ce 0 0 k) k 0)) ++ (ws)) := hD
        refine lv_iinc (k := 0) (v := nI (k + 1)) hx hb d_Arrays_fill_6c8_21 hl rfl (iincN (k) 1 1 (by decide)) (by decide) rfl (fun ls hl => ?_)
        have hl : lv_has ls 6 [(5, .int (nI (k + 1))), (0, .ref t.cA), (1, .int 0), (2, .int (nI b)), (3, .long 0)] := hl
        refine lv_goto hx hb d_Arrays_fill_6c8_24 (tgt := 10) rfl ?_
        have e9 : (TB.s_ce t (va_up (filG t.ce 0 0 k) k 0) : TB) = TB.s_ce t (filG t.ce 0 0 (k + 1)) := by rw [show (filG t.ce 0 0 (k + 1)) = (va_up (filG t.ce 0 0 k) k 0) from (show va_up _ (0 + k) 0 = _ by rw [Nat.zero_add])] <;> rfl
        rw [e9] at hP hD
        exact ih10 _ (by omega) (k + 1) (by omega) rfl H _ ls hP hD hS (lv_sub hl [0, 1, 2, 3, 4] rfl)
  have e9 : (t : TB) = TB.s_ce t (filG t.ce 0 0 0) := by rw [show (filG t.ce 0 0 0) = t.ce from rfl] <;> rfl
  rw [e9] at hP hD
  exact L10 _ 0 (Nat.zero_le _) rfl H _ ls hP hD hS (lv_sub hl [0, 1, 2, 3, 4] rfl)
set_option maxHeartbeats 4000000 in
set_option maxRecDepth 100000 in
theorem v_Tfill_t (l : Launch) (D : va_G) (dA : Nat → ClassId) (sz : Nat) (ws : va_W) (ta : Nat → Nat) (t : TB) (b : Nat) (hN : t.cN ≤ 65536) (h1 : b ≤ 256) : Met l ⟨"java/util/Arrays", "fill", "([JIIJ)V"⟩ [Cond.code ⟨"java/util/Arrays", "fill", "([JIIJ)V"⟩ prog_38_method_102_code 6 none] { frames := 2, cells := 0, slots := 0, locals := 22 } (pC D dA [.ref (ta 3), .int 0, .int (nI b), .long 0] (TbW dA ta t ++ (ws)) sz) (va_Qv (fun (u9 : Unit) => True) (fun (u9 : Unit) t9 => bW D (va_A (TbW dA ta t ++ (ws)) sz) (TbW dA ta (TB.s_th t (filG t.th 0 0 b)) ++ (ws)) t9) (va_A (TbW dA ta t ++ (ws)) sz)) 0 0 (va_A (TbW dA ta t ++ (ws)) sz) := by
  refine mkC (y := ⟨"java/util/Arrays", "fill", "([JIIJ)V"⟩) (cc := prog_38_method_102_code) (maxL := 6) (av := [.ref (ta 3), .int 0, .int (nI b), .long 0]) (ws := TbW dA ta t ++ (ws)) (sz := sz) (Qc := fun A => va_Qv (fun (u9 : Unit) => True) (fun (u9 : Unit) t9 => bW D A (TbW dA ta (TB.s_th t (filG t.th 0 0 b)) ++ (ws)) t9) A) (by decide) (Nat.le_of_ble_eq_true rfl) ?_
  intro A p e s m below meth c ls hsz hB
  obtain ⟨hx, hb, hr, hml, hown, hin, hlk, hE, hK, hP, hD, hS, hA, hN, hl⟩ := hB
  have hown : s.vm.findClass "java/util/Arrays" = some m.cls := hown
  have hl : lv_has ls 6 [(0, .ref (ta 3)), (1, .int 0), (2, .int (nI b)), (3, .long 0)] := hl
  obtain ⟨H, hH⟩ : ∃ z, z = s.heap := ⟨_, rfl⟩
  have hP : va_P D vwCl (TbW dA ta t ++ (ws)) H := by rw [hH]; exact hP
  have hS : va_S A s.heap H [] := by rw [hH]; exact hS
  rw [← hH]
  refine lv_aload_n hx hb d_Arrays_fill_6c8_0 rfl (lv_at hl 0 rfl) ?_
  refine va_alen (v := 256) hx hb hK hP (3) 2 rfl rfl rfl d_Arrays_fill_6c8_1 ?_
  refine lv_iload_n hx hb d_Arrays_fill_6c8_2 rfl (lv_at hl 1 rfl) ?_
  refine lv_iload_n hx hb d_Arrays_fill_6c8_3 rfl (lv_at hl 2 rfl) ?_
  have hPc := hP.sub (ws' := []) [] rfl
  have hDc := hD.sub (ws' := []) [] (by decide) rfl
  refine jpV (rnS (As := [.int 256, .int 0, .int (nI b)]) (rest := []) hx hb hml hown hE hK (hN _ _ hS) hPc hDc (v_rangeCheck l D dA H.size 256 0 b (show 0 ≤ b from by omega) (show b ≤ 256 from by omega) (show 256 ≤ 65536 from by omega)) w1370 w1369 w1371 w712 rfl rfl ⟨⟨by decide, by decide⟩, rfl⟩ ⟨(Nat.le_of_ble_eq_true rfl), (Nat.le_of_ble_eq_true rfl)⟩ rfl hl.1 rfl (Nat.le_of_ble_eq_true rfl) d_Arrays_fill_6c8_4 ⟨(Nat.le_of_ble_eq_true rfl), (Nat.le_of_ble_eq_true rfl)⟩) hP hD hS hA (fun u9 H locs hp9 hP hD hS => ?_)
  have hP : va_P D vwCl (TbW dA ta t ++ (ws)) H := hP
  have hD : va_D A (TbW dA ta t ++ (ws)) := hD
  refine lv_iload_n hx hb d_Arrays_fill_6c8_7 rfl (lv_at hl 1 rfl) ?_
  refine lv_istore hx hb d_Arrays_fill_6c8_8 hl (by decide) rfl (fun ls hl => ?_)
  have hl : lv_has ls 6 [(5, .int 0), (0, .ref (ta 3)), (1, .int 0), (2, .int (nI b)), (3, .long 0)] := hl
  have L10 : ∀ (k9 : Nat) (k : Nat) (i1 : k ≤ b) (hk9 : b - k = k9), ∀ (H : Heap) (locs : List Loc) (ls : Array Slot) (hP : va_P D vwCl (TbW dA ta (TB.s_th t (filG t.th 0 0 k)) ++ (ws)) H) (hD : va_D A (TbW dA ta (TB.s_th t (filG t.th 0 0 k)) ++ (ws))) (hS : va_S A s.heap H locs) (hl : lv_has ls 6 [(5, .int (nI k)), (0, .ref (ta 3)), (1, .int 0), (2, .int (nI b)), (3, .long 0)]), W p l e ({ frames := 2, cells := 0, slots := 0, locals := 22 } : Room) s m ([.ref (ta 3), .int 0, .int (nI b), .long 0] : List Value).toArray below meth c H locs 0 0 (MQ below (va_Qv (fun (u9 : Unit) => True) (fun (u9 : Unit) t9 => bW D A (TbW dA ta (TB.s_th t (filG t.th 0 0 b)) ++ (ws)) t9) A) ([.ref (ta 3), .int 0, .int (nI b), .long 0] : List Value).toArray s 0 0 A) (F0 m 10 ls []) := by
    intro k9
    induction k9 using Nat.strongRecOn with
    | ind k9 ih10 =>
      intro k i1 hk9 H locs ls hP hD hS hl
      refine lv_iload hx hb d_Arrays_fill_6c8_10 (lv_at hl 0 rfl) ?_
      refine lv_iload_n hx hb d_Arrays_fill_6c8_12 rfl (lv_at hl 3 rfl) ?_
      refine lv_icmp_ge hx hb d_Arrays_fill_6c8_13 (tgt := 27) rfl (fun g3 => ?_) (fun g3 => ?_)
      · have g3 := (nI_leI (a := b) (b := k) (by omega) (by omega)).mp g3
        have e9 : (TB.s_th t (filG t.th 0 0 k) : TB) = TB.s_th t (filG t.th 0 0 b) := by rw [show (filG t.th 0 0 b) = (filG t.th 0 0 k) from by (rw [show b = k by omega])] <;> rfl
        rw [e9] at hP hD
        exact rfV hx hb hr hlk hS () trivial hP hD (Nat.le_of_ble_eq_true rfl) (Nat.le_of_ble_eq_true rfl) d_Arrays_fill_6c8_27
      · have g3 := mt (nI_leI (a := b) (b := k) (by omega) (by omega)).mpr g3
        refine lv_aload_n hx hb d_Arrays_fill_6c8_16 rfl (lv_at hl 1 rfl) ?_
        refine lv_iload hx hb d_Arrays_fill_6c8_17 (lv_at hl 0 rfl) ?_
        refine lv_lload_n hx hb d_Arrays_fill_6c8_19 rfl (lv_at hl 4 rfl) ?_
        refine nlst (n := 256) hx hb hK hP hD hS (3) 2 rfl rfl (k) (by omega) (by decide) d_Arrays_fill_6c8_20 (fun H locs hP hD hS => ?_)
        have hP : va_P D vwCl (TbW dA ta (TB.s_th t (va_up (filG t.th 0 0 k) k 0)) ++ (ws)) H := hP
        have hD : va_D A (TbW dA ta (TB.s_th t (va_up (filG t.th 0 0 k) k 0)) ++ (ws)) := hD
        refine lv_iinc (k := 0) (v := nI (k + 1)) hx hb d_Arrays_fill_6c8_21 hl rfl (iincN (k) 1 1 (by decide)) (by decide) rfl (fun ls hl => ?_)
        have hl : lv_has ls 6 [(5, .int (nI (k + 1))), (0, .ref (ta 3)), (1, .int 0), (2, .int (nI b)), (3, .long 0)] := hl
        refine lv_goto hx hb d_Arrays_fill_6c8_24 (tgt := 10) rfl ?_
        have e9 : (TB.s_th t (va_up (filG t.th 0 0 k) k 0) : TB) = TB.s_th t (filG t.th 0 0 (k + 1)) := by rw [show (filG t.th 0 0 (k + 1)) = (va_up (filG t.th 0 0 k) k 0) from (show va_up _ (0 + k) 0 = _ by rw [Nat.zero_add])] <;> rfl
        rw [e9] at hP hD
        exact ih10 _ (by omega) (k + 1) (by omega) rfl H _ ls hP hD hS (lv_sub hl [0, 1, 2, 3, 4] rfl)
  have e9 : (t : TB) = TB.s_th t (filG t.th 0 0 0) := by rw [show (filG t.th 0 0 0) = t.th from rfl] <;> rfl
  rw [e9] at hP hD
  exact L10 _ 0 (Nat.zero_le _) rfl H _ ls hP hD hS (lv_sub hl [0, 1, 2, 3, 4] rfl)
theorem d_T_clearCells_0 : decode prog_11_method_8_code 0 = .ok (.aload_n 0, 1) := by decide +kernel
theorem d_T_clearCells_1 : decode prog_11_method_8_code 1 = .ok (.getfield 37, 3) := by decide +kernel
theorem d_T_clearCells_4 : decode prog_11_method_8_code 4 = .ok (.aload_n 0, 1) := by decide +kernel
theorem d_T_clearCells_5 : decode prog_11_method_8_code 5 = .ok (.getfield 30, 3) := by decide +kernel
theorem d_T_clearCells_8 : decode prog_11_method_8_code 8 = .ok (.imul, 1) := by decide +kernel
theorem d_T_clearCells_9 : decode prog_11_method_8_code 9 = .ok (.istore_n 1, 1) := by decide +kernel
theorem d_T_clearCells_10 : decode prog_11_method_8_code 10 = .ok (.iload_n 1, 1) := by decide +kernel
theorem d_T_clearCells_11 : decode prog_11_method_8_code 11 = .ok (.aload_n 0, 1) := by decide +kernel
theorem d_T_clearCells_12 : decode prog_11_method_8_code 12 = .ok (.getfield 27, 3) := by decide +kernel
theorem d_T_clearCells_15 : decode prog_11_method_8_code 15 = .ok (.arraylength, 1) := by decide +kernel
theorem d_T_clearCells_16 : decode prog_11_method_8_code 16 = .ok (.if_icmp .le 20, 3) := by decide +kernel
theorem d_T_clearCells_36 : decode prog_11_method_8_code 36 = .ok (.aload_n 0, 1) := by decide +kernel
theorem d_T_clearCells_37 : decode prog_11_method_8_code 37 = .ok (.getfield 27, 3) := by decide +kernel
theorem d_T_clearCells_40 : decode prog_11_method_8_code 40 = .ok (.iconst 0, 1) := by decide +kernel
theorem d_T_clearCells_41 : decode prog_11_method_8_code 41 = .ok (.iload_n 1, 1) := by decide +kernel
theorem d_T_clearCells_42 : decode prog_11_method_8_code 42 = .ok (.lconst 0, 1) := by decide +kernel
theorem d_T_clearCells_43 : decode prog_11_method_8_code 43 = .ok (.invokestatic 73, 3) := by decide +kernel
theorem d_T_clearCells_46 : decode prog_11_method_8_code 46 = .ok (.aload_n 0, 1) := by decide +kernel
theorem d_T_clearCells_47 : decode prog_11_method_8_code 47 = .ok (.getfield 23, 3) := by decide +kernel
theorem d_T_clearCells_50 : decode prog_11_method_8_code 50 = .ok (.iconst 0, 1) := by decide +kernel
theorem d_T_clearCells_51 : decode prog_11_method_8_code 51 = .ok (.aload_n 0, 1) := by decide +kernel
theorem d_T_clearCells_52 : decode prog_11_method_8_code 52 = .ok (.getfield 37, 3) := by decide +kernel
theorem d_T_clearCells_55 : decode prog_11_method_8_code 55 = .ok (.lconst 0, 1) := by decide +kernel
theorem d_T_clearCells_56 : decode prog_11_method_8_code 56 = .ok (.invokestatic 73, 3) := by decide +kernel
theorem d_T_clearCells_59 : decode prog_11_method_8_code 59 = .ok (.return_, 1) := by decide +kernel
theorem w1372 : Cond.methodLink "SeriesVault$Table" 73 ⟨"java/util/Arrays", "fill", "([JIIJ)V"⟩ ∈ aW := aw_of (tb_7 (List.mem_of_getElem? (i := 149) rfl)) rfl
theorem w1373 : Cond.code ⟨"java/util/Arrays", "fill", "([JIIJ)V"⟩ prog_38_method_102_code 6 none ∈ aW := aw_of (tb_7 (List.mem_of_getElem? (i := 151) rfl)) rfl
theorem w1374 : Cond.static ⟨"java/util/Arrays", "fill", "([JIIJ)V"⟩ ∈ aW := aw_of (tb_7 (List.mem_of_getElem? (i := 150) rfl)) rfl
set_option maxHeartbeats 4000000 in
set_option maxRecDepth 100000 in
theorem v_TclearCells_0 (l : Launch) (D : va_G) (dA : Nat → ClassId) (sz : Nat) (ws : va_W) (ta : Nat → Nat) (t : TB) (hN : t.cN ≤ 65536) (h1 : t.rc * t.wi ≤ t.cN) (h2 : t.rc ≤ 256) : Met l ⟨"SeriesVault$Table", "clearCells", "()V"⟩ [Cond.code ⟨"SeriesVault$Table", "clearCells", "()V"⟩ prog_11_method_8_code 2 none] { frames := 3, cells := 0, slots := 0, locals := 47 } (pC D dA [.ref (ta 0)] (TbW dA ta t ++ (ws)) sz) (va_Qv (fun (u9 : Unit) => True) (fun (u9 : Unit) t9 => bW D (va_A (TbW dA ta t ++ (ws)) sz) (TbW dA ta (TB.s_ce (TB.s_th t (filG t.th 0 0 t.rc)) (filG t.ce 0 0 (t.rc * t.wi))) ++ (ws)) t9) (va_A (TbW dA ta t ++ (ws)) sz)) 0 0 (va_A (TbW dA ta t ++ (ws)) sz) := by
  refine mkC (y := ⟨"SeriesVault$Table", "clearCells", "()V"⟩) (cc := prog_11_method_8_code) (maxL := 2) (av := [.ref (ta 0)]) (ws := TbW dA ta t ++ (ws)) (sz := sz) (Qc := fun A => va_Qv (fun (u9 : Unit) => True) (fun (u9 : Unit) t9 => bW D A (TbW dA ta (TB.s_ce (TB.s_th t (filG t.th 0 0 t.rc)) (filG t.ce 0 0 (t.rc * t.wi))) ++ (ws)) t9) A) (by decide) (Nat.le_of_ble_eq_true rfl) ?_
  intro A p e s m below meth c ls hsz hB
  obtain ⟨hx, hb, hr, hml, hown, hin, hlk, hE, hK, hP, hD, hS, hA, hN, hl⟩ := hB
  have hown : s.vm.findClass "SeriesVault$Table" = some m.cls := hown
  have hl : lv_has ls 2 [(0, .ref (ta 0))] := hl
  obtain ⟨H, hH⟩ : ∃ z, z = s.heap := ⟨_, rfl⟩
  have hP : va_P D vwCl (TbW dA ta t ++ (ws)) H := by rw [hH]; exact hP
  have hS : va_S A s.heap H [] := by rw [hH]; exact hS
  rw [← hH]
  refine lv_aload_n hx hb d_T_clearCells_0 rfl (lv_at hl 0 rfl) ?_
  refine gF (v := .int (nI t.rc)) hx hb hown hE hK hP 0 rfl rfl layT 3 (by decide) w1368 rfl d_T_clearCells_1 ?_
  refine lv_aload_n hx hb d_T_clearCells_4 rfl (lv_at hl 0 rfl) ?_
  refine gF (v := .int (nI t.wi)) hx hb hown hE hK hP 0 rfl rfl layT 2 (by decide) w1367 rfl d_T_clearCells_5 ?_
  refine lv_imul hx hb d_T_clearCells_8 (tpi (y := nI (t.rc * t.wi)) (pk_mul (t.rc) (t.wi)) ?_)
  refine lv_istore_n hx hb d_T_clearCells_9 rfl hl (by decide) rfl (fun ls hl => ?_)
  have hl : lv_has ls 2 [(1, .int (nI (t.rc * t.wi))), (0, .ref (ta 0))] := hl
  refine lv_iload_n hx hb d_T_clearCells_10 rfl (lv_at hl 0 rfl) ?_
  refine lv_aload_n hx hb d_T_clearCells_11 rfl (lv_at hl 1 rfl) ?_
  refine gF (v := .ref t.cA) hx hb hown hE hK hP 0 rfl rfl layT 6 (by decide) w789 rfl d_T_clearCells_12 ?_
  refine va_alen (v := nI t.cN) hx hb hK hP (4) 2 rfl rfl rfl d_T_clearCells_15 ?_
  refine lv_icmp_le hx hb d_T_clearCells_16 (tgt := 36) rfl (fun _ => ?_) (fun h9 => absurd ((nI_leI (a := t.rc * t.wi) (b := t.cN) (by omega) (by omega)).mpr h1) h9)
  refine lv_aload_n hx hb d_T_clearCells_36 rfl (lv_at hl 1 rfl) ?_
  refine gF (v := .ref t.cA) hx hb hown hE hK hP 0 rfl rfl layT 6 (by decide) w789 rfl d_T_clearCells_37 ?_
  refine lv_iconst (v := 0) hx hb d_T_clearCells_40 (by decide) ?_
  refine lv_iload_n hx hb d_T_clearCells_41 rfl (lv_at hl 0 rfl) ?_
  refine lv_lconst (v := 0) hx hb d_T_clearCells_42 (by decide) ?_
  refine jkV (wr := []) (rnS (As := [.ref t.cA, .int 0, .int (nI (t.rc * t.wi)), .long 0]) (rest := []) hx hb hml hown hE hK (hN _ _ hS) hP hD (v_Tfill_c l D dA H.size ws ta t (t.rc * t.wi) (show t.cN ≤ 65536 from by omega) (show (t.rc * t.wi) ≤ t.cN from by omega)) w1373 w1372 w1374 w712 rfl rfl ⟨⟨by decide, by decide⟩, rfl⟩ ⟨(Nat.le_of_ble_eq_true rfl), (Nat.le_of_ble_eq_true rfl)⟩ rfl hl.1 rfl (Nat.le_of_ble_eq_true rfl) d_T_clearCells_43 ⟨(Nat.le_of_ble_eq_true rfl), (Nat.le_of_ble_eq_true rfl)⟩) hP hD hS hA (fun u2 H locs hp9 hP hD hS => ?_)
  have hP : va_P D vwCl (TbW dA ta (TB.s_ce t (filG t.ce 0 0 (t.rc * t.wi))) ++ (ws)) H := hP
  have hD : va_D A (TbW dA ta (TB.s_ce t (filG t.ce 0 0 (t.rc * t.wi))) ++ (ws)) := hD
  refine lv_aload_n hx hb d_T_clearCells_46 rfl (lv_at hl 1 rfl) ?_
  refine gF (v := .ref (ta 3)) hx hb hown hE hK hP 0 rfl rfl layT 5 (by decide) w788 rfl d_T_clearCells_47 ?_
  refine lv_iconst (v := 0) hx hb d_T_clearCells_50 (by decide) ?_
  refine lv_aload_n hx hb d_T_clearCells_51 rfl (lv_at hl 1 rfl) ?_
  refine gF (v := .int (nI t.rc)) hx hb hown hE hK hP 0 rfl rfl layT 3 (by decide) w1368 rfl d_T_clearCells_52 ?_
  refine lv_lconst (v := 0) hx hb d_T_clearCells_55 (by decide) ?_
  refine jkV (wr := []) (rnS (As := [.ref (ta 3), .int 0, .int (nI t.rc), .long 0]) (rest := []) hx hb hml hown hE hK (hN _ _ hS) hP hD (v_Tfill_t l D dA H.size ws ta (TB.s_ce t (filG t.ce 0 0 (t.rc * t.wi))) t.rc (show t.cN ≤ 65536 from by omega) (show t.rc ≤ 256 from by omega)) w1373 w1372 w1374 w712 rfl rfl ⟨⟨by decide, by decide⟩, rfl⟩ ⟨(Nat.le_of_ble_eq_true rfl), (Nat.le_of_ble_eq_true rfl)⟩ rfl hl.1 rfl (Nat.le_of_ble_eq_true rfl) d_T_clearCells_56 ⟨(Nat.le_of_ble_eq_true rfl), (Nat.le_of_ble_eq_true rfl)⟩) hP hD hS hA (fun u4 H locs hp9 hP hD hS => ?_)
  have hP : va_P D vwCl (TbW dA ta (TB.s_ce (TB.s_th t (filG t.th 0 0 t.rc)) (filG t.ce 0 0 (t.rc * t.wi))) ++ (ws)) H := hP
  have hD : va_D A (TbW dA ta (TB.s_ce (TB.s_th t (filG t.th 0 0 t.rc)) (filG t.ce 0 0 (t.rc * t.wi))) ++ (ws)) := hD
  exact rfV hx hb hr hlk hS () trivial hP hD (Nat.le_of_ble_eq_true rfl) (Nat.le_of_ble_eq_true rfl) d_T_clearCells_59
theorem d_T_clearCells_19 : decode prog_11_method_8_code 19 = .ok (.aload_n 0, 1) := by decide +kernel
theorem d_T_clearCells_20 : decode prog_11_method_8_code 20 = .ok (.iload_n 1, 1) := by decide +kernel
theorem d_T_clearCells_21 : decode prog_11_method_8_code 21 = .ok (.iconst 2, 1) := by decide +kernel
theorem d_T_clearCells_22 : decode prog_11_method_8_code 22 = .ok (.aload_n 0, 1) := by decide +kernel
theorem d_T_clearCells_23 : decode prog_11_method_8_code 23 = .ok (.getfield 27, 3) := by decide +kernel
theorem d_T_clearCells_26 : decode prog_11_method_8_code 26 = .ok (.arraylength, 1) := by decide +kernel
theorem d_T_clearCells_27 : decode prog_11_method_8_code 27 = .ok (.imul, 1) := by decide +kernel
theorem d_T_clearCells_28 : decode prog_11_method_8_code 28 = .ok (.invokestatic 67, 3) := by decide +kernel
theorem d_T_clearCells_31 : decode prog_11_method_8_code 31 = .ok (.newarray .long, 2) := by decide +kernel
theorem d_T_clearCells_33 : decode prog_11_method_8_code 33 = .ok (.putfield 27, 3) := by decide +kernel
theorem w1375 : Cond.methodLink "SeriesVault$Table" 67 ⟨"java/lang/Math", "max", "(II)I"⟩ ∈ aW := aw_of (tb_7 (List.mem_of_getElem? (i := 148) rfl)) rfl
set_option maxHeartbeats 4000000 in
set_option maxRecDepth 100000 in
theorem v_TclearCells_1 (l : Launch) (D : va_G) (dA : Nat → ClassId) (sz : Nat) (ws : va_W) (ta : Nat → Nat) (t : TB) (hN : t.cN ≤ 65536) (h1 : t.cN < t.rc * t.wi) (h2 : t.rc ≤ 256) (h3 : t.rc * t.wi ≤ 16384) : Met l ⟨"SeriesVault$Table", "clearCells", "()V"⟩ [Cond.code ⟨"SeriesVault$Table", "clearCells", "()V"⟩ prog_11_method_8_code 2 none] { frames := 3, cells := 1, slots := max (t.rc * t.wi) (2 * t.cN), locals := 47 } (pC D dA [.ref (ta 0)] (TbW dA ta t ++ (ws)) sz) (va_Qv (fun (u9 : Nat) => True) (fun (u9 : Nat) t9 => bW D (va_A (TbW dA ta t ++ (ws)) sz) (TbW dA ta (TB.s_ce (TB.s_cN (TB.s_cA (TB.s_th t (filG t.th 0 0 t.rc)) u9) (max (t.rc * t.wi) (2 * t.cN))) (filG (fun _ => 0) 0 0 (t.rc * t.wi))) ++ (ws)) t9) (va_A (TbW dA ta t ++ (ws)) sz)) 1 (max (t.rc * t.wi) (2 * t.cN)) (va_A (TbW dA ta t ++ (ws)) sz) := by
  refine mkC (y := ⟨"SeriesVault$Table", "clearCells", "()V"⟩) (cc := prog_11_method_8_code) (maxL := 2) (av := [.ref (ta 0)]) (ws := TbW dA ta t ++ (ws)) (sz := sz) (Qc := fun A => va_Qv (fun (u9 : Nat) => True) (fun (u9 : Nat) t9 => bW D A (TbW dA ta (TB.s_ce (TB.s_cN (TB.s_cA (TB.s_th t (filG t.th 0 0 t.rc)) u9) (max (t.rc * t.wi) (2 * t.cN))) (filG (fun _ => 0) 0 0 (t.rc * t.wi))) ++ (ws)) t9) A) (by decide) (Nat.le_of_ble_eq_true rfl) ?_
  intro A p e s m below meth c ls hsz hB
  obtain ⟨hx, hb, hr, hml, hown, hin, hlk, hE, hK, hP, hD, hS, hA, hN, hl⟩ := hB
  have hown : s.vm.findClass "SeriesVault$Table" = some m.cls := hown
  have hl : lv_has ls 2 [(0, .ref (ta 0))] := hl
  obtain ⟨H, hH⟩ : ∃ z, z = s.heap := ⟨_, rfl⟩
  have hP : va_P D vwCl (TbW dA ta t ++ (ws)) H := by rw [hH]; exact hP
  have hS : va_S A s.heap H [] := by rw [hH]; exact hS
  rw [← hH]
  refine lv_aload_n hx hb d_T_clearCells_0 rfl (lv_at hl 0 rfl) ?_
  refine gF (v := .int (nI t.rc)) hx hb hown hE hK hP 0 rfl rfl layT 3 (by decide) w1368 rfl d_T_clearCells_1 ?_
  refine lv_aload_n hx hb d_T_clearCells_4 rfl (lv_at hl 0 rfl) ?_
  refine gF (v := .int (nI t.wi)) hx hb hown hE hK hP 0 rfl rfl layT 2 (by decide) w1367 rfl d_T_clearCells_5 ?_
  refine lv_imul hx hb d_T_clearCells_8 (tpi (y := nI (t.rc * t.wi)) (pk_mul (t.rc) (t.wi)) ?_)
  refine lv_istore_n hx hb d_T_clearCells_9 rfl hl (by decide) rfl (fun ls hl => ?_)
  have hl : lv_has ls 2 [(1, .int (nI (t.rc * t.wi))), (0, .ref (ta 0))] := hl
  refine lv_iload_n hx hb d_T_clearCells_10 rfl (lv_at hl 0 rfl) ?_
  refine lv_aload_n hx hb d_T_clearCells_11 rfl (lv_at hl 1 rfl) ?_
  refine gF (v := .ref t.cA) hx hb hown hE hK hP 0 rfl rfl layT 6 (by decide) w789 rfl d_T_clearCells_12 ?_
  refine va_alen (v := nI t.cN) hx hb hK hP (4) 2 rfl rfl rfl d_T_clearCells_15 ?_
  refine lv_icmp_le hx hb d_T_clearCells_16 (tgt := 36) rfl (fun h9 => absurd h9 (mt (nI_leI (a := t.rc * t.wi) (b := t.cN) (by omega) (by omega)).mp (Nat.not_le.mpr h1))) (fun _ => ?_)
  refine lv_aload_n hx hb d_T_clearCells_19 rfl (lv_at hl 1 rfl) ?_
  refine lv_iload_n hx hb d_T_clearCells_20 rfl (lv_at hl 0 rfl) ?_
  refine lv_iconst (v := 2) hx hb d_T_clearCells_21 (by decide) ?_
  refine lv_aload_n hx hb d_T_clearCells_22 rfl (lv_at hl 1 rfl) ?_
  refine gF (v := .ref t.cA) hx hb hown hE hK hP 0 rfl rfl layT 6 (by decide) w789 rfl d_T_clearCells_23 ?_
  refine va_alen (v := nI t.cN) hx hb hK hP (4) 2 rfl rfl rfl d_T_clearCells_26 ?_
  refine lv_imul hx hb d_T_clearCells_27 (tpi (y := nI (2 * t.cN)) (pk_mul (2) (t.cN)) ?_)
  refine va_mmax hx hb (hml.trans hl.1.symm) hown (hE.t w1375 rfl) (hE.t w764 rfl) (hE.t w549 rfl) (hE.t w765 rfl) (Nat.le_of_ble_eq_true rfl) (Nat.le_of_ble_eq_true rfl) (show 0 ≤ 1 by omega) (show 0 ≤ max (t.rc * t.wi) (2 * t.cN) by omega) d_T_clearCells_28 (tpi (y := nI (max (t.rc * t.wi) (2 * t.cN))) (nI_max (a := t.rc * t.wi) (b := 2 * t.cN) (by omega) (by omega)) ?_)
  refine nnA (atype := .long) (ty := .long) (N' := max (t.rc * t.wi) (2 * t.cN)) (a0 := (max (t.rc * t.wi) (2 * t.cN), .inr (.inl (fun _ => 0)))) hx hb hE rfl w186 hK hP hD hS hA 2 rfl (fun _ => rfl) (by omega) (show (max (t.rc * t.wi) (2 * t.cN)) * 8 ≤ 536870912 by omega) (show 0 + 1 ≤ 1 by omega) (show 0 + (max (t.rc * t.wi) (2 * t.cN)) ≤ max (t.rc * t.wi) (2 * t.cN) by omega) d_T_clearCells_31 (fun q0 H hP hD hS => ?_)
  have hP : va_P D vwCl ([(q0, .inl (dA 2, max (t.rc * t.wi) (2 * t.cN), .inr (.inl (fun _ => 0))))] ++ (TbW dA ta t ++ (ws))) H := hP
  have hD : va_D A ([(q0, .inl (dA 2, max (t.rc * t.wi) (2 * t.cN), .inr (.inl (fun _ => 0))))] ++ (TbW dA ta t ++ (ws))) := hD
  refine pF (v := .ref q0) hx hb hown hE hK hP hD hS 1 rfl rfl layT tyT tokT nmT 6 (by decide) w789 rfl rfl rfl (Nat.le_of_ble_eq_true rfl) d_T_clearCells_33 (fun H locs hP hD hS => ?_)
  have hP : va_P D vwCl ([(q0, .inl (dA 2, max (t.rc * t.wi) (2 * t.cN), .inr (.inl (fun _ => 0))))] ++ (TbWf dA ta t (TB.s_cA t q0) ++ (ws))) H := hP
  have hD : va_D A ([(q0, .inl (dA 2, max (t.rc * t.wi) (2 * t.cN), .inr (.inl (fun _ => 0))))] ++ (TbWf dA ta t (TB.s_cA t q0) ++ (ws))) := hD
  have hP := swP 4 hP
  have hD := swD 4 hD
  have hP : va_P D vwCl (TbW dA ta (TB.s_ce (TB.s_cN (TB.s_cA t q0) (max (t.rc * t.wi) (2 * t.cN))) (fun _ => 0)) ++ (ws)) H := hP
  have hD : va_D A (TbW dA ta (TB.s_ce (TB.s_cN (TB.s_cA t q0) (max (t.rc * t.wi) (2 * t.cN))) (fun _ => 0)) ++ (ws)) := hD
  refine lv_aload_n hx hb d_T_clearCells_36 rfl (lv_at hl 1 rfl) ?_
  refine gF (v := .ref q0) hx hb hown hE hK hP 0 rfl rfl layT 6 (by decide) w789 rfl d_T_clearCells_37 ?_
  refine lv_iconst (v := 0) hx hb d_T_clearCells_40 (by decide) ?_
  refine lv_iload_n hx hb d_T_clearCells_41 rfl (lv_at hl 0 rfl) ?_
  refine lv_lconst (v := 0) hx hb d_T_clearCells_42 (by decide) ?_
  refine jkV (wr := []) (rnS (As := [.ref q0, .int 0, .int (nI (t.rc * t.wi)), .long 0]) (rest := []) hx hb hml hown hE hK (hN _ _ hS) hP hD (v_Tfill_c l D dA H.size ws ta (TB.s_ce (TB.s_cN (TB.s_cA t q0) (max (t.rc * t.wi) (2 * t.cN))) (fun _ => 0)) (t.rc * t.wi) (show (max (t.rc * t.wi) (2 * t.cN)) ≤ 65536 from by omega) (show (t.rc * t.wi) ≤ (max (t.rc * t.wi) (2 * t.cN)) from by omega)) w1373 w1372 w1374 w712 rfl rfl ⟨⟨by decide, by decide⟩, rfl⟩ ⟨(Nat.le_of_ble_eq_true rfl), (Nat.le_of_ble_eq_true rfl)⟩ rfl hl.1 rfl (Nat.le_of_ble_eq_true rfl) d_T_clearCells_43 ⟨(show 0 + 1 + 0 ≤ 1 by omega), (show 0 + (max (t.rc * t.wi) (2 * t.cN)) + 0 ≤ max (t.rc * t.wi) (2 * t.cN) by omega)⟩) hP hD hS hA (fun u2 H locs hp9 hP hD hS => ?_)
  have hP : va_P D vwCl (TbW dA ta (TB.s_ce (TB.s_cN (TB.s_cA t q0) (max (t.rc * t.wi) (2 * t.cN))) (filG (fun _ => 0) 0 0 (t.rc * t.wi))) ++ (ws)) H := hP
  have hD : va_D A (TbW dA ta (TB.s_ce (TB.s_cN (TB.s_cA t q0) (max (t.rc * t.wi) (2 * t.cN))) (filG (fun _ => 0) 0 0 (t.rc * t.wi))) ++ (ws)) := hD
  refine lv_aload_n hx hb d_T_clearCells_46 rfl (lv_at hl 1 rfl) ?_
  refine gF (v := .ref (ta 3)) hx hb hown hE hK hP 0 rfl rfl layT 5 (by decide) w788 rfl d_T_clearCells_47 ?_
  refine lv_iconst (v := 0) hx hb d_T_clearCells_50 (by decide) ?_
  refine lv_aload_n hx hb d_T_clearCells_51 rfl (lv_at hl 1 rfl) ?_
  refine gF (v := .int (nI t.rc)) hx hb hown hE hK hP 0 rfl rfl layT 3 (by decide) w1368 rfl d_T_clearCells_52 ?_
  refine lv_lconst (v := 0) hx hb d_T_clearCells_55 (by decide) ?_
  refine jkV (wr := []) (rnS (As := [.ref (ta 3), .int 0, .int (nI t.rc), .long 0]) (rest := []) hx hb hml hown hE hK (hN _ _ hS) hP hD (v_Tfill_t l D dA H.size ws ta (TB.s_ce (TB.s_cN (TB.s_cA t q0) (max (t.rc * t.wi) (2 * t.cN))) (filG (fun _ => 0) 0 0 (t.rc * t.wi))) t.rc (show (max (t.rc * t.wi) (2 * t.cN)) ≤ 65536 from by omega) (show t.rc ≤ 256 from by omega)) w1373 w1372 w1374 w712 rfl rfl ⟨⟨by decide, by decide⟩, rfl⟩ ⟨(Nat.le_of_ble_eq_true rfl), (Nat.le_of_ble_eq_true rfl)⟩ rfl hl.1 rfl (Nat.le_of_ble_eq_true rfl) d_T_clearCells_56 ⟨(show 0 + 1 + 0 + 0 ≤ 1 by omega), (show 0 + (max (t.rc * t.wi) (2 * t.cN)) + 0 + 0 ≤ max (t.rc * t.wi) (2 * t.cN) by omega)⟩) hP hD hS hA (fun u4 H locs hp9 hP hD hS => ?_)
  have hP : va_P D vwCl (TbW dA ta (TB.s_ce (TB.s_cN (TB.s_cA (TB.s_th t (filG t.th 0 0 t.rc)) q0) (max (t.rc * t.wi) (2 * t.cN))) (filG (fun _ => 0) 0 0 (t.rc * t.wi))) ++ (ws)) H := hP
  have hD : va_D A (TbW dA ta (TB.s_ce (TB.s_cN (TB.s_cA (TB.s_th t (filG t.th 0 0 t.rc)) q0) (max (t.rc * t.wi) (2 * t.cN))) (filG (fun _ => 0) 0 0 (t.rc * t.wi))) ++ (ws)) := hD
  exact rfV hx hb hr hlk hS q0 trivial hP hD (show 0 + 1 + 0 + 0 ≤ 1 by omega) (show 0 + (max (t.rc * t.wi) (2 * t.cN)) + 0 + 0 ≤ max (t.rc * t.wi) (2 * t.cN) by omega) d_T_clearCells_59
set_option maxHeartbeats 4000000 in
set_option maxRecDepth 100000 in
theorem v_SvalueOf2 (l : Launch) (D : va_G) (dA : Nat → ClassId) (sz : Nat) (ws : va_W) (w0 : va_W) (a : Nat) (S : List LB) (wb : Nat) (M : List Int32) (hsub : ∀ c, c ∈ w0 → c ∈ ws) (hsr : isSer dA w0 a S) (hso : serOk S) (hwwb : isWo dA ws wb M) (hlwb : M.length ≤ 65536) : Met l ⟨"SeriesVault$Series", "valueOf", "(LSeriesVault$Word;)LSeriesVault$Word;"⟩ [Cond.code ⟨"SeriesVault$Series", "valueOf", "(LSeriesVault$Word;)LSeriesVault$Word;"⟩ prog_7_method_5_code 3 (some (FieldType.object "SeriesVault$Word"))] { frames := 2, cells := 0, slots := 0, locals := 22 } (pC D dA [.ref a, .ref wb] (ws) sz) (va_Qr (fun (_ : Unit) => True) (fun (u9 : Unit) (r9 : Nat) t9 => (isWo dA w0 r9 (valS S M)) ∧ bW D (va_A (ws) sz) (ws) t9) (va_A (ws) sz)) 0 0 (va_A (ws) sz) := by
  refine mkC (y := ⟨"SeriesVault$Series", "valueOf", "(LSeriesVault$Word;)LSeriesVault$Word;"⟩) (cc := prog_7_method_5_code) (maxL := 3) (av := [.ref a, .ref wb]) (ws := ws) (sz := sz) (Qc := fun A => va_Qr (fun (_ : Unit) => True) (fun (u9 : Unit) (r9 : Nat) t9 => (isWo dA w0 r9 (valS S M)) ∧ bW D A (ws) t9) A) (by decide) (Nat.le_of_ble_eq_true rfl) ?_
  intro A p e s m below meth c ls hsz hB
  obtain ⟨hx, hb, hr, hml, hown, hin, hlk, hE, hK, hP, hD, hS, hA, hN, hl⟩ := hB
  have hown : s.vm.findClass "SeriesVault$Series" = some m.cls := hown
  have hl : lv_has ls 3 [(0, .ref a), (1, .ref wb)] := hl
  obtain ⟨H, hH⟩ : ∃ z, z = s.heap := ⟨_, rfl⟩
  have hP : va_P D vwCl (ws) H := by rw [hH]; exact hP
  have hS : va_S A s.heap H [] := by rw [hH]; exact hS
  rw [← hH]
  obtain ⟨na, va, no, tx, fn, fv, n1, n2, n3, wno, wtx, hel⟩ := hsr
  have so1 := hso.1
  refine lv_iconst (v := 0) hx hb d_S_valueOf_0 (by decide) ?_
  refine lv_istore_n hx hb d_S_valueOf_1 rfl hl (by decide) rfl (fun ls hl => ?_)
  have hl : lv_has ls 3 [(2, .int 0), (0, .ref a), (1, .ref wb)] := hl
  have L2 : ∀ (k9 : Nat) (i : Nat) (i1 : i ≤ S.length) (i2 : frst (vsB S M) (S.length - i) i = frst (vsB S M) S.length 0) (hk9 : S.length - i = k9), ∀ (H : Heap) (locs : List Loc) (ls : Array Slot) (hP : va_P D vwCl (ws) H) (hD : va_D A (ws)) (hS : va_S A s.heap H locs) (hl : lv_has ls 3 [(2, .int (nI i)), (0, .ref a), (1, .ref wb)]), W p l e ({ frames := 2, cells := 0, slots := 0, locals := 22 } : Room) s m ([.ref a, .ref wb] : List Value).toArray below meth c H locs 0 0 (MQ below (va_Qr (fun (_ : Unit) => True) (fun (u9 : Unit) (r9 : Nat) t9 => (isWo dA w0 r9 (valS S M)) ∧ bW D A (ws) t9) A) ([.ref a, .ref wb] : List Value).toArray s 0 0 A) (F0 m 2 ls []) := by
    intro k9
    induction k9 using Nat.strongRecOn with
    | ind k9 ih2 =>
      intro i i1 i2 hk9 H locs ls hP hD hS hl
      refine lv_iload_n hx hb d_S_valueOf_2 rfl (lv_at hl 0 rfl) ?_
      refine lv_aload_n hx hb d_S_valueOf_3 rfl (lv_at hl 1 rfl) ?_
      obtain ⟨qp1, ep2⟩ := List.getElem?_of_mem (show ((a, .inr (11, [.ref na, .ref va, .ref no, .ref tx])) : Nat × va_E) ∈ ws from (hsub _ n1))
      refine gF (v := .ref na) hx hb hown hE hK hP qp1 ep2 rfl layS 0 (by decide) w1278 rfl d_S_valueOf_4 ?_
      obtain ⟨qp3, ep4⟩ := List.getElem?_of_mem (show ((na, .inl (dA 6, S.length, .inr (.inr (.inr (.inr fn))))) : Nat × va_E) ∈ ws from (hsub _ n2))
      refine va_alen (v := nI S.length) hx hb hK hP (qp3) 6 ep4 rfl rfl d_S_valueOf_7 ?_
      refine lv_icmp_ge hx hb d_S_valueOf_8 (tgt := 37) rfl (fun g5 => ?_) (fun g5 => ?_)
      · have g5 := (nI_leI (a := S.length) (b := i) (by omega) (by omega)).mp g5
        refine lv_aload_n hx hb d_S_valueOf_37 rfl (lv_at hl 1 rfl) ?_
        obtain ⟨qp6, ep7⟩ := List.getElem?_of_mem (show ((a, .inr (11, [.ref na, .ref va, .ref no, .ref tx])) : Nat × va_E) ∈ ws from (hsub _ n1))
        refine gF (v := .ref no) hx hb hown hE hK hP qp6 ep7 rfl layS 2 (by decide) w1279 rfl d_S_valueOf_38 ?_
        exact rkR hx hb hr (Or.inl ⟨_, rfl⟩) hlk hS () (by rw [valS_n (by rw [← i2, show S.length - i = 0 by omega]; rfl)]; exact wno) hP hD (Nat.le_of_ble_eq_true rfl) (Nat.le_of_ble_eq_true rfl) d_S_valueOf_41
      · have g5 := mt (nI_leI (a := S.length) (b := i) (by omega) (by omega)).mpr g5
        obtain ⟨p1, q1, e1, w1, e2, w2⟩ := hel i (by omega)
        have so2 := hso.2 i (by omega)
        have w1c := w1
        have w2c := w2
        obtain ⟨b1, f1, k1, k2, y1, hf1⟩ := w1c
        obtain ⟨b2, f2, k3, k4, y2, hf2⟩ := w2c
        refine lv_aload_n hx hb d_S_valueOf_11 rfl (lv_at hl 1 rfl) ?_
        obtain ⟨qp8, ep9⟩ := List.getElem?_of_mem (show ((a, .inr (11, [.ref na, .ref va, .ref no, .ref tx])) : Nat × va_E) ∈ ws from (hsub _ n1))
        refine gF (v := .ref na) hx hb hown hE hK hP qp8 ep9 rfl layS 0 (by decide) w1278 rfl d_S_valueOf_12 ?_
        refine lv_iload_n hx hb d_S_valueOf_15 rfl (lv_at hl 0 rfl) ?_
        obtain ⟨qp10, ep11⟩ := List.getElem?_of_mem (show ((na, .inl (dA 6, S.length, .inr (.inr (.inr (.inr fn))))) : Nat × va_E) ∈ ws from (hsub _ n2))
        refine nqld (f := fn) (n := S.length) hx hb hK hP (qp10) 6 ep11 rfl (i) (by omega) (by omega) e1 d_S_valueOf_16 ?_
        refine lv_aload_n hx hb d_S_valueOf_17 rfl (lv_at hl 2 rfl) ?_
        obtain ⟨qp12, ep13⟩ := List.getElem?_of_mem (show ((p1, .inr (10, [.ref b1])) : Nat × va_E) ∈ ws from (hsub _ k1))
        refine jkI (wr := []) (rnV (As := [.ref wb]) (rest := []) hx hb hml hown hE hK (hN _ _ hS) hP hD (v_Wsame l D dA H.size ws p1 ((lab S i).1) wb M (isWo_m hsub w1) (show (lab S i).1.length ≤ 65536 by omega) hwwb hlwb) (q0 := qp12) ep13 rfl w1282 w1280 w1283 w1284 w1281 rfl rfl ⟨⟨by decide, by decide⟩, rfl⟩ ⟨(Nat.le_of_ble_eq_true rfl), (Nat.le_of_ble_eq_true rfl)⟩ rfl hl.1 rfl (Nat.le_of_ble_eq_true rfl) d_S_valueOf_18 ⟨(Nat.le_of_ble_eq_true rfl), (Nat.le_of_ble_eq_true rfl)⟩) hP hD hS hA (fun r14 u15 H locs hp9 hP hD hS => ?_)
        have hP : va_P D vwCl (ws) H := hP
        have hD : va_D A (ws) := hD
        replace hp9 : bI (sameW ((lab S i).1) M) = r14 := Eq.symm hp9
        subst hp9
        refine lv_if_eq hx hb d_S_valueOf_21 (tgt := 31) rfl (fun g16 => ?_) (fun g16 => ?_)
        · have g16 := bI_0 g16
          refine lv_iinc (k := 0) (v := nI (i + 1)) hx hb d_S_valueOf_31 hl rfl (iincN (i) 1 1 (by decide)) (by decide) rfl (fun ls hl => ?_)
          have hl : lv_has ls 3 [(2, .int (nI (i + 1))), (0, .ref a), (1, .ref wb)] := hl
          refine lv_goto hx hb d_S_valueOf_34 (tgt := 2) rfl ?_
          exact ih2 _ (by omega) (i + 1) (by omega) (by rw [← i2, frst_f (n := S.length - i) (by omega) (show vsB S M i = false from g16), show S.length - i - 1 = S.length - (i + 1) by omega]) rfl H _ ls hP hD hS (lv_sub hl [0, 1, 2] rfl)
        · have g16 := bI_n0 g16
          refine lv_aload_n hx hb d_S_valueOf_24 rfl (lv_at hl 1 rfl) ?_
          obtain ⟨qp17, ep18⟩ := List.getElem?_of_mem (show ((a, .inr (11, [.ref na, .ref va, .ref no, .ref tx])) : Nat × va_E) ∈ ws from (hsub _ n1))
          refine gF (v := .ref va) hx hb hown hE hK hP qp17 ep18 rfl layS 1 (by decide) w1285 rfl d_S_valueOf_25 ?_
          refine lv_iload_n hx hb d_S_valueOf_28 rfl (lv_at hl 0 rfl) ?_
          obtain ⟨qp19, ep20⟩ := List.getElem?_of_mem (show ((va, .inl (dA 6, S.length, .inr (.inr (.inr (.inr fv))))) : Nat × va_E) ∈ ws from (hsub _ n3))
          refine nqld (f := fv) (n := S.length) hx hb hK hP (qp19) 6 ep20 rfl (i) (by omega) (by omega) e2 d_S_valueOf_29 ?_
          exact rkR hx hb hr (Or.inl ⟨_, rfl⟩) hlk hS () (by rw [valS_s (i := i) (by rw [← i2, frst_t (n := S.length - i) (by omega) (show vsB S M i = true from g16)])]; exact w2) hP hD (Nat.le_of_ble_eq_true rfl) (Nat.le_of_ble_eq_true rfl) d_S_valueOf_30
  exact L2 _ 0 (Nat.zero_le _) rfl rfl H _ ls hP hD hS (lv_sub hl [0, 1, 2] rfl)
theorem d_T_compareTexts_0 : decode prog_11_method_7_code 0 = .ok (.iconst 0, 1) := by decide +kernel
theorem d_T_compareTexts_1 : decode prog_11_method_7_code 1 = .ok (.istore_n 3, 1) := by decide +kernel
theorem d_T_compareTexts_2 : decode prog_11_method_7_code 2 = .ok (.iload_n 3, 1) := by decide +kernel
theorem d_T_compareTexts_3 : decode prog_11_method_7_code 3 = .ok (.aload_n 0, 1) := by decide +kernel
theorem d_T_compareTexts_4 : decode prog_11_method_7_code 4 = .ok (.getfield 34, 3) := by decide +kernel
theorem d_T_compareTexts_7 : decode prog_11_method_7_code 7 = .ok (.if_icmp .ge 42, 3) := by decide +kernel
theorem d_T_compareTexts_49 : decode prog_11_method_7_code 49 = .ok (.iconst 0, 1) := by decide +kernel
theorem d_T_compareTexts_50 : decode prog_11_method_7_code 50 = .ok (.ireturn, 1) := by decide +kernel
theorem d_T_compareTexts_10 : decode prog_11_method_7_code 10 = .ok (.aload_n 1, 1) := by decide +kernel
theorem d_T_compareTexts_11 : decode prog_11_method_7_code 11 = .ok (.aload_n 0, 1) := by decide +kernel
theorem d_T_compareTexts_12 : decode prog_11_method_7_code 12 = .ok (.getfield 11, 3) := by decide +kernel
theorem d_T_compareTexts_15 : decode prog_11_method_7_code 15 = .ok (.iload_n 3, 1) := by decide +kernel
theorem d_T_compareTexts_16 : decode prog_11_method_7_code 16 = .ok (.aaload, 1) := by decide +kernel
theorem d_T_compareTexts_17 : decode prog_11_method_7_code 17 = .ok (.invokevirtual 59, 3) := by decide +kernel
theorem d_T_compareTexts_20 : decode prog_11_method_7_code 20 = .ok (.aload_n 2, 1) := by decide +kernel
theorem d_T_compareTexts_21 : decode prog_11_method_7_code 21 = .ok (.aload_n 0, 1) := by decide +kernel
theorem d_T_compareTexts_22 : decode prog_11_method_7_code 22 = .ok (.getfield 11, 3) := by decide +kernel
theorem d_T_compareTexts_25 : decode prog_11_method_7_code 25 = .ok (.iload_n 3, 1) := by decide +kernel
theorem d_T_compareTexts_26 : decode prog_11_method_7_code 26 = .ok (.aaload, 1) := by decide +kernel
theorem d_T_compareTexts_27 : decode prog_11_method_7_code 27 = .ok (.invokevirtual 59, 3) := by decide +kernel
theorem d_T_compareTexts_30 : decode prog_11_method_7_code 30 = .ok (.invokevirtual 63, 3) := by decide +kernel
theorem d_T_compareTexts_33 : decode prog_11_method_7_code 33 = .ok (.istore 4, 2) := by decide +kernel
theorem d_T_compareTexts_35 : decode prog_11_method_7_code 35 = .ok (.iload 4, 2) := by decide +kernel
theorem d_T_compareTexts_37 : decode prog_11_method_7_code 37 = .ok (.ifCond .eq 6, 3) := by decide +kernel
theorem d_T_compareTexts_43 : decode prog_11_method_7_code 43 = .ok (.iinc 3 1, 3) := by decide +kernel
theorem d_T_compareTexts_46 : decode prog_11_method_7_code 46 = .ok (.goto (-44), 3) := by decide +kernel
theorem d_T_compareTexts_40 : decode prog_11_method_7_code 40 = .ok (.iload 4, 2) := by decide +kernel
theorem d_T_compareTexts_42 : decode prog_11_method_7_code 42 = .ok (.ireturn, 1) := by decide +kernel
theorem w1376 : Cond.fieldLink "SeriesVault$Table" 34 "SeriesVault$Table" "nameCount" "I" ∈ aW := aw_of (tb_2 (List.mem_of_getElem? (i := 54) rfl)) rfl
theorem w1377 : Cond.methodLink "SeriesVault$Table" 59 ⟨"SeriesVault$Series", "valueOf", "(LSeriesVault$Word;)LSeriesVault$Word;"⟩ ∈ aW := aw_of (tb_7 (List.mem_of_getElem? (i := 221) rfl)) rfl
theorem w1378 : Cond.code ⟨"SeriesVault$Series", "valueOf", "(LSeriesVault$Word;)LSeriesVault$Word;"⟩ prog_7_method_5_code 3 (some (FieldType.object "SeriesVault$Word")) ∈ aW := aw_of (tb_7 (List.mem_of_getElem? (i := 200) rfl)) rfl
theorem w1379 : Cond.instanceMethod ⟨"SeriesVault$Series", "valueOf", "(LSeriesVault$Word;)LSeriesVault$Word;"⟩ ∈ aW := aw_of (tb_7 (List.mem_of_getElem? (i := 198) rfl)) rfl
theorem w1380 : Cond.selects "SeriesVault$Series" ⟨"SeriesVault$Series", "valueOf", "(LSeriesVault$Word;)LSeriesVault$Word;"⟩ ⟨"SeriesVault$Series", "valueOf", "(LSeriesVault$Word;)LSeriesVault$Word;"⟩ ∈ aW := aw_of (tb_7 (List.mem_of_getElem? (i := 199) rfl)) rfl
theorem w1381 : Cond.methodLink "SeriesVault$Table" 63 ⟨"SeriesVault$Word", "compare", "(LSeriesVault$Word;)I"⟩ ∈ aW := aw_of (tb_7 (List.mem_of_getElem? (i := 222) rfl)) rfl
set_option maxHeartbeats 4000000 in
set_option maxRecDepth 100000 in
theorem v_TcompareTexts (l : Launch) (D : va_G) (dA : Nat → ClassId) (sz : Nat) (ws : va_W) (ta : Nat → Nat) (t : TB) (NL : Nat → List Int32) (a : Nat) (S : List LB) (b : Nat) (S2 : List LB) (hnm : nmOk dA ws t.nm t.nc NL) (hnc : t.nc ≤ 6) (hsa : isSer dA ws a S) (hoa : serOk S) (hsb : isSer dA ws b S2) (hob : serOk S2) : Met l ⟨"SeriesVault$Table", "compareTexts", "(LSeriesVault$Series;LSeriesVault$Series;)I"⟩ [Cond.code ⟨"SeriesVault$Table", "compareTexts", "(LSeriesVault$Series;LSeriesVault$Series;)I"⟩ prog_11_method_7_code 5 (some FieldType.int)] { frames := 3, cells := 0, slots := 0, locals := 44 } (pC D dA [.ref (ta 0), .ref a, .ref b] (TbW dA ta t ++ (ws)) sz) (va_Qi (fun (r9 : Int32) (u9 : Unit) => r9 = cmT NL t.nc S S2) (fun (u9 : Unit) t9 => bW D (va_A (TbW dA ta t ++ (ws)) sz) (TbW dA ta t ++ (ws)) t9) (va_A (TbW dA ta t ++ (ws)) sz)) 0 0 (va_A (TbW dA ta t ++ (ws)) sz) := by
  refine mkC (y := ⟨"SeriesVault$Table", "compareTexts", "(LSeriesVault$Series;LSeriesVault$Series;)I"⟩) (cc := prog_11_method_7_code) (maxL := 5) (av := [.ref (ta 0), .ref a, .ref b]) (ws := TbW dA ta t ++ (ws)) (sz := sz) (Qc := fun A => va_Qi (fun (r9 : Int32) (u9 : Unit) => r9 = cmT NL t.nc S S2) (fun (u9 : Unit) t9 => bW D A (TbW dA ta t ++ (ws)) t9) A) (by decide) (Nat.le_of_ble_eq_true rfl) ?_
  intro A p e s m below meth c ls hsz hB
  obtain ⟨hx, hb, hr, hml, hown, hin, hlk, hE, hK, hP, hD, hS, hA, hN, hl⟩ := hB
  have hown : s.vm.findClass "SeriesVault$Table" = some m.cls := hown
  have hl : lv_has ls 5 [(0, .ref (ta 0)), (1, .ref a), (2, .ref b)] := hl
  obtain ⟨H, hH⟩ : ∃ z, z = s.heap := ⟨_, rfl⟩
  have hP : va_P D vwCl (TbW dA ta t ++ (ws)) H := by rw [hH]; exact hP
  have hS : va_S A s.heap H [] := by rw [hH]; exact hS
  rw [← hH]
  have hcx := hsa
  obtain ⟨nax, vax, nox, txx, fnx, fvx, n1x, -⟩ := hcx
  have hcy := hsb
  obtain ⟨nay, vay, noy, txy, fny, fvy, n1y, -⟩ := hcy
  refine lv_iconst (v := 0) hx hb d_T_compareTexts_0 (by decide) ?_
  refine lv_istore_n hx hb d_T_compareTexts_1 rfl hl (by decide) rfl (fun ls hl => ?_)
  have hl : lv_has ls 5 [(3, .int 0), (0, .ref (ta 0)), (1, .ref a), (2, .ref b)] := hl
  have L2 : ∀ (k9 : Nat) (k : Nat) (i1 : k ≤ t.nc) (i2 : frst (ctB NL S S2) (t.nc - k) k = frst (ctB NL S S2) t.nc 0) (hk9 : t.nc - k = k9), ∀ (H : Heap) (locs : List Loc) (ls : Array Slot) (hP : va_P D vwCl (TbW dA ta t ++ (ws)) H) (hD : va_D A (TbW dA ta t ++ (ws))) (hS : va_S A s.heap H locs) (hl : lv_has ls 5 [(3, .int (nI k)), (0, .ref (ta 0)), (1, .ref a), (2, .ref b)]), W p l e ({ frames := 3, cells := 0, slots := 0, locals := 44 } : Room) s m ([.ref (ta 0), .ref a, .ref b] : List Value).toArray below meth c H locs 0 0 (MQ below (va_Qi (fun (r9 : Int32) (u9 : Unit) => r9 = cmT NL t.nc S S2) (fun (u9 : Unit) t9 => bW D A (TbW dA ta t ++ (ws)) t9) A) ([.ref (ta 0), .ref a, .ref b] : List Value).toArray s 0 0 A) (F0 m 2 ls []) := by
    intro k9
    induction k9 using Nat.strongRecOn with
    | ind k9 ih2 =>
      intro k i1 i2 hk9 H locs ls hP hD hS hl
      refine lv_iload_n hx hb d_T_compareTexts_2 rfl (lv_at hl 0 rfl) ?_
      refine lv_aload_n hx hb d_T_compareTexts_3 rfl (lv_at hl 1 rfl) ?_
      refine gF (v := .int (nI t.nc)) hx hb hown hE hK hP 0 rfl rfl layT 1 (by decide) w1376 rfl d_T_compareTexts_4 ?_
      refine lv_icmp_ge hx hb d_T_compareTexts_7 (tgt := 49) rfl (fun g1 => ?_) (fun g1 => ?_)
      · have g1 := (nI_leI (a := t.nc) (b := k) (by omega) (by omega)).mp g1
        refine lv_iconst (v := 0) hx hb d_T_compareTexts_49 (by decide) ?_
        exact rfI hx hb hr hlk hS () (by rw [cmT_n (by rw [← i2, show t.nc - k = 0 by omega]; rfl)]) hP hD (Nat.le_of_ble_eq_true rfl) (Nat.le_of_ble_eq_true rfl) d_T_compareTexts_50
      · have g1 := mt (nI_leI (a := t.nc) (b := k) (by omega) (by omega)).mpr g1
        obtain ⟨p1, ep1, wp1, lp1⟩ := hnm k (by omega)
        have wpc := wp1
        obtain ⟨bp1, fp1, kp1, -⟩ := wpc
        have vl1 := valS_le (M := NL k) hoa
        have vl2 := valS_le (M := NL k) hob
        refine lv_aload_n hx hb d_T_compareTexts_10 rfl (lv_at hl 2 rfl) ?_
        refine lv_aload_n hx hb d_T_compareTexts_11 rfl (lv_at hl 1 rfl) ?_
        refine gF (v := .ref (ta 1)) hx hb hown hE hK hP 0 rfl rfl layT 0 (by decide) w784 rfl d_T_compareTexts_12 ?_
        refine lv_iload_n hx hb d_T_compareTexts_15 rfl (lv_at hl 0 rfl) ?_
        refine nqld (f := t.nm) (n := 6) hx hb hK hP (1) 6 rfl rfl (k) (by omega) (by decide) ep1 d_T_compareTexts_16 ?_
        obtain ⟨qp2, ep3⟩ := List.getElem?_of_mem (show ((a, .inr (11, [.ref nax, .ref vax, .ref nox, .ref txx])) : Nat × va_E) ∈ TbW dA ta t ++ (ws) from (List.mem_append_right _ n1x))
        refine jkR (wr := []) (rnV (As := [.ref p1]) (rest := []) hx hb hml hown hE hK (hN _ _ hS) hP hD (v_SvalueOf2 l D dA H.size (TbW dA ta t ++ (ws)) ws a S p1 (NL k) (fun _ hm => (List.mem_append_right _ hm)) hsa hoa (isWo_m (fun _ hm => (List.mem_append_right _ hm)) wp1) lp1) (q0 := qp2) ep3 rfl w1378 w1377 w1379 w1380 w1288 rfl rfl ⟨⟨by decide, by decide⟩, rfl⟩ ⟨(Nat.le_of_ble_eq_true rfl), (Nat.le_of_ble_eq_true rfl)⟩ rfl hl.1 rfl (Nat.le_of_ble_eq_true rfl) d_T_compareTexts_17 ⟨(Nat.le_of_ble_eq_true rfl), (Nat.le_of_ble_eq_true rfl)⟩) hP hD hS hA (fun u4 v1 H locs hp9 hP hD hS => ?_)
        have hP : va_P D vwCl (TbW dA ta t ++ (ws)) H := hP
        have hD : va_D A (TbW dA ta t ++ (ws)) := hD
        have f_w_5 := hp9
        have wv1c := f_w_5
        obtain ⟨bv1, fv1, kv1, -⟩ := wv1c
        refine lv_aload_n hx hb d_T_compareTexts_20 rfl (lv_at hl 3 rfl) ?_
        refine lv_aload_n hx hb d_T_compareTexts_21 rfl (lv_at hl 1 rfl) ?_
        refine gF (v := .ref (ta 1)) hx hb hown hE hK hP 0 rfl rfl layT 0 (by decide) w784 rfl d_T_compareTexts_22 ?_
        refine lv_iload_n hx hb d_T_compareTexts_25 rfl (lv_at hl 0 rfl) ?_
        refine nqld (f := t.nm) (n := 6) hx hb hK hP (1) 6 rfl rfl (k) (by omega) (by decide) ep1 d_T_compareTexts_26 ?_
        obtain ⟨qp6, ep7⟩ := List.getElem?_of_mem (show ((b, .inr (11, [.ref nay, .ref vay, .ref noy, .ref txy])) : Nat × va_E) ∈ TbW dA ta t ++ (ws) from (List.mem_append_right _ n1y))
        refine jkR (wr := []) (rnV (As := [.ref p1]) (rest := [.ref v1]) hx hb hml hown hE hK (hN _ _ hS) hP hD (v_SvalueOf2 l D dA H.size (TbW dA ta t ++ (ws)) ws b S2 p1 (NL k) (fun _ hm => (List.mem_append_right _ hm)) hsb hob (isWo_m (fun _ hm => (List.mem_append_right _ hm)) wp1) lp1) (q0 := qp6) ep7 rfl w1378 w1377 w1379 w1380 w1288 rfl rfl ⟨⟨by decide, by decide⟩, rfl⟩ ⟨(Nat.le_of_ble_eq_true rfl), (Nat.le_of_ble_eq_true rfl)⟩ rfl hl.1 rfl (Nat.le_of_ble_eq_true rfl) d_T_compareTexts_27 ⟨(Nat.le_of_ble_eq_true rfl), (Nat.le_of_ble_eq_true rfl)⟩) hP hD hS hA (fun u8 v2 H locs hp9 hP hD hS => ?_)
        have hP : va_P D vwCl (TbW dA ta t ++ (ws)) H := hP
        have hD : va_D A (TbW dA ta t ++ (ws)) := hD
        have f_w_9 := hp9
        obtain ⟨qp10, ep11⟩ := List.getElem?_of_mem (show ((v1, .inr (10, [.ref bv1])) : Nat × va_E) ∈ TbW dA ta t ++ (ws) from (List.mem_append_right _ kv1))
        refine jkI (wr := []) (rnV (As := [.ref v2]) (rest := []) hx hb hml hown hE hK (hN _ _ hS) hP hD (v_Wcmp l D dA H.size (TbW dA ta t ++ (ws)) v1 (valS S (NL k)) v2 (valS S2 (NL k)) (isWo_m (fun _ hm => (List.mem_append_right _ hm)) f_w_5) (show (valS S (NL k)).length ≤ 65536 by omega) (isWo_m (fun _ hm => (List.mem_append_right _ hm)) f_w_9) (show (valS S2 (NL k)).length ≤ 65536 by omega)) (q0 := qp10) ep11 rfl w1318 w1381 w1319 w1320 w1281 rfl rfl ⟨⟨by decide, by decide⟩, rfl⟩ ⟨(Nat.le_of_ble_eq_true rfl), (Nat.le_of_ble_eq_true rfl)⟩ rfl hl.1 rfl (Nat.le_of_ble_eq_true rfl) d_T_compareTexts_30 ⟨(Nat.le_of_ble_eq_true rfl), (Nat.le_of_ble_eq_true rfl)⟩) hP hD hS hA (fun r12 u13 H locs hp9 hP hD hS => ?_)
        have hP : va_P D vwCl (TbW dA ta t ++ (ws)) H := hP
        have hD : va_D A (TbW dA ta t ++ (ws)) := hD
        replace hp9 : cmpW (valS S (NL k)) (valS S2 (NL k)) = r12 := Eq.symm hp9
        subst hp9
        refine tpi (y := ctC NL S S2 k) rfl ?_
        refine lv_istore hx hb d_T_compareTexts_33 hl (by decide) rfl (fun ls hl => ?_)
        have hl : lv_has ls 5 [(4, .int (ctC NL S S2 k)), (3, .int (nI k)), (0, .ref (ta 0)), (1, .ref a), (2, .ref b)] := hl
        refine lv_iload hx hb d_T_compareTexts_35 (lv_at hl 0 rfl) ?_
        refine lv_if_eq hx hb d_T_compareTexts_37 (tgt := 43) rfl (fun g14 => ?_) (fun g14 => ?_)
        · have g14 := g14
          refine lv_iinc (k := 1) (v := nI (k + 1)) hx hb d_T_compareTexts_43 hl rfl (iincN (k) 1 1 (by decide)) (by decide) rfl (fun ls hl => ?_)
          have hl : lv_has ls 5 [(3, .int (nI (k + 1))), (4, .int (ctC NL S S2 k)), (0, .ref (ta 0)), (1, .ref a), (2, .ref b)] := hl
          refine lv_goto hx hb d_T_compareTexts_46 (tgt := 2) rfl ?_
          exact ih2 _ (by omega) (k + 1) (by omega) (by rw [← i2, frst_f (n := t.nc - k) (by omega) (show ctB NL S S2 k = false by unfold ctB; rw [decide_eq_true g14]; rfl), show t.nc - k - 1 = t.nc - (k + 1) by omega]) rfl H _ ls hP hD hS (lv_sub hl [0, 2, 3, 4] rfl)
        · have g14 := g14
          refine lv_iload hx hb d_T_compareTexts_40 (lv_at hl 0 rfl) ?_
          exact rfI hx hb hr hlk hS () (by rw [cmT_s (k := k) (by rw [← i2, frst_t (n := t.nc - k) (by omega) (show ctB NL S S2 k = true by unfold ctB; rw [decide_eq_false g14]; rfl)])]) hP hD (Nat.le_of_ble_eq_true rfl) (Nat.le_of_ble_eq_true rfl) d_T_compareTexts_42
  exact L2 _ 0 (Nat.zero_le _) rfl rfl H _ ls hP hD hS (lv_sub hl [0, 1, 2, 3] rfl)
