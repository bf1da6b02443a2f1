def rsAll (dA : Nat → ClassId) (ws : va_W) (rs : Nat → Option Nat) : Prop := ∀ q a : Nat, rs q = some a → ∃ S, isSer dA ws a S ∧ serOk S
theorem rsAll_up {dA : Nat → ClassId} {ws : va_W} {rs : Nat → Option Nat} {k : Nat} {o : Option Nat} (h : rsAll dA ws rs) (ho : ∀ a, o = some a → ∃ S, isSer dA ws a S ∧ serOk S) : rsAll dA ws (va_up rs k o) := by
  intro q a hq
  unfold va_up at hq
  split at hq
  · exact ho a hq
  · exact h q a hq
/-- a row put to another place -/
def TB.mv (t : TB) (r q : Nat) : TB := TB.s_ce (TB.s_th (TB.s_rs t (va_up t.rs q (t.rs r))) (va_up t.th q (t.th r))) (va_cpy t.ce t.ce (r * t.wi) (q * t.wi) t.wi)
def deG (t : TB) : Nat → Nat × TB
  | 0 => (0, t)
  | r + 1 => if (deG t r).2.th r = 0 then deG t r else ((deG t r).1 + 1, (deG t r).2.mv r (deG t r).1)
def TB.de (t : TB) : TB := TB.s_rc (deG t t.rc).2 (deG t t.rc).1
theorem deG_k (t : TB) : ∀ r, (deG t r).2.wi = t.wi ∧ (deG t r).2.rc = t.rc ∧ (deG t r).2.cN = t.cN ∧ (deG t r).1 ≤ r ∧ (deG t r).2.nm = t.nm ∧ (deG t r).2.nc = t.nc ∧ (deG t r).2.cA = t.cA
  | 0 => ⟨rfl, rfl, rfl, Nat.le_refl _, rfl, rfl, rfl⟩
  | r + 1 => by
    obtain ⟨h1, h2, h3, h4, h5, h6, h7⟩ := deG_k t r
    unfold deG
    split
    · exact ⟨h1, h2, h3, by omega, h5, h6, h7⟩
    · exact ⟨h1, h2, h3, by show (deG t r).1 + 1 ≤ r + 1; omega, h5, h6, h7⟩
theorem deG_rs {dA : Nat → ClassId} {ws : va_W} {t : TB} (h : rsAll dA ws t.rs) : ∀ r, rsAll dA ws (deG t r).2.rs
  | 0 => h
  | r + 1 => by
    have ih := deG_rs h r
    unfold deG
    split
    · exact ih
    · exact rsAll_up ih (fun a ha => ih r a ha)
def nsB (NL NR : Nat → List Int32) (k : Nat) : Bool := sameW (NL k) (NR k)
def namB (NL NR : Nat → List Int32) (n m : Nat) : Bool := decide (n = m) && allB n (nsB NL NR)
section QM
variable {p : Program} {l : Launch} {e : Env} {R : Room} {s : State} {m : MethodId} {args : Array Value} {below : List Frame} {meth : Method} {c : Code} {H : Heap} {locs : List Loc} {cells slots : Nat} {Q : State → Prop}
variable {D : va_G} {dA : Nat → ClassId} {A : Nat → Prop} {cc : ByteArray} {pc : Nat} {ls : Array Slot} {rest st0 : List Value} {ws : va_W} {a : Nat}
theorem nqldN (hx : p.tables.exec = Jvm.exec) (hb : c.code = cc) (hK : va_K D vwCl (arT dA) s) (hP : va_P D vwCl ws H) (q0 t0 : Nat) {cA : ClassId} {C : String} {n : Nat} {f : Nat → Option Nat} (ha : ws[q0]? = some (a, .inl (cA, n, .inr (.inr (.inr (.inr f)))))) (ht : (arT dA)[t0]? = some (cA, .object C)) (j : Nat) (hj : j < n) (hn : n < 2 ^ 31) (hf : f j = none) (hdg : decode cc pc = .ok (.aaload, 1))
    (kk : W p l e R s m args below meth c H locs cells slots Q (F0 m (pc + 1) ls (.null :: rest))) : W p l e R s m args below meth c H locs cells slots Q (F0 m pc ls (.int (nI j) :: .ref a :: rest)) :=
  va_aldq hx hb hK hP q0 t0 ha ht (vp_in_nI hj hn) hdg (by rw [nI_clamp (by omega), hf]; exact kk)
end QM
/-- the place of a row in a sorted table, by halves -/
def bsG (lt : Nat → Bool) (rc : Nat) : Nat → Nat → Nat → Nat
  | 0, _, b => b
  | f + 1, st, b => bsG lt rc f (st / 2) (if b + st ≤ rc ∧ lt (b + st - 1) = true then b + st else b)
theorem mul_le_of {a b c n : Nat} (h : a < b) (hb : b * c ≤ n) : a * c + c ≤ n := by
  have := Nat.mul_le_mul_right c (show a + 1 ≤ b from h)
  rw [Nat.succ_mul] at this
  omega
theorem opt_c (o : Option Nat) : o = none ∨ ∃ a, o = some a := by
  cases o with
  | none => exact Or.inl rfl
  | some a => exact Or.inr ⟨a, rfl⟩
theorem jl_in {g a n w : Nat} (h : g ≤ a) (hw : w < n) : a * n + w < g * n ∨ g * n + w ≤ a * n + w := by
  have := Nat.mul_le_mul_right n h
  omega
theorem d_T_moveRow_0 : decode prog_11_method_15_code 0 = .ok (.aload_n 0, 1) := by decide +kernel
theorem d_T_moveRow_1 : decode prog_11_method_15_code 1 = .ok (.getfield 19, 3) := by decide +kernel
theorem d_T_moveRow_4 : decode prog_11_method_15_code 4 = .ok (.iload_n 2, 1) := by decide +kernel
theorem d_T_moveRow_5 : decode prog_11_method_15_code 5 = .ok (.aload_n 0, 1) := by decide +kernel
theorem d_T_moveRow_6 : decode prog_11_method_15_code 6 = .ok (.getfield 19, 3) := by decide +kernel
theorem d_T_moveRow_9 : decode prog_11_method_15_code 9 = .ok (.iload_n 1, 1) := by decide +kernel
theorem d_T_moveRow_10 : decode prog_11_method_15_code 10 = .ok (.aaload, 1) := by decide +kernel
theorem d_T_moveRow_11 : decode prog_11_method_15_code 11 = .ok (.aastore, 1) := by decide +kernel
theorem d_T_moveRow_12 : decode prog_11_method_15_code 12 = .ok (.aload_n 0, 1) := by decide +kernel
theorem d_T_moveRow_13 : decode prog_11_method_15_code 13 = .ok (.getfield 23, 3) := by decide +kernel
theorem d_T_moveRow_16 : decode prog_11_method_15_code 16 = .ok (.iload_n 2, 1) := by decide +kernel
theorem d_T_moveRow_17 : decode prog_11_method_15_code 17 = .ok (.aload_n 0, 1) := by decide +kernel
theorem d_T_moveRow_18 : decode prog_11_method_15_code 18 = .ok (.getfield 23, 3) := by decide +kernel
theorem d_T_moveRow_21 : decode prog_11_method_15_code 21 = .ok (.iload_n 1, 1) := by decide +kernel
theorem d_T_moveRow_22 : decode prog_11_method_15_code 22 = .ok (.laload, 1) := by decide +kernel
theorem d_T_moveRow_23 : decode prog_11_method_15_code 23 = .ok (.lastore, 1) := by decide +kernel
theorem d_T_moveRow_24 : decode prog_11_method_15_code 24 = .ok (.aload_n 0, 1) := by decide +kernel
theorem d_T_moveRow_25 : decode prog_11_method_15_code 25 = .ok (.getfield 27, 3) := by decide +kernel
theorem d_T_moveRow_28 : decode prog_11_method_15_code 28 = .ok (.iload_n 1, 1) := by decide +kernel
theorem d_T_moveRow_29 : decode prog_11_method_15_code 29 = .ok (.aload_n 0, 1) := by decide +kernel
theorem d_T_moveRow_30 : decode prog_11_method_15_code 30 = .ok (.getfield 30, 3) := by decide +kernel
theorem d_T_moveRow_33 : decode prog_11_method_15_code 33 = .ok (.imul, 1) := by decide +kernel
theorem d_T_moveRow_34 : decode prog_11_method_15_code 34 = .ok (.aload_n 0, 1) := by decide +kernel
theorem d_T_moveRow_35 : decode prog_11_method_15_code 35 = .ok (.getfield 27, 3) := by decide +kernel
theorem d_T_moveRow_38 : decode prog_11_method_15_code 38 = .ok (.iload_n 2, 1) := by decide +kernel
theorem d_T_moveRow_39 : decode prog_11_method_15_code 39 = .ok (.aload_n 0, 1) := by decide +kernel
theorem d_T_moveRow_40 : decode prog_11_method_15_code 40 = .ok (.getfield 30, 3) := by decide +kernel
theorem d_T_moveRow_43 : decode prog_11_method_15_code 43 = .ok (.imul, 1) := by decide +kernel
theorem d_T_moveRow_44 : decode prog_11_method_15_code 44 = .ok (.aload_n 0, 1) := by decide +kernel
theorem d_T_moveRow_45 : decode prog_11_method_15_code 45 = .ok (.getfield 30, 3) := by decide +kernel
theorem d_T_moveRow_48 : decode prog_11_method_15_code 48 = .ok (.invokestatic 83, 3) := by decide +kernel
theorem d_T_moveRow_51 : decode prog_11_method_15_code 51 = .ok (.return_, 1) := by decide +kernel
theorem w1407 : Cond.methodLink "SeriesVault$Table" 83 ⟨"java/lang/System", "arraycopy", "(Ljava/lang/Object;ILjava/lang/Object;II)V"⟩ ∈ aW := aw_of (tb_8 (List.mem_of_getElem? (i := 36) rfl)) rfl
set_option maxHeartbeats 4000000 in
set_option maxRecDepth 100000 in
theorem v_TmoveRow (l : Launch) (D : va_G) (dA : Nat → ClassId) (sz : Nat) (ws : va_W) (ta : Nat → Nat) (t : TB) (r : Nat) (q : Nat) (hN : t.cN ≤ 65536) (hrs : rsAll dA ws t.rs) (h1 : r < 256) (h2 : q < 256) (h3 : r * t.wi + t.wi ≤ t.cN) (h4 : q * t.wi + t.wi ≤ t.cN) : Met l ⟨"SeriesVault$Table", "moveRow", "(II)V"⟩ [Cond.code ⟨"SeriesVault$Table", "moveRow", "(II)V"⟩ prog_11_method_15_code 3 none] { frames := 1, cells := 0, slots := 0, locals := 40 } (pC D dA [.ref (ta 0), .int (nI r), .int (nI q)] (TbW dA ta t ++ (ws)) sz) (va_Qv (fun (u9 : Unit) => True) (fun (u9 : Unit) t9 => bW D (va_A (TbW dA ta t ++ (ws)) sz) (TbW dA ta (TB.s_ce (TB.s_th (TB.s_rs t (va_up t.rs q (t.rs r))) (va_up t.th q (t.th r))) (va_cpy t.ce t.ce (r * t.wi) (q * t.wi) t.wi)) ++ (ws)) t9) (va_A (TbW dA ta t ++ (ws)) sz)) 0 0 (va_A (TbW dA ta t ++ (ws)) sz) := by
  refine mkC (y := ⟨"SeriesVault$Table", "moveRow", "(II)V"⟩) (cc := prog_11_method_15_code) (maxL := 3) (av := [.ref (ta 0), .int (nI r), .int (nI q)]) (ws := TbW dA ta t ++ (ws)) (sz := sz) (Qc := fun A => va_Qv (fun (u9 : Unit) => True) (fun (u9 : Unit) t9 => bW D A (TbW dA ta (TB.s_ce (TB.s_th (TB.s_rs t (va_up t.rs q (t.rs r))) (va_up t.th q (t.th r))) (va_cpy t.ce t.ce (r * t.wi) (q * t.wi) t.wi)) ++ (ws)) t9) A) (by decide) (Nat.le_of_ble_eq_true rfl) ?_
  intro A p e s m below meth c ls hsz hB
  obtain ⟨hx, hb, hr, hml, hown, hin, hlk, hE, hK, hP, hD, hS, hA, hN, hl⟩ := hB
  have hown : s.vm.findClass "SeriesVault$Table" = some m.cls := hown
  have hl : lv_has ls 3 [(0, .ref (ta 0)), (1, .int (nI r)), (2, .int (nI q))] := hl
  obtain ⟨H, hH⟩ : ∃ z, z = s.heap := ⟨_, rfl⟩
  have hP : va_P D vwCl (TbW dA ta t ++ (ws)) H := by rw [hH]; exact hP
  have hS : va_S A s.heap H [] := by rw [hH]; exact hS
  rw [← hH]
  rcases opt_c (t.rs r) with hr1 | ⟨a1, hr1⟩
  · refine lv_aload_n hx hb d_T_moveRow_0 rfl (lv_at hl 0 rfl) ?_
    refine gF (v := .ref (ta 2)) hx hb hown hE hK hP 0 rfl rfl layT 4 (by decide) w787 rfl d_T_moveRow_1 ?_
    refine lv_iload_n hx hb d_T_moveRow_4 rfl (lv_at hl 2 rfl) ?_
    refine lv_aload_n hx hb d_T_moveRow_5 rfl (lv_at hl 0 rfl) ?_
    refine gF (v := .ref (ta 2)) hx hb hown hE hK hP 0 rfl rfl layT 4 (by decide) w787 rfl d_T_moveRow_6 ?_
    refine lv_iload_n hx hb d_T_moveRow_9 rfl (lv_at hl 1 rfl) ?_
    refine nqldN (f := t.rs) (n := 256) hx hb hK hP (2) 5 rfl rfl (r) (by omega) (by decide) hr1 d_T_moveRow_10 ?_
    refine nqstN (f := t.rs) (n := 256) hx hb hK hP hD hS (2) 5 rfl rfl (q) (by omega) (by decide) d_T_moveRow_11 (fun H locs hP hD hS => ?_)
    have hP : va_P D vwCl (TbW dA ta (TB.s_rs t (va_up t.rs q none)) ++ (ws)) H := hP
    have hD : va_D A (TbW dA ta (TB.s_rs t (va_up t.rs q none)) ++ (ws)) := hD
    refine lv_aload_n hx hb d_T_moveRow_12 rfl (lv_at hl 0 rfl) ?_
    refine gF (v := .ref (ta 3)) hx hb hown hE hK hP 0 rfl rfl layT 5 (by decide) w788 rfl d_T_moveRow_13 ?_
    refine lv_iload_n hx hb d_T_moveRow_16 rfl (lv_at hl 2 rfl) ?_
    refine lv_aload_n hx hb d_T_moveRow_17 rfl (lv_at hl 0 rfl) ?_
    refine gF (v := .ref (ta 3)) hx hb hown hE hK hP 0 rfl rfl layT 5 (by decide) w788 rfl d_T_moveRow_18 ?_
    refine lv_iload_n hx hb d_T_moveRow_21 rfl (lv_at hl 1 rfl) ?_
    refine nlld (f := t.th) (n := 256) hx hb hK hP (3) 2 rfl rfl (r) (by omega) (by decide) d_T_moveRow_22 ?_
    refine nlst (n := 256) hx hb hK hP hD hS (3) 2 rfl rfl (q) (by omega) (by decide) d_T_moveRow_23 (fun H locs hP hD hS => ?_)
    have hP : va_P D vwCl (TbW dA ta (TB.s_th (TB.s_rs t (va_up t.rs q none)) (va_up t.th q (t.th r))) ++ (ws)) H := hP
    have hD : va_D A (TbW dA ta (TB.s_th (TB.s_rs t (va_up t.rs q none)) (va_up t.th q (t.th r))) ++ (ws)) := hD
    refine lv_aload_n hx hb d_T_moveRow_24 rfl (lv_at hl 0 rfl) ?_
    refine gF (v := .ref t.cA) hx hb hown hE hK hP 0 rfl rfl layT 6 (by decide) w789 rfl d_T_moveRow_25 ?_
    refine lv_iload_n hx hb d_T_moveRow_28 rfl (lv_at hl 1 rfl) ?_
    refine lv_aload_n hx hb d_T_moveRow_29 rfl (lv_at hl 0 rfl) ?_
    refine gF (v := .int (nI t.wi)) hx hb hown hE hK hP 0 rfl rfl layT 2 (by decide) w1367 rfl d_T_moveRow_30 ?_
    refine lv_imul hx hb d_T_moveRow_33 (tpi (y := nI (r * t.wi)) (pk_mul (r) (t.wi)) ?_)
    refine lv_aload_n hx hb d_T_moveRow_34 rfl (lv_at hl 0 rfl) ?_
    refine gF (v := .ref t.cA) hx hb hown hE hK hP 0 rfl rfl layT 6 (by decide) w789 rfl d_T_moveRow_35 ?_
    refine lv_iload_n hx hb d_T_moveRow_38 rfl (lv_at hl 2 rfl) ?_
    refine lv_aload_n hx hb d_T_moveRow_39 rfl (lv_at hl 0 rfl) ?_
    refine gF (v := .int (nI t.wi)) hx hb hown hE hK hP 0 rfl rfl layT 2 (by decide) w1367 rfl d_T_moveRow_40 ?_
    refine lv_imul hx hb d_T_moveRow_43 (tpi (y := nI (q * t.wi)) (pk_mul (q) (t.wi)) ?_)
    refine lv_aload_n hx hb d_T_moveRow_44 rfl (lv_at hl 0 rfl) ?_
    refine gF (v := .int (nI t.wi)) hx hb hown hE hK hP 0 rfl rfl layT 2 (by decide) w1367 rfl d_T_moveRow_45 ?_
    refine ncpyl (f := t.ce) (g := t.ce) (n0 := t.cN) (n1 := t.cN) hx hb (hml.trans hl.1.symm) hown (hE.t w1407 rfl) (hE.t w720 rfl) (hE.t w721 rfl) (hE.t w722 rfl) hK hP hD hS (4) (4) 2 rfl rfl rfl rfl (r * t.wi) (q * t.wi) (t.wi) (by omega) (by omega) (by omega) (by omega) (by omega) (fun _ _ => rfl) (Nat.le_of_ble_eq_true rfl) (Nat.le_of_ble_eq_true rfl) d_T_moveRow_48 (fun H locs hP hD hS => ?_)
    have hP : va_P D vwCl (TbW dA ta (TB.s_ce (TB.s_th (TB.s_rs t (va_up t.rs q none)) (va_up t.th q (t.th r))) (va_cpy t.ce t.ce (r * t.wi) (q * t.wi) t.wi)) ++ (ws)) H := hP
    have hD : va_D A (TbW dA ta (TB.s_ce (TB.s_th (TB.s_rs t (va_up t.rs q none)) (va_up t.th q (t.th r))) (va_cpy t.ce t.ce (r * t.wi) (q * t.wi) t.wi)) ++ (ws)) := hD
    have e9 : (TB.s_ce (TB.s_th (TB.s_rs t (va_up t.rs q none)) (va_up t.th q (t.th r))) (va_cpy t.ce t.ce (r * t.wi) (q * t.wi) t.wi) : TB) = TB.s_ce (TB.s_th (TB.s_rs t (va_up t.rs q (t.rs r))) (va_up t.th q (t.th r))) (va_cpy t.ce t.ce (r * t.wi) (q * t.wi) t.wi) := by rw [show (va_up t.rs q (t.rs r)) = (va_up t.rs q none) from by (rw [hr1])] <;> rfl
    rw [e9] at hP hD
    exact rfV hx hb hr hlk hS () trivial hP hD (Nat.le_of_ble_eq_true rfl) (Nat.le_of_ble_eq_true rfl) d_T_moveRow_51
  · refine lv_aload_n hx hb d_T_moveRow_0 rfl (lv_at hl 0 rfl) ?_
    obtain ⟨S1, hs1, ho1⟩ := hrs r a1 hr1
    obtain ⟨na1, va1, no1, tx1, fn1, fv1, j1, -⟩ := hs1
    refine gF (v := .ref (ta 2)) hx hb hown hE hK hP 0 rfl rfl layT 4 (by decide) w787 rfl d_T_moveRow_1 ?_
    refine lv_iload_n hx hb d_T_moveRow_4 rfl (lv_at hl 2 rfl) ?_
    refine lv_aload_n hx hb d_T_moveRow_5 rfl (lv_at hl 0 rfl) ?_
    refine gF (v := .ref (ta 2)) hx hb hown hE hK hP 0 rfl rfl layT 4 (by decide) w787 rfl d_T_moveRow_6 ?_
    refine lv_iload_n hx hb d_T_moveRow_9 rfl (lv_at hl 1 rfl) ?_
    refine nqld (f := t.rs) (n := 256) hx hb hK hP (2) 5 rfl rfl (r) (by omega) (by decide) hr1 d_T_moveRow_10 ?_
    obtain ⟨qp1, ep2⟩ := List.getElem?_of_mem (show ((a1, .inr (11, [.ref na1, .ref va1, .ref no1, .ref tx1])) : Nat × va_E) ∈ TbW dA ta t ++ (ws) from (List.mem_append_right _ j1))
    refine nqst (r := ("SeriesVault$Series", TS, 4)) (f := t.rs) (n := 256) hx hb hK hP hD hS (2) 5 (qp1) 11 rfl rfl ep2 rfl (q) (by omega) (by decide) d_T_moveRow_11 (fun H locs hP hD hS => ?_)
    have hP : va_P D vwCl (TbW dA ta (TB.s_rs t (va_up t.rs q (some a1))) ++ (ws)) H := hP
    have hD : va_D A (TbW dA ta (TB.s_rs t (va_up t.rs q (some a1))) ++ (ws)) := hD
    refine lv_aload_n hx hb d_T_moveRow_12 rfl (lv_at hl 0 rfl) ?_
    refine gF (v := .ref (ta 3)) hx hb hown hE hK hP 0 rfl rfl layT 5 (by decide) w788 rfl d_T_moveRow_13 ?_
    refine lv_iload_n hx hb d_T_moveRow_16 rfl (lv_at hl 2 rfl) ?_
    refine lv_aload_n hx hb d_T_moveRow_17 rfl (lv_at hl 0 rfl) ?_
    refine gF (v := .ref (ta 3)) hx hb hown hE hK hP 0 rfl rfl layT 5 (by decide) w788 rfl d_T_moveRow_18 ?_
    refine lv_iload_n hx hb d_T_moveRow_21 rfl (lv_at hl 1 rfl) ?_
    refine nlld (f := t.th) (n := 256) hx hb hK hP (3) 2 rfl rfl (r) (by omega) (by decide) d_T_moveRow_22 ?_
    refine nlst (n := 256) hx hb hK hP hD hS (3) 2 rfl rfl (q) (by omega) (by decide) d_T_moveRow_23 (fun H locs hP hD hS => ?_)
    have hP : va_P D vwCl (TbW dA ta (TB.s_th (TB.s_rs t (va_up t.rs q (some a1))) (va_up t.th q (t.th r))) ++ (ws)) H := hP
    have hD : va_D A (TbW dA ta (TB.s_th (TB.s_rs t (va_up t.rs q (some a1))) (va_up t.th q (t.th r))) ++ (ws)) := hD
    refine lv_aload_n hx hb d_T_moveRow_24 rfl (lv_at hl 0 rfl) ?_
    refine gF (v := .ref t.cA) hx hb hown hE hK hP 0 rfl rfl layT 6 (by decide) w789 rfl d_T_moveRow_25 ?_
    refine lv_iload_n hx hb d_T_moveRow_28 rfl (lv_at hl 1 rfl) ?_
    refine lv_aload_n hx hb d_T_moveRow_29 rfl (lv_at hl 0 rfl) ?_
    refine gF (v := .int (nI t.wi)) hx hb hown hE hK hP 0 rfl rfl layT 2 (by decide) w1367 rfl d_T_moveRow_30 ?_
    refine lv_imul hx hb d_T_moveRow_33 (tpi (y := nI (r * t.wi)) (pk_mul (r) (t.wi)) ?_)
    refine lv_aload_n hx hb d_T_moveRow_34 rfl (lv_at hl 0 rfl) ?_
    refine gF (v := .ref t.cA) hx hb hown hE hK hP 0 rfl rfl layT 6 (by decide) w789 rfl d_T_moveRow_35 ?_
    refine lv_iload_n hx hb d_T_moveRow_38 rfl (lv_at hl 2 rfl) ?_
    refine lv_aload_n hx hb d_T_moveRow_39 rfl (lv_at hl 0 rfl) ?_
    refine gF (v := .int (nI t.wi)) hx hb hown hE hK hP 0 rfl rfl layT 2 (by decide) w1367 rfl d_T_moveRow_40 ?_
    refine lv_imul hx hb d_T_moveRow_43 (tpi (y := nI (q * t.wi)) (pk_mul (q) (t.wi)) ?_)
    refine lv_aload_n hx hb d_T_moveRow_44 rfl (lv_at hl 0 rfl) ?_
    refine gF (v := .int (nI t.wi)) hx hb hown hE hK hP 0 rfl rfl layT 2 (by decide) w1367 rfl d_T_moveRow_45 ?_
    refine ncpyl (f := t.ce) (g := t.ce) (n0 := t.cN) (n1 := t.cN) hx hb (hml.trans hl.1.symm) hown (hE.t w1407 rfl) (hE.t w720 rfl) (hE.t w721 rfl) (hE.t w722 rfl) hK hP hD hS (4) (4) 2 rfl rfl rfl rfl (r * t.wi) (q * t.wi) (t.wi) (by omega) (by omega) (by omega) (by omega) (by omega) (fun _ _ => rfl) (Nat.le_of_ble_eq_true rfl) (Nat.le_of_ble_eq_true rfl) d_T_moveRow_48 (fun H locs hP hD hS => ?_)
    have hP : va_P D vwCl (TbW dA ta (TB.s_ce (TB.s_th (TB.s_rs t (va_up t.rs q (some a1))) (va_up t.th q (t.th r))) (va_cpy t.ce t.ce (r * t.wi) (q * t.wi) t.wi)) ++ (ws)) H := hP
    have hD : va_D A (TbW dA ta (TB.s_ce (TB.s_th (TB.s_rs t (va_up t.rs q (some a1))) (va_up t.th q (t.th r))) (va_cpy t.ce t.ce (r * t.wi) (q * t.wi) t.wi)) ++ (ws)) := hD
    have e9 : (TB.s_ce (TB.s_th (TB.s_rs t (va_up t.rs q (some a1))) (va_up t.th q (t.th r))) (va_cpy t.ce t.ce (r * t.wi) (q * t.wi) t.wi) : TB) = TB.s_ce (TB.s_th (TB.s_rs t (va_up t.rs q (t.rs r))) (va_up t.th q (t.th r))) (va_cpy t.ce t.ce (r * t.wi) (q * t.wi) t.wi) := by rw [show (va_up t.rs q (t.rs r)) = (va_up t.rs q (some a1)) from by (rw [hr1])] <;> rfl
    rw [e9] at hP hD
    exact rfV hx hb hr hlk hS () trivial hP hD (Nat.le_of_ble_eq_true rfl) (Nat.le_of_ble_eq_true rfl) d_T_moveRow_51
theorem d_T_dropEmptyRows_0 : decode prog_11_method_14_code 0 = .ok (.iconst 0, 1) := by decide +kernel
theorem d_T_dropEmptyRows_1 : decode prog_11_method_14_code 1 = .ok (.istore_n 1, 1) := by decide +kernel
theorem d_T_dropEmptyRows_2 : decode prog_11_method_14_code 2 = .ok (.iconst 0, 1) := by decide +kernel
theorem d_T_dropEmptyRows_3 : decode prog_11_method_14_code 3 = .ok (.istore_n 2, 1) := by decide +kernel
theorem d_T_dropEmptyRows_4 : decode prog_11_method_14_code 4 = .ok (.iload_n 2, 1) := by decide +kernel
theorem d_T_dropEmptyRows_5 : decode prog_11_method_14_code 5 = .ok (.aload_n 0, 1) := by decide +kernel
theorem d_T_dropEmptyRows_6 : decode prog_11_method_14_code 6 = .ok (.getfield 37, 3) := by decide +kernel
theorem d_T_dropEmptyRows_9 : decode prog_11_method_14_code 9 = .ok (.if_icmp .ge 29, 3) := by decide +kernel
theorem d_T_dropEmptyRows_38 : decode prog_11_method_14_code 38 = .ok (.aload_n 0, 1) := by decide +kernel
theorem d_T_dropEmptyRows_39 : decode prog_11_method_14_code 39 = .ok (.iload_n 1, 1) := by decide +kernel
theorem d_T_dropEmptyRows_40 : decode prog_11_method_14_code 40 = .ok (.putfield 37, 3) := by decide +kernel
theorem d_T_dropEmptyRows_43 : decode prog_11_method_14_code 43 = .ok (.return_, 1) := by decide +kernel
theorem d_T_dropEmptyRows_12 : decode prog_11_method_14_code 12 = .ok (.aload_n 0, 1) := by decide +kernel
theorem d_T_dropEmptyRows_13 : decode prog_11_method_14_code 13 = .ok (.getfield 23, 3) := by decide +kernel
theorem d_T_dropEmptyRows_16 : decode prog_11_method_14_code 16 = .ok (.iload_n 2, 1) := by decide +kernel
theorem d_T_dropEmptyRows_17 : decode prog_11_method_14_code 17 = .ok (.laload, 1) := by decide +kernel
theorem d_T_dropEmptyRows_18 : decode prog_11_method_14_code 18 = .ok (.lconst 0, 1) := by decide +kernel
theorem d_T_dropEmptyRows_19 : decode prog_11_method_14_code 19 = .ok (.lcmp, 1) := by decide +kernel
theorem d_T_dropEmptyRows_20 : decode prog_11_method_14_code 20 = .ok (.ifCond .eq 12, 3) := by decide +kernel
theorem d_T_dropEmptyRows_32 : decode prog_11_method_14_code 32 = .ok (.iinc 2 1, 3) := by decide +kernel
theorem d_T_dropEmptyRows_35 : decode prog_11_method_14_code 35 = .ok (.goto (-31), 3) := by decide +kernel
theorem d_T_dropEmptyRows_23 : decode prog_11_method_14_code 23 = .ok (.aload_n 0, 1) := by decide +kernel
theorem d_T_dropEmptyRows_24 : decode prog_11_method_14_code 24 = .ok (.iload_n 2, 1) := by decide +kernel
theorem d_T_dropEmptyRows_25 : decode prog_11_method_14_code 25 = .ok (.iload_n 1, 1) := by decide +kernel
theorem d_T_dropEmptyRows_26 : decode prog_11_method_14_code 26 = .ok (.invokevirtual 79, 3) := by decide +kernel
theorem d_T_dropEmptyRows_29 : decode prog_11_method_14_code 29 = .ok (.iinc 1 1, 3) := by decide +kernel
theorem w1408 : Cond.methodLink "SeriesVault$Table" 79 ⟨"SeriesVault$Table", "moveRow", "(II)V"⟩ ∈ aW := aw_of (tb_8 (List.mem_of_getElem? (i := 32) rfl)) rfl
theorem w1409 : Cond.code ⟨"SeriesVault$Table", "moveRow", "(II)V"⟩ prog_11_method_15_code 3 none ∈ aW := aw_of (tb_8 (List.mem_of_getElem? (i := 35) rfl)) rfl
theorem w1410 : Cond.instanceMethod ⟨"SeriesVault$Table", "moveRow", "(II)V"⟩ ∈ aW := aw_of (tb_8 (List.mem_of_getElem? (i := 34) rfl)) rfl
theorem w1411 : Cond.selects "SeriesVault$Table" ⟨"SeriesVault$Table", "moveRow", "(II)V"⟩ ⟨"SeriesVault$Table", "moveRow", "(II)V"⟩ ∈ aW := aw_pr (List.mem_map.mpr ⟨_, pv_4 (List.mem_of_getElem? (i := 13) rfl), rfl⟩) rfl
set_option maxHeartbeats 4000000 in
set_option maxRecDepth 100000 in
theorem v_TdropEmptyRows (l : Launch) (D : va_G) (dA : Nat → ClassId) (sz : Nat) (ws : va_W) (ta : Nat → Nat) (t : TB) (hN : t.cN ≤ 65536) (hrs : rsAll dA ws t.rs) (h1 : t.rc * t.wi ≤ t.cN) (h2 : t.rc ≤ 256) : Met l ⟨"SeriesVault$Table", "dropEmptyRows", "()V"⟩ [Cond.code ⟨"SeriesVault$Table", "dropEmptyRows", "()V"⟩ prog_11_method_14_code 3 none] { frames := 2, cells := 0, slots := 0, locals := 62 } (pC D dA [.ref (ta 0)] (TbW dA ta t ++ (ws)) sz) (va_Qv (fun (u9 : TB) => u9 = t.de) (fun (u9 : TB) t9 => bW D (va_A (TbW dA ta t ++ (ws)) sz) (TbW dA ta u9 ++ (ws)) t9) (va_A (TbW dA ta t ++ (ws)) sz)) 0 0 (va_A (TbW dA ta t ++ (ws)) sz) := by
  refine mkC (y := ⟨"SeriesVault$Table", "dropEmptyRows", "()V"⟩) (cc := prog_11_method_14_code) (maxL := 3) (av := [.ref (ta 0)]) (ws := TbW dA ta t ++ (ws)) (sz := sz) (Qc := fun A => va_Qv (fun (u9 : TB) => u9 = t.de) (fun (u9 : TB) t9 => bW D A (TbW dA ta u9 ++ (ws)) t9) A) (by decide) (Nat.le_of_ble_eq_true rfl) ?_
  intro A p e s m below meth c ls hsz hB
  obtain ⟨hx, hb, hr, hml, hown, hin, hlk, hE, hK, hP, hD, hS, hA, hN, hl⟩ := hB
  have hown : s.vm.findClass "SeriesVault$Table" = some m.cls := hown
  have hl : lv_has ls 3 [(0, .ref (ta 0))] := hl
  obtain ⟨H, hH⟩ : ∃ z, z = s.heap := ⟨_, rfl⟩
  have hP : va_P D vwCl (TbW dA ta t ++ (ws)) H := by rw [hH]; exact hP
  have hS : va_S A s.heap H [] := by rw [hH]; exact hS
  rw [← hH]
  refine lv_iconst (v := 0) hx hb d_T_dropEmptyRows_0 (by decide) ?_
  refine lv_istore_n hx hb d_T_dropEmptyRows_1 rfl hl (by decide) rfl (fun ls hl => ?_)
  have hl : lv_has ls 3 [(1, .int 0), (0, .ref (ta 0))] := hl
  refine lv_iconst (v := 0) hx hb d_T_dropEmptyRows_2 (by decide) ?_
  refine lv_istore_n hx hb d_T_dropEmptyRows_3 rfl hl (by decide) rfl (fun ls hl => ?_)
  have hl : lv_has ls 3 [(2, .int 0), (1, .int 0), (0, .ref (ta 0))] := hl
  have L4 : ∀ (k9 : Nat) (i : Nat) (n : Nat) (z : TB) (i1 : i ≤ t.rc) (ez : (n, z) = deG t i) (hk9 : t.rc - i = k9), ∀ (H : Heap) (locs : List Loc) (ls : Array Slot) (hP : va_P D vwCl (TbW dA ta z ++ (ws)) H) (hD : va_D A (TbW dA ta z ++ (ws))) (hS : va_S A s.heap H locs) (hl : lv_has ls 3 [(2, .int (nI i)), (1, .int (nI n)), (0, .ref (ta 0))]), W p l e ({ frames := 2, cells := 0, slots := 0, locals := 62 } : Room) s m ([.ref (ta 0)] : List Value).toArray below meth c H locs 0 0 (MQ below (va_Qv (fun (u9 : TB) => u9 = t.de) (fun (u9 : TB) t9 => bW D A (TbW dA ta u9 ++ (ws)) t9) A) ([.ref (ta 0)] : List Value).toArray s 0 0 A) (F0 m 4 ls []) := by
    intro k9
    induction k9 using Nat.strongRecOn with
    | ind k9 ih4 =>
      intro i n z i1 ez hk9 H locs ls hP hD hS hl
      have dk := deG_k t i
      rw [← ez] at dk
      obtain ⟨k1, k2, k3, k4, k5, k6, k7⟩ := dk
      have k1 : z.wi = t.wi := k1
      have k2 : z.rc = t.rc := k2
      have k3 : z.cN = t.cN := k3
      have k4 : n ≤ i := k4
      have zr : rsAll dA ws z.rs := by have := deG_rs hrs i; rw [← ez] at this; exact this
      refine lv_iload_n hx hb d_T_dropEmptyRows_4 rfl (lv_at hl 0 rfl) ?_
      refine lv_aload_n hx hb d_T_dropEmptyRows_5 rfl (lv_at hl 2 rfl) ?_
      refine gF (v := .int (nI z.rc)) hx hb hown hE hK hP 0 rfl rfl layT 3 (by decide) w1368 rfl d_T_dropEmptyRows_6 ?_
      refine lv_icmp_ge hx hb d_T_dropEmptyRows_9 (tgt := 38) rfl (fun g1 => ?_) (fun g1 => ?_)
      · have g1 := (nI_leI (a := z.rc) (b := i) (by omega) (by omega)).mp g1
        refine lv_aload_n hx hb d_T_dropEmptyRows_38 rfl (lv_at hl 2 rfl) ?_
        refine lv_iload_n hx hb d_T_dropEmptyRows_39 rfl (lv_at hl 1 rfl) ?_
        refine pF (v := .int (nI n)) hx hb hown hE hK hP hD hS 0 rfl rfl layT tyT tokT nmT 3 (by decide) w1368 rfl rfl rfl (Nat.le_of_ble_eq_true rfl) d_T_dropEmptyRows_40 (fun H locs hP hD hS => ?_)
        have hP : va_P D vwCl (TbW dA ta (TB.s_rc z n) ++ (ws)) H := hP
        have hD : va_D A (TbW dA ta (TB.s_rc z n) ++ (ws)) := hD
        exact rfV hx hb hr hlk hS (TB.s_rc z n) (by unfold TB.de; rw [← show i = t.rc by omega, ← ez]) hP hD (Nat.le_of_ble_eq_true rfl) (Nat.le_of_ble_eq_true rfl) d_T_dropEmptyRows_43
      · have g1 := mt (nI_leI (a := z.rc) (b := i) (by omega) (by omega)).mpr g1
        refine lv_aload_n hx hb d_T_dropEmptyRows_12 rfl (lv_at hl 2 rfl) ?_
        refine gF (v := .ref (ta 3)) hx hb hown hE hK hP 0 rfl rfl layT 5 (by decide) w788 rfl d_T_dropEmptyRows_13 ?_
        refine lv_iload_n hx hb d_T_dropEmptyRows_16 rfl (lv_at hl 0 rfl) ?_
        refine nlld (f := z.th) (n := 256) hx hb hK hP (3) 2 rfl rfl (i) (by omega) (by decide) d_T_dropEmptyRows_17 ?_
        refine lv_lconst (v := 0) hx hb d_T_dropEmptyRows_18 (by decide) ?_
        refine W.lcmp hx hb d_T_dropEmptyRows_19 ?_
        refine lv_if_eq hx hb d_T_dropEmptyRows_20 (tgt := 32) rfl (fun g2 => ?_) (fun g2 => ?_)
        · have g2 := (lg_cmp_eq _ _).mp g2
          refine lv_iinc (k := 0) (v := nI (i + 1)) hx hb d_T_dropEmptyRows_32 hl rfl (iincN (i) 1 1 (by decide)) (by decide) rfl (fun ls hl => ?_)
          have hl : lv_has ls 3 [(2, .int (nI (i + 1))), (1, .int (nI n)), (0, .ref (ta 0))] := hl
          refine lv_goto hx hb d_T_dropEmptyRows_35 (tgt := 4) rfl ?_
          exact ih4 _ (by omega) (i + 1) n z (by omega) (by show _ = if (deG t i).2.th i = 0 then _ else _; rw [← ez]; exact (if_pos g2).symm) rfl H _ ls hP hD hS (lv_sub hl [0, 1, 2] rfl)
        · have g2 := mt (lg_cmp_eq _ _).mpr g2
          refine lv_aload_n hx hb d_T_dropEmptyRows_23 rfl (lv_at hl 2 rfl) ?_
          refine lv_iload_n hx hb d_T_dropEmptyRows_24 rfl (lv_at hl 0 rfl) ?_
          refine lv_iload_n hx hb d_T_dropEmptyRows_25 rfl (lv_at hl 1 rfl) ?_
          refine jkV (wr := []) (rnV (As := [.int (nI i), .int (nI n)]) (rest := []) hx hb hml hown hE hK (hN _ _ hS) hP hD (v_TmoveRow l D dA H.size ws ta z i n (show z.cN ≤ 65536 from by omega) zr (show i < 256 from by omega) (show n < 256 from by omega) (by rw [k1, k3]; exact mul_le_of (show i < t.rc by omega) h1) (by rw [k1, k3]; exact mul_le_of (show n < t.rc by omega) h1)) (q0 := 0) rfl rfl w1409 w1408 w1410 w1411 w807 rfl rfl ⟨⟨by decide, by decide⟩, rfl⟩ ⟨(Nat.le_of_ble_eq_true rfl), (Nat.le_of_ble_eq_true rfl)⟩ rfl hl.1 rfl (Nat.le_of_ble_eq_true rfl) d_T_dropEmptyRows_26 ⟨(Nat.le_of_ble_eq_true rfl), (Nat.le_of_ble_eq_true rfl)⟩) hP hD hS hA (fun u4 H locs hp9 hP hD hS => ?_)
          have hP : va_P D vwCl (TbW dA ta (TB.s_ce (TB.s_th (TB.s_rs z (va_up z.rs n (z.rs i))) (va_up z.th n (z.th i))) (va_cpy z.ce z.ce (i * z.wi) (n * z.wi) z.wi)) ++ (ws)) H := hP
          have hD : va_D A (TbW dA ta (TB.s_ce (TB.s_th (TB.s_rs z (va_up z.rs n (z.rs i))) (va_up z.th n (z.th i))) (va_cpy z.ce z.ce (i * z.wi) (n * z.wi) z.wi)) ++ (ws)) := hD
          refine lv_iinc (k := 1) (v := nI (n + 1)) hx hb d_T_dropEmptyRows_29 hl rfl (iincN (n) 1 1 (by decide)) (by decide) rfl (fun ls hl => ?_)
          have hl : lv_has ls 3 [(1, .int (nI (n + 1))), (2, .int (nI i)), (0, .ref (ta 0))] := hl
          refine lv_iinc (k := 1) (v := nI (i + 1)) hx hb d_T_dropEmptyRows_32 hl rfl (iincN (i) 1 1 (by decide)) (by decide) rfl (fun ls hl => ?_)
          have hl : lv_has ls 3 [(2, .int (nI (i + 1))), (1, .int (nI (n + 1))), (0, .ref (ta 0))] := hl
          refine lv_goto hx hb d_T_dropEmptyRows_35 (tgt := 4) rfl ?_
          exact ih4 _ (by omega) (i + 1) (n + 1) (TB.s_ce (TB.s_th (TB.s_rs z (va_up z.rs n (z.rs i))) (va_up z.th n (z.th i))) (va_cpy z.ce z.ce (i * z.wi) (n * z.wi) z.wi)) (by omega) (by show _ = if (deG t i).2.th i = 0 then _ else _; rw [← ez]; exact (if_neg g2).symm) rfl H _ ls hP hD hS (lv_sub hl [0, 1, 2] rfl)
  exact L4 _ 0 0 t (Nat.zero_le _) rfl rfl H _ ls hP hD hS (lv_sub hl [0, 1, 2] rfl)
theorem d_T_hasNamesOf_0 : decode prog_11_method_16_code 0 = .ok (.aload_n 0, 1) := by decide +kernel
theorem d_T_hasNamesOf_1 : decode prog_11_method_16_code 1 = .ok (.getfield 34, 3) := by decide +kernel
theorem d_T_hasNamesOf_4 : decode prog_11_method_16_code 4 = .ok (.aload_n 1, 1) := by decide +kernel
theorem d_T_hasNamesOf_5 : decode prog_11_method_16_code 5 = .ok (.getfield 34, 3) := by decide +kernel
theorem d_T_hasNamesOf_8 : decode prog_11_method_16_code 8 = .ok (.if_icmp .eq 5, 3) := by decide +kernel
theorem d_T_hasNamesOf_13 : decode prog_11_method_16_code 13 = .ok (.iconst 0, 1) := by decide +kernel
theorem d_T_hasNamesOf_14 : decode prog_11_method_16_code 14 = .ok (.istore_n 2, 1) := by decide +kernel
theorem d_T_hasNamesOf_15 : decode prog_11_method_16_code 15 = .ok (.iload_n 2, 1) := by decide +kernel
theorem d_T_hasNamesOf_16 : decode prog_11_method_16_code 16 = .ok (.aload_n 0, 1) := by decide +kernel
theorem d_T_hasNamesOf_17 : decode prog_11_method_16_code 17 = .ok (.getfield 34, 3) := by decide +kernel
theorem d_T_hasNamesOf_20 : decode prog_11_method_16_code 20 = .ok (.if_icmp .ge 29, 3) := by decide +kernel
theorem d_T_hasNamesOf_49 : decode prog_11_method_16_code 49 = .ok (.iconst 1, 1) := by decide +kernel
theorem d_T_hasNamesOf_50 : decode prog_11_method_16_code 50 = .ok (.ireturn, 1) := by decide +kernel
theorem d_T_hasNamesOf_23 : decode prog_11_method_16_code 23 = .ok (.aload_n 0, 1) := by decide +kernel
theorem d_T_hasNamesOf_24 : decode prog_11_method_16_code 24 = .ok (.getfield 11, 3) := by decide +kernel
theorem d_T_hasNamesOf_27 : decode prog_11_method_16_code 27 = .ok (.iload_n 2, 1) := by decide +kernel
theorem d_T_hasNamesOf_28 : decode prog_11_method_16_code 28 = .ok (.aaload, 1) := by decide +kernel
theorem d_T_hasNamesOf_29 : decode prog_11_method_16_code 29 = .ok (.aload_n 1, 1) := by decide +kernel
theorem d_T_hasNamesOf_30 : decode prog_11_method_16_code 30 = .ok (.getfield 11, 3) := by decide +kernel
theorem d_T_hasNamesOf_33 : decode prog_11_method_16_code 33 = .ok (.iload_n 2, 1) := by decide +kernel
theorem d_T_hasNamesOf_34 : decode prog_11_method_16_code 34 = .ok (.aaload, 1) := by decide +kernel
theorem d_T_hasNamesOf_35 : decode prog_11_method_16_code 35 = .ok (.invokevirtual 89, 3) := by decide +kernel
theorem d_T_hasNamesOf_38 : decode prog_11_method_16_code 38 = .ok (.ifCond .ne 5, 3) := by decide +kernel
theorem d_T_hasNamesOf_43 : decode prog_11_method_16_code 43 = .ok (.iinc 2 1, 3) := by decide +kernel
theorem d_T_hasNamesOf_46 : decode prog_11_method_16_code 46 = .ok (.goto (-31), 3) := by decide +kernel
theorem d_T_hasNamesOf_41 : decode prog_11_method_16_code 41 = .ok (.iconst 0, 1) := by decide +kernel
theorem d_T_hasNamesOf_42 : decode prog_11_method_16_code 42 = .ok (.ireturn, 1) := by decide +kernel
theorem d_T_hasNamesOf_11 : decode prog_11_method_16_code 11 = .ok (.iconst 0, 1) := by decide +kernel
theorem d_T_hasNamesOf_12 : decode prog_11_method_16_code 12 = .ok (.ireturn, 1) := by decide +kernel
theorem w1412 : Cond.methodLink "SeriesVault$Table" 89 ⟨"SeriesVault$Word", "same", "(LSeriesVault$Word;)Z"⟩ ∈ aW := aw_of (tb_8 (List.mem_of_getElem? (i := 49) rfl)) rfl
set_option maxHeartbeats 4000000 in
set_option maxRecDepth 100000 in
theorem v_ThasNamesOf (l : Launch) (D : va_G) (dA : Nat → ClassId) (sz : Nat) (ws : va_W) (ta : Nat → Nat) (t : TB) (tb : Nat → Nat) (u : TB) (NL : Nat → List Int32) (NR : Nat → List Int32) (hna : nmOk dA ws t.nm t.nc NL) (hnb : nmOk dA ws u.nm u.nc NR) (h1 : t.nc ≤ 6) (h2 : u.nc ≤ 6) : Met l ⟨"SeriesVault$Table", "hasNamesOf", "(LSeriesVault$Table;)Z"⟩ [Cond.code ⟨"SeriesVault$Table", "hasNamesOf", "(LSeriesVault$Table;)Z"⟩ prog_11_method_16_code 3 (some FieldType.boolean)] { frames := 2, cells := 0, slots := 0, locals := 22 } (pC D dA [.ref (ta 0), .ref (tb 0)] (TbW dA ta t ++ (TbW dA tb u ++ (ws))) sz) (va_Qi (fun (r9 : Int32) (u9 : Unit) => r9 = bI (namB NL NR t.nc u.nc)) (fun (u9 : Unit) t9 => bW D (va_A (TbW dA ta t ++ (TbW dA tb u ++ (ws))) sz) (TbW dA ta t ++ (TbW dA tb u ++ (ws))) t9) (va_A (TbW dA ta t ++ (TbW dA tb u ++ (ws))) sz)) 0 0 (va_A (TbW dA ta t ++ (TbW dA tb u ++ (ws))) sz) := by
  refine mkC (y := ⟨"SeriesVault$Table", "hasNamesOf", "(LSeriesVault$Table;)Z"⟩) (cc := prog_11_method_16_code) (maxL := 3) (av := [.ref (ta 0), .ref (tb 0)]) (ws := TbW dA ta t ++ (TbW dA tb u ++ (ws))) (sz := sz) (Qc := fun A => va_Qi (fun (r9 : Int32) (u9 : Unit) => r9 = bI (namB NL NR t.nc u.nc)) (fun (u9 : Unit) t9 => bW D A (TbW dA ta t ++ (TbW dA tb u ++ (ws))) t9) A) (by decide) (Nat.le_of_ble_eq_true rfl) ?_
  intro A p e s m below meth c ls hsz hB
  obtain ⟨hx, hb, hr, hml, hown, hin, hlk, hE, hK, hP, hD, hS, hA, hN, hl⟩ := hB
  have hown : s.vm.findClass "SeriesVault$Table" = some m.cls := hown
  have hl : lv_has ls 3 [(0, .ref (ta 0)), (1, .ref (tb 0))] := hl
  obtain ⟨H, hH⟩ : ∃ z, z = s.heap := ⟨_, rfl⟩
  have hP : va_P D vwCl (TbW dA ta t ++ (TbW dA tb u ++ (ws))) H := by rw [hH]; exact hP
  have hS : va_S A s.heap H [] := by rw [hH]; exact hS
  rw [← hH]
  refine lv_aload_n hx hb d_T_hasNamesOf_0 rfl (lv_at hl 0 rfl) ?_
  refine gF (v := .int (nI t.nc)) hx hb hown hE hK hP 0 rfl rfl layT 1 (by decide) w1376 rfl d_T_hasNamesOf_1 ?_
  refine lv_aload_n hx hb d_T_hasNamesOf_4 rfl (lv_at hl 1 rfl) ?_
  refine gF (v := .int (nI u.nc)) hx hb hown hE hK hP 5 rfl rfl layT 1 (by decide) w1376 rfl d_T_hasNamesOf_5 ?_
  refine lv_icmp_eq hx hb d_T_hasNamesOf_8 (tgt := 13) rfl (fun g1 => ?_) (fun g1 => ?_)
  · have g1 := (nI_eq (a := t.nc) (b := u.nc) (by omega) (by omega)).mp g1
    refine lv_iconst (v := 0) hx hb d_T_hasNamesOf_13 (by decide) ?_
    refine lv_istore_n hx hb d_T_hasNamesOf_14 rfl hl (by decide) rfl (fun ls hl => ?_)
    have hl : lv_has ls 3 [(2, .int 0), (0, .ref (ta 0)), (1, .ref (tb 0))] := hl
    have L15 : ∀ (k9 : Nat) (i : Nat) (i1 : i ≤ t.nc) (i2 : allB i (nsB NL NR) = true) (hk9 : t.nc - i = k9), ∀ (H : Heap) (locs : List Loc) (ls : Array Slot) (hP : va_P D vwCl (TbW dA ta t ++ (TbW dA tb u ++ (ws))) H) (hD : va_D A (TbW dA ta t ++ (TbW dA tb u ++ (ws)))) (hS : va_S A s.heap H locs) (hl : lv_has ls 3 [(2, .int (nI i)), (0, .ref (ta 0)), (1, .ref (tb 0))]), W p l e ({ frames := 2, cells := 0, slots := 0, locals := 22 } : Room) s m ([.ref (ta 0), .ref (tb 0)] : List Value).toArray below meth c H locs 0 0 (MQ below (va_Qi (fun (r9 : Int32) (u9 : Unit) => r9 = bI (namB NL NR t.nc u.nc)) (fun (u9 : Unit) t9 => bW D A (TbW dA ta t ++ (TbW dA tb u ++ (ws))) t9) A) ([.ref (ta 0), .ref (tb 0)] : List Value).toArray s 0 0 A) (F0 m 15 ls []) := by
      intro k9
      induction k9 using Nat.strongRecOn with
      | ind k9 ih15 =>
        intro i i1 i2 hk9 H locs ls hP hD hS hl
        refine lv_iload_n hx hb d_T_hasNamesOf_15 rfl (lv_at hl 0 rfl) ?_
        refine lv_aload_n hx hb d_T_hasNamesOf_16 rfl (lv_at hl 1 rfl) ?_
        refine gF (v := .int (nI t.nc)) hx hb hown hE hK hP 0 rfl rfl layT 1 (by decide) w1376 rfl d_T_hasNamesOf_17 ?_
        refine lv_icmp_ge hx hb d_T_hasNamesOf_20 (tgt := 49) rfl (fun g2 => ?_) (fun g2 => ?_)
        · have g2 := (nI_leI (a := t.nc) (b := i) (by omega) (by omega)).mp g2
          refine lv_iconst (v := 1) hx hb d_T_hasNamesOf_49 (by decide) ?_
          exact rfZ hx hb hr (bI_nar true) hlk hS () (by unfold namB; rw [decide_eq_true g1, Bool.true_and, ← show i = t.nc by omega, i2]; rfl) hP hD (Nat.le_of_ble_eq_true rfl) (Nat.le_of_ble_eq_true rfl) d_T_hasNamesOf_50
        · have g2 := mt (nI_leI (a := t.nc) (b := i) (by omega) (by omega)).mpr g2
          obtain ⟨p1, ep1, wp1, lp1⟩ := hna i (by omega)
          obtain ⟨p2, ep2, wp2, lp2⟩ := hnb i (by omega)
          have wpc := wp1
          obtain ⟨bp1, fp1, kp1, -⟩ := wpc
          refine lv_aload_n hx hb d_T_hasNamesOf_23 rfl (lv_at hl 1 rfl) ?_
          refine gF (v := .ref (ta 1)) hx hb hown hE hK hP 0 rfl rfl layT 0 (by decide) w784 rfl d_T_hasNamesOf_24 ?_
          refine lv_iload_n hx hb d_T_hasNamesOf_27 rfl (lv_at hl 0 rfl) ?_
          refine nqld (f := t.nm) (n := 6) hx hb hK hP (1) 6 rfl rfl (i) (by omega) (by decide) ep1 d_T_hasNamesOf_28 ?_
          refine lv_aload_n hx hb d_T_hasNamesOf_29 rfl (lv_at hl 2 rfl) ?_
          refine gF (v := .ref (tb 1)) hx hb hown hE hK hP 5 rfl rfl layT 0 (by decide) w784 rfl d_T_hasNamesOf_30 ?_
          refine lv_iload_n hx hb d_T_hasNamesOf_33 rfl (lv_at hl 0 rfl) ?_
          refine nqld (f := u.nm) (n := 6) hx hb hK hP (6) 6 rfl rfl (i) (by omega) (by decide) ep2 d_T_hasNamesOf_34 ?_
          obtain ⟨qp3, ep4⟩ := List.getElem?_of_mem (show ((p1, .inr (10, [.ref bp1])) : Nat × va_E) ∈ TbW dA ta t ++ (TbW dA tb u ++ (ws)) from (List.mem_append_right _ (List.mem_append_right _ kp1)))
          refine jkI (wr := []) (rnV (As := [.ref p2]) (rest := []) hx hb hml hown hE hK (hN _ _ hS) hP hD (v_Wsame l D dA H.size (TbW dA ta t ++ (TbW dA tb u ++ (ws))) p1 (NL i) p2 (NR i) (isWo_m (fun _ hm => (List.mem_append_right _ (List.mem_append_right _ hm))) wp1) lp1 (isWo_m (fun _ hm => (List.mem_append_right _ (List.mem_append_right _ hm))) wp2) lp2) (q0 := qp3) ep4 rfl w1282 w1412 w1283 w1284 w1281 rfl rfl ⟨⟨by decide, by decide⟩, rfl⟩ ⟨(Nat.le_of_ble_eq_true rfl), (Nat.le_of_ble_eq_true rfl)⟩ rfl hl.1 rfl (Nat.le_of_ble_eq_true rfl) d_T_hasNamesOf_35 ⟨(Nat.le_of_ble_eq_true rfl), (Nat.le_of_ble_eq_true rfl)⟩) hP hD hS hA (fun r5 u6 H locs hp9 hP hD hS => ?_)
          have hP : va_P D vwCl (TbW dA ta t ++ (TbW dA tb u ++ (ws))) H := hP
          have hD : va_D A (TbW dA ta t ++ (TbW dA tb u ++ (ws))) := hD
          replace hp9 : bI (sameW (NL i) (NR i)) = r5 := Eq.symm hp9
          subst hp9
          refine lv_if_ne hx hb d_T_hasNamesOf_38 (tgt := 43) rfl (fun g7 => ?_) (fun g7 => ?_)
          · have g7 := bI_n0 g7
            refine lv_iinc (k := 0) (v := nI (i + 1)) hx hb d_T_hasNamesOf_43 hl rfl (iincN (i) 1 1 (by decide)) (by decide) rfl (fun ls hl => ?_)
            have hl : lv_has ls 3 [(2, .int (nI (i + 1))), (0, .ref (ta 0)), (1, .ref (tb 0))] := hl
            refine lv_goto hx hb d_T_hasNamesOf_46 (tgt := 15) rfl ?_
            exact ih15 _ (by omega) (i + 1) (by omega) (by rw [allB_s, i2, Bool.true_and]; exact g7) rfl H _ ls hP hD hS (lv_sub hl [0, 1, 2] rfl)
          · have g7 := bI_0 g7
            refine lv_iconst (v := 0) hx hb d_T_hasNamesOf_41 (by decide) ?_
            exact rfZ hx hb hr (bI_nar false) hlk hS () (by unfold namB; rw [allB_1 (f := nsB NL NR) (k := i) (n := t.nc) (by omega) g7, Bool.and_false]; rfl) hP hD (Nat.le_of_ble_eq_true rfl) (Nat.le_of_ble_eq_true rfl) d_T_hasNamesOf_42
    exact L15 _ 0 (Nat.zero_le _) rfl rfl H _ ls hP hD hS (lv_sub hl [0, 1, 2] rfl)
  · have g1 := mt (nI_eq (a := t.nc) (b := u.nc) (by omega) (by omega)).mpr g1
    refine lv_iconst (v := 0) hx hb d_T_hasNamesOf_11 (by decide) ?_
    exact rfZ hx hb hr (bI_nar false) hlk hS () (by unfold namB; rw [decide_eq_false g1]; rfl) hP hD (Nat.le_of_ble_eq_true rfl) (Nat.le_of_ble_eq_true rfl) d_T_hasNamesOf_12
theorem d_T_joined_0 : decode prog_11_method_20_code 0 = .ok (.iload_n 0, 1) := by decide +kernel
theorem d_T_joined_1 : decode prog_11_method_20_code 1 = .ok (.tableswitch 65 42 47 #[47, 39, 65, 43, 65, 51], 39) := by decide +kernel
theorem d_T_joined_40 : decode prog_11_method_20_code 40 = .ok (.lload_n 1, 1) := by decide +kernel
theorem d_T_joined_41 : decode prog_11_method_20_code 41 = .ok (.lload_n 3, 1) := by decide +kernel
theorem d_T_joined_42 : decode prog_11_method_20_code 42 = .ok (.ladd, 1) := by decide +kernel
theorem d_T_joined_43 : decode prog_11_method_20_code 43 = .ok (.lreturn, 1) := by decide +kernel
set_option maxHeartbeats 4000000 in
set_option maxRecDepth 100000 in
theorem v_Tjoined_43 (l : Launch) (D : va_G) (dA : Nat → ClassId) (sz : Nat) (u : Int64) (v : Int64) : Met l ⟨"SeriesVault$Table", "joined", "(IJJ)J"⟩ [Cond.code ⟨"SeriesVault$Table", "joined", "(IJJ)J"⟩ prog_11_method_20_code 5 (some FieldType.long)] { frames := 1, cells := 0, slots := 0, locals := 0 } (pC D dA [.int 43, .long u, .long v] ([]) sz) (va_Ql (fun (r9 : Int64) (u9 : Unit) => r9 = jnVl 43 u v) (fun (u9 : Unit) t9 => bW D (va_A ([]) sz) ([]) t9) (va_A ([]) sz)) 0 0 (va_A ([]) sz) := by
  refine mkC (y := ⟨"SeriesVault$Table", "joined", "(IJJ)J"⟩) (cc := prog_11_method_20_code) (maxL := 5) (av := [.int 43, .long u, .long v]) (ws := []) (sz := sz) (Qc := fun A => va_Ql (fun (r9 : Int64) (u9 : Unit) => r9 = jnVl 43 u v) (fun (u9 : Unit) t9 => bW D A ([]) t9) A) (by decide) (Nat.le_of_ble_eq_true rfl) ?_
  intro A p e s m below meth c ls hsz hB
  obtain ⟨hx, hb, hr, hml, hown, hin, hlk, hE, hK, hP, hD, hS, hA, hN, hl⟩ := hB
  have hown : s.vm.findClass "SeriesVault$Table" = some m.cls := hown
  have hl : lv_has ls 5 [(0, .int 43), (1, .long u), (3, .long v)] := hl
  obtain ⟨H, hH⟩ : ∃ z, z = s.heap := ⟨_, rfl⟩
  have hP : va_P D vwCl ([]) H := by rw [hH]; exact hP
  have hS : va_S A s.heap H [] := by rw [hH]; exact hS
  rw [← hH]
  refine lv_iload_n hx hb d_T_joined_0 rfl (lv_at hl 0 rfl) ?_
  refine lv_tableIn (x := 43) (off := 39) (tgt := 40) hx hb d_T_joined_1 (by decide) (by decide) (by decide) rfl ?_
  refine lv_lload_n hx hb d_T_joined_40 rfl (lv_at hl 1 rfl) ?_
  refine lv_lload_n hx hb d_T_joined_41 rfl (lv_at hl 2 rfl) ?_
  refine lv_ladd hx hb d_T_joined_42 ?_
  exact rfL hx hb hr hlk hS () (by simp [jnVl]) hP hD (Nat.le_of_ble_eq_true rfl) (Nat.le_of_ble_eq_true rfl) d_T_joined_43
theorem d_T_joined_44 : decode prog_11_method_20_code 44 = .ok (.lload_n 1, 1) := by decide +kernel
theorem d_T_joined_45 : decode prog_11_method_20_code 45 = .ok (.lload_n 3, 1) := by decide +kernel
theorem d_T_joined_46 : decode prog_11_method_20_code 46 = .ok (.lsub, 1) := by decide +kernel
theorem d_T_joined_47 : decode prog_11_method_20_code 47 = .ok (.lreturn, 1) := by decide +kernel
set_option maxHeartbeats 4000000 in
set_option maxRecDepth 100000 in
theorem v_Tjoined_45 (l : Launch) (D : va_G) (dA : Nat → ClassId) (sz : Nat) (u : Int64) (v : Int64) : Met l ⟨"SeriesVault$Table", "joined", "(IJJ)J"⟩ [Cond.code ⟨"SeriesVault$Table", "joined", "(IJJ)J"⟩ prog_11_method_20_code 5 (some FieldType.long)] { frames := 1, cells := 0, slots := 0, locals := 0 } (pC D dA [.int 45, .long u, .long v] ([]) sz) (va_Ql (fun (r9 : Int64) (u9 : Unit) => r9 = jnVl 45 u v) (fun (u9 : Unit) t9 => bW D (va_A ([]) sz) ([]) t9) (va_A ([]) sz)) 0 0 (va_A ([]) sz) := by
  refine mkC (y := ⟨"SeriesVault$Table", "joined", "(IJJ)J"⟩) (cc := prog_11_method_20_code) (maxL := 5) (av := [.int 45, .long u, .long v]) (ws := []) (sz := sz) (Qc := fun A => va_Ql (fun (r9 : Int64) (u9 : Unit) => r9 = jnVl 45 u v) (fun (u9 : Unit) t9 => bW D A ([]) t9) A) (by decide) (Nat.le_of_ble_eq_true rfl) ?_
  intro A p e s m below meth c ls hsz hB
  obtain ⟨hx, hb, hr, hml, hown, hin, hlk, hE, hK, hP, hD, hS, hA, hN, hl⟩ := hB
  have hown : s.vm.findClass "SeriesVault$Table" = some m.cls := hown
  have hl : lv_has ls 5 [(0, .int 45), (1, .long u), (3, .long v)] := hl
  obtain ⟨H, hH⟩ : ∃ z, z = s.heap := ⟨_, rfl⟩
  have hP : va_P D vwCl ([]) H := by rw [hH]; exact hP
  have hS : va_S A s.heap H [] := by rw [hH]; exact hS
  rw [← hH]
  refine lv_iload_n hx hb d_T_joined_0 rfl (lv_at hl 0 rfl) ?_
  refine lv_tableIn (x := 45) (off := 43) (tgt := 44) hx hb d_T_joined_1 (by decide) (by decide) (by decide) rfl ?_
  refine lv_lload_n hx hb d_T_joined_44 rfl (lv_at hl 1 rfl) ?_
  refine lv_lload_n hx hb d_T_joined_45 rfl (lv_at hl 2 rfl) ?_
  refine lv_lsub hx hb d_T_joined_46 ?_
  exact rfL hx hb hr hlk hS () (by simp [jnVl]) hP hD (Nat.le_of_ble_eq_true rfl) (Nat.le_of_ble_eq_true rfl) d_T_joined_47
theorem d_T_joined_48 : decode prog_11_method_20_code 48 = .ok (.lload_n 1, 1) := by decide +kernel
theorem d_T_joined_49 : decode prog_11_method_20_code 49 = .ok (.lload_n 3, 1) := by decide +kernel
theorem d_T_joined_50 : decode prog_11_method_20_code 50 = .ok (.lmul, 1) := by decide +kernel
theorem d_T_joined_51 : decode prog_11_method_20_code 51 = .ok (.lreturn, 1) := by decide +kernel
set_option maxHeartbeats 4000000 in
set_option maxRecDepth 100000 in
theorem v_Tjoined_42 (l : Launch) (D : va_G) (dA : Nat → ClassId) (sz : Nat) (u : Int64) (v : Int64) : Met l ⟨"SeriesVault$Table", "joined", "(IJJ)J"⟩ [Cond.code ⟨"SeriesVault$Table", "joined", "(IJJ)J"⟩ prog_11_method_20_code 5 (some FieldType.long)] { frames := 1, cells := 0, slots := 0, locals := 0 } (pC D dA [.int 42, .long u, .long v] ([]) sz) (va_Ql (fun (r9 : Int64) (u9 : Unit) => r9 = jnVl 42 u v) (fun (u9 : Unit) t9 => bW D (va_A ([]) sz) ([]) t9) (va_A ([]) sz)) 0 0 (va_A ([]) sz) := by
  refine mkC (y := ⟨"SeriesVault$Table", "joined", "(IJJ)J"⟩) (cc := prog_11_method_20_code) (maxL := 5) (av := [.int 42, .long u, .long v]) (ws := []) (sz := sz) (Qc := fun A => va_Ql (fun (r9 : Int64) (u9 : Unit) => r9 = jnVl 42 u v) (fun (u9 : Unit) t9 => bW D A ([]) t9) A) (by decide) (Nat.le_of_ble_eq_true rfl) ?_
  intro A p e s m below meth c ls hsz hB
  obtain ⟨hx, hb, hr, hml, hown, hin, hlk, hE, hK, hP, hD, hS, hA, hN, hl⟩ := hB
  have hown : s.vm.findClass "SeriesVault$Table" = some m.cls := hown
  have hl : lv_has ls 5 [(0, .int 42), (1, .long u), (3, .long v)] := hl
  obtain ⟨H, hH⟩ : ∃ z, z = s.heap := ⟨_, rfl⟩
  have hP : va_P D vwCl ([]) H := by rw [hH]; exact hP
  have hS : va_S A s.heap H [] := by rw [hH]; exact hS
  rw [← hH]
  refine lv_iload_n hx hb d_T_joined_0 rfl (lv_at hl 0 rfl) ?_
  refine lv_tableIn (x := 42) (off := 47) (tgt := 48) hx hb d_T_joined_1 (by decide) (by decide) (by decide) rfl ?_
  refine lv_lload_n hx hb d_T_joined_48 rfl (lv_at hl 1 rfl) ?_
  refine lv_lload_n hx hb d_T_joined_49 rfl (lv_at hl 2 rfl) ?_
  refine lv_lmul hx hb d_T_joined_50 ?_
  exact rfL hx hb hr hlk hS () (by simp [jnVl]) hP hD (Nat.le_of_ble_eq_true rfl) (Nat.le_of_ble_eq_true rfl) d_T_joined_51
theorem d_T_joined_52 : decode prog_11_method_20_code 52 = .ok (.lload_n 3, 1) := by decide +kernel
theorem d_T_joined_53 : decode prog_11_method_20_code 53 = .ok (.lconst 0, 1) := by decide +kernel
theorem d_T_joined_54 : decode prog_11_method_20_code 54 = .ok (.lcmp, 1) := by decide +kernel
theorem d_T_joined_55 : decode prog_11_method_20_code 55 = .ok (.ifCond .ne 7, 3) := by decide +kernel
theorem d_T_joined_62 : decode prog_11_method_20_code 62 = .ok (.lload_n 1, 1) := by decide +kernel
theorem d_T_joined_63 : decode prog_11_method_20_code 63 = .ok (.lload_n 3, 1) := by decide +kernel
theorem d_T_joined_64 : decode prog_11_method_20_code 64 = .ok (.ldiv, 1) := by decide +kernel
theorem d_T_joined_65 : decode prog_11_method_20_code 65 = .ok (.lreturn, 1) := by decide +kernel
theorem d_T_joined_58 : decode prog_11_method_20_code 58 = .ok (.lconst 0, 1) := by decide +kernel
theorem d_T_joined_59 : decode prog_11_method_20_code 59 = .ok (.goto 6, 3) := by decide +kernel
set_option maxHeartbeats 4000000 in
set_option maxRecDepth 100000 in
theorem v_Tjoined_47 (l : Launch) (D : va_G) (dA : Nat → ClassId) (sz : Nat) (u : Int64) (v : Int64) : Met l ⟨"SeriesVault$Table", "joined", "(IJJ)J"⟩ [Cond.code ⟨"SeriesVault$Table", "joined", "(IJJ)J"⟩ prog_11_method_20_code 5 (some FieldType.long)] { frames := 1, cells := 0, slots := 0, locals := 0 } (pC D dA [.int 47, .long u, .long v] ([]) sz) (va_Ql (fun (r9 : Int64) (u9 : Unit) => r9 = jnVl 47 u v) (fun (u9 : Unit) t9 => bW D (va_A ([]) sz) ([]) t9) (va_A ([]) sz)) 0 0 (va_A ([]) sz) := by
  refine mkC (y := ⟨"SeriesVault$Table", "joined", "(IJJ)J"⟩) (cc := prog_11_method_20_code) (maxL := 5) (av := [.int 47, .long u, .long v]) (ws := []) (sz := sz) (Qc := fun A => va_Ql (fun (r9 : Int64) (u9 : Unit) => r9 = jnVl 47 u v) (fun (u9 : Unit) t9 => bW D A ([]) t9) A) (by decide) (Nat.le_of_ble_eq_true rfl) ?_
  intro A p e s m below meth c ls hsz hB
  obtain ⟨hx, hb, hr, hml, hown, hin, hlk, hE, hK, hP, hD, hS, hA, hN, hl⟩ := hB
  have hown : s.vm.findClass "SeriesVault$Table" = some m.cls := hown
  have hl : lv_has ls 5 [(0, .int 47), (1, .long u), (3, .long v)] := hl
  obtain ⟨H, hH⟩ : ∃ z, z = s.heap := ⟨_, rfl⟩
  have hP : va_P D vwCl ([]) H := by rw [hH]; exact hP
  have hS : va_S A s.heap H [] := by rw [hH]; exact hS
  rw [← hH]
  refine lv_iload_n hx hb d_T_joined_0 rfl (lv_at hl 0 rfl) ?_
  refine lv_tableIn (x := 47) (off := 51) (tgt := 52) hx hb d_T_joined_1 (by decide) (by decide) (by decide) rfl ?_
  refine lv_lload_n hx hb d_T_joined_52 rfl (lv_at hl 2 rfl) ?_
  refine lv_lconst (v := 0) hx hb d_T_joined_53 (by decide) ?_
  refine W.lcmp hx hb d_T_joined_54 ?_
  refine lv_if_ne hx hb d_T_joined_55 (tgt := 62) rfl (fun g1 => ?_) (fun g1 => ?_)
  · have g1 := mt (lg_cmp_eq _ _).mpr g1
    refine lv_lload_n hx hb d_T_joined_62 rfl (lv_at hl 1 rfl) ?_
    refine lv_lload_n hx hb d_T_joined_63 rfl (lv_at hl 2 rfl) ?_
    refine lv_ldiv hx hb d_T_joined_64 (by assumption) ?_
    exact rfL hx hb hr hlk hS () (by simp [jnVl, *]) hP hD (Nat.le_of_ble_eq_true rfl) (Nat.le_of_ble_eq_true rfl) d_T_joined_65
  · have g1 := (lg_cmp_eq _ _).mp g1
    refine lv_lconst (v := 0) hx hb d_T_joined_58 (by decide) ?_
    refine lv_goto hx hb d_T_joined_59 (tgt := 65) rfl ?_
    exact rfL hx hb hr hlk hS () (by simp [jnVl, *]) hP hD (Nat.le_of_ble_eq_true rfl) (Nat.le_of_ble_eq_true rfl) d_T_joined_65
theorem d_T_joined_66 : decode prog_11_method_20_code 66 = .ok (.lload_n 3, 1) := by decide +kernel
theorem d_T_joined_67 : decode prog_11_method_20_code 67 = .ok (.lconst 0, 1) := by decide +kernel
theorem d_T_joined_68 : decode prog_11_method_20_code 68 = .ok (.lcmp, 1) := by decide +kernel
theorem d_T_joined_69 : decode prog_11_method_20_code 69 = .ok (.ifCond .ne 7, 3) := by decide +kernel
theorem d_T_joined_76 : decode prog_11_method_20_code 76 = .ok (.lload_n 1, 1) := by decide +kernel
theorem d_T_joined_77 : decode prog_11_method_20_code 77 = .ok (.lload_n 3, 1) := by decide +kernel
theorem d_T_joined_78 : decode prog_11_method_20_code 78 = .ok (.lrem, 1) := by decide +kernel
theorem d_T_joined_79 : decode prog_11_method_20_code 79 = .ok (.lreturn, 1) := by decide +kernel
theorem d_T_joined_72 : decode prog_11_method_20_code 72 = .ok (.lconst 0, 1) := by decide +kernel
theorem d_T_joined_73 : decode prog_11_method_20_code 73 = .ok (.goto 6, 3) := by decide +kernel
set_option maxHeartbeats 4000000 in
set_option maxRecDepth 100000 in
theorem v_Tjoined_37 (l : Launch) (D : va_G) (dA : Nat → ClassId) (sz : Nat) (u : Int64) (v : Int64) : Met l ⟨"SeriesVault$Table", "joined", "(IJJ)J"⟩ [Cond.code ⟨"SeriesVault$Table", "joined", "(IJJ)J"⟩ prog_11_method_20_code 5 (some FieldType.long)] { frames := 1, cells := 0, slots := 0, locals := 0 } (pC D dA [.int 37, .long u, .long v] ([]) sz) (va_Ql (fun (r9 : Int64) (u9 : Unit) => r9 = jnVl 37 u v) (fun (u9 : Unit) t9 => bW D (va_A ([]) sz) ([]) t9) (va_A ([]) sz)) 0 0 (va_A ([]) sz) := by
  refine mkC (y := ⟨"SeriesVault$Table", "joined", "(IJJ)J"⟩) (cc := prog_11_method_20_code) (maxL := 5) (av := [.int 37, .long u, .long v]) (ws := []) (sz := sz) (Qc := fun A => va_Ql (fun (r9 : Int64) (u9 : Unit) => r9 = jnVl 37 u v) (fun (u9 : Unit) t9 => bW D A ([]) t9) A) (by decide) (Nat.le_of_ble_eq_true rfl) ?_
  intro A p e s m below meth c ls hsz hB
  obtain ⟨hx, hb, hr, hml, hown, hin, hlk, hE, hK, hP, hD, hS, hA, hN, hl⟩ := hB
  have hown : s.vm.findClass "SeriesVault$Table" = some m.cls := hown
  have hl : lv_has ls 5 [(0, .int 37), (1, .long u), (3, .long v)] := hl
  obtain ⟨H, hH⟩ : ∃ z, z = s.heap := ⟨_, rfl⟩
  have hP : va_P D vwCl ([]) H := by rw [hH]; exact hP
  have hS : va_S A s.heap H [] := by rw [hH]; exact hS
  rw [← hH]
  refine lv_iload_n hx hb d_T_joined_0 rfl (lv_at hl 0 rfl) ?_
  refine lv_tableOut (tgt := 66) hx hb d_T_joined_1 (by decide) rfl ?_
  refine lv_lload_n hx hb d_T_joined_66 rfl (lv_at hl 2 rfl) ?_
  refine lv_lconst (v := 0) hx hb d_T_joined_67 (by decide) ?_
  refine W.lcmp hx hb d_T_joined_68 ?_
  refine lv_if_ne hx hb d_T_joined_69 (tgt := 76) rfl (fun g1 => ?_) (fun g1 => ?_)
  · have g1 := mt (lg_cmp_eq _ _).mpr g1
    refine lv_lload_n hx hb d_T_joined_76 rfl (lv_at hl 1 rfl) ?_
    refine lv_lload_n hx hb d_T_joined_77 rfl (lv_at hl 2 rfl) ?_
    refine lv_lrem hx hb d_T_joined_78 (by assumption) ?_
    exact rfL hx hb hr hlk hS () (by simp [jnVl, *]) hP hD (Nat.le_of_ble_eq_true rfl) (Nat.le_of_ble_eq_true rfl) d_T_joined_79
  · have g1 := (lg_cmp_eq _ _).mp g1
    refine lv_lconst (v := 0) hx hb d_T_joined_72 (by decide) ?_
    refine lv_goto hx hb d_T_joined_73 (tgt := 79) rfl ?_
    exact rfL hx hb hr hlk hS () (by simp [jnVl, *]) hP hD (Nat.le_of_ble_eq_true rfl) (Nat.le_of_ble_eq_true rfl) d_T_joined_79
