/-! Steps. -/
def isKd (z : Int32) : Prop := z = 61 ∨ z = 260 ∨ z = 261 ∨ z = 262
def hoB (z : Int32) (L M : List Int32) : Bool := if z = 61 then sameW L M else if z = 260 then !sameW L M else if z = 261 then begW L M else !begW L M
def tkF (KD : Nat → Int32) (MN MT : Nat → List Int32) (S : List LB) (i : Nat) : Bool := hoB (KD i) (valS S (MN i)) (MT i)
def isLst (dA : Nat → ClassId) (ws : va_W) (a n : Nat) (WL : Nat → List Int32) : Prop := ∃ (eA : Nat) (mc : Int32), (a, .inr (6, [.ref eA, .int (nI n), .int mc])) ∈ ws ∧ n ≤ 65536 ∧ (0 < n → ∃ (cap : Nat) (el : Nat → Option Nat), (eA, .inl (dA 7, cap, .inr (.inr (.inr (.inr el))))) ∈ ws ∧ n ≤ cap ∧ cap ≤ 131072 ∧ ∀ i, i < n → ∃ p : Nat, el i = some p ∧ isWo dA ws p (WL i) ∧ (WL i).length ≤ 65536)
theorem isLst_m {dA : Nat → ClassId} {ws ws' : va_W} {a n : Nat} {WL : Nat → List Int32} (hs : ∀ c, c ∈ ws → c ∈ ws') (h : isLst dA ws a n WL) : isLst dA ws' a n WL := by
  obtain ⟨eA, mc, h1, h2, h3⟩ := h
  refine ⟨eA, mc, hs _ h1, h2, fun hn => ?_⟩
  obtain ⟨cap, el, g1, g2, g3, g4⟩ := h3 hn
  refine ⟨cap, el, hs _ g1, g2, g3, fun i hi => ?_⟩
  obtain ⟨p, e1, e2, e3⟩ := g4 i hi
  exact ⟨p, e1, isWo_m hs e2, e3⟩
/-- a step: kind, place, number, names, matches -/
def isStp (dA : Nat → ClassId) (ws : va_W) (a : Nat) (kd : Int32) (pc : Nat) (nu : Int64) (nn : Nat) (NL : Nat → List Int32) (n : Nat) (KD : Nat → Int32) (MN MT : Nat → List Int32) : Prop := ∃ (na ln lt mk cap kN : Nat) (fn : Nat → Option Nat) (fk : Nat → Int32), (a, .inr (13, [.int kd, .int (nI pc), .long nu, .ref na, .int (nI nn), .ref ln, .ref lt, .ref mk])) ∈ ws ∧ (na, .inl (dA 6, cap, .inr (.inr (.inr (.inr fn))))) ∈ ws ∧ nn ≤ cap ∧ cap ≤ 6 ∧ nmOk dA ws fn nn NL ∧ isLst dA ws ln n MN ∧ isLst dA ws lt n MT ∧ (mk, .inl (dA 1, kN, .inl fk)) ∈ ws ∧ n ≤ kN ∧ kN ≤ 262144 ∧ ∀ i, i < n → fk i = KD i ∧ isKd (KD i)
theorem isStp_m {dA : Nat → ClassId} {ws ws' : va_W} {a : Nat} {kd : Int32} {pc : Nat} {nu : Int64} {nn : Nat} {NL : Nat → List Int32} {n : Nat} {KD : Nat → Int32} {MN MT : Nat → List Int32} (hs : ∀ c, c ∈ ws → c ∈ ws') (h : isStp dA ws a kd pc nu nn NL n KD MN MT) : isStp dA ws' a kd pc nu nn NL n KD MN MT := by
  obtain ⟨na, ln, lt, mk, cap, kN, fn, fk, h1, h2, h3, h4, h5, h6, h7, h8, h9, h10, h11⟩ := h
  exact ⟨na, ln, lt, mk, cap, kN, fn, fk, hs _ h1, hs _ h2, h3, h4, nmOk_m hs h5, isLst_m hs h6, isLst_m hs h7, hs _ h8, h9, h10, h11⟩
/-- a new table -/
def adT4 (a b c d : Nat) : Nat → Nat
  | 0 => a
  | 1 => b
  | 2 => c
  | _ => d
def tb0 (q : Nat) : TB := (fun _ => none, 0, 0, 0, fun _ => none, fun _ => 0, q, 64, fun _ => 0)
set_option maxHeartbeats 4000000 in
set_option maxRecDepth 100000 in
theorem v_Tinit (l : Launch) (D : va_G) (dA : Nat → ClassId) (sz : Nat) (ws : va_W) (a : Nat) : Met l ⟨"SeriesVault$Table", "<init>", "()V"⟩ [Cond.code ⟨"SeriesVault$Table", "<init>", "()V"⟩ prog_11_method_1_code 1 none] { frames := 1, cells := 4, slots := 582, locals := 12 } (pC D dA [.ref a] ([(a, .inr (8, [.null, .int 0, .int 0, .int 0, .null, .null, .null]))] ++ (ws)) sz) (va_Qv (fun (u9 : (Nat → Nat) × TB) => u9.1 0 = a ∧ u9.2 = tb0 u9.2.cA) (fun (u9 : (Nat → Nat) × TB) t9 => bW D (va_A ([(a, .inr (8, [.null, .int 0, .int 0, .int 0, .null, .null, .null]))] ++ (ws)) sz) (TbW dA u9.1 u9.2 ++ (ws)) t9) (va_A ([(a, .inr (8, [.null, .int 0, .int 0, .int 0, .null, .null, .null]))] ++ (ws)) sz)) 4 582 (va_A ([(a, .inr (8, [.null, .int 0, .int 0, .int 0, .null, .null, .null]))] ++ (ws)) sz) := by
  refine mkC (y := ⟨"SeriesVault$Table", "<init>", "()V"⟩) (cc := prog_11_method_1_code) (maxL := 1) (av := [.ref a]) (ws := [(a, .inr (8, [.null, .int 0, .int 0, .int 0, .null, .null, .null]))] ++ (ws)) (sz := sz) (Qc := fun A => va_Qv (fun (u9 : (Nat → Nat) × TB) => u9.1 0 = a ∧ u9.2 = tb0 u9.2.cA) (fun (u9 : (Nat → Nat) × TB) t9 => bW D A (TbW dA u9.1 u9.2 ++ (ws)) t9) A) (by decide) (Nat.le_of_ble_eq_true rfl) ?_
  intro A p e s m below meth c ls hsz hB
  obtain ⟨hx, hb, hr, hml, hown, hin, hlk, hE, hK, hP, hD, hS, hA, hN, hl⟩ := hB
  have hown : s.vm.findClass "SeriesVault$Table" = some m.cls := hown
  have hl : lv_has ls 1 [(0, .ref a)] := hl
  obtain ⟨H, hH⟩ : ∃ z, z = s.heap := ⟨_, rfl⟩
  have hP : va_P D vwCl ([(a, .inr (8, [.null, .int 0, .int 0, .int 0, .null, .null, .null]))] ++ (ws)) H := by rw [hH]; exact hP
  have hS : va_S A s.heap H [] := by rw [hH]; exact hS
  rw [← hH]
  refine lv_aload_n hx hb d_T_init_0 rfl (lv_at hl 0 rfl) ?_
  refine oI hx hb hown hE w781 w182 w183 (hl.1.trans hml.symm) d_T_init_1 (Nat.le_of_ble_eq_true rfl) (Nat.le_of_ble_eq_true rfl) ?_
  refine lv_aload_n hx hb d_T_init_4 rfl (lv_at hl 0 rfl) ?_
  refine lv_bipush (v := 6) hx hb d_T_init_5 (by decide) ?_
  refine nnQ (N' := 6) hx hb hown hE w782 w783 hK hP hD hS hA 6 rfl (by omega) (show 6 * 4 ≤ 536870912 by omega) (show 0 + 1 ≤ 4 by omega) (show 0 + 6 ≤ 582 by omega) d_T_init_7 (fun q1 H hP hD hS => ?_)
  have hP : va_P D vwCl ([(q1, .inl (dA 6, 6, .inr (.inr (.inr (.inr (fun _ => none))))))] ++ ([(a, .inr (8, [.null, .int 0, .int 0, .int 0, .null, .null, .null]))] ++ (ws))) H := hP
  have hD : va_D A ([(q1, .inl (dA 6, 6, .inr (.inr (.inr (.inr (fun _ => none))))))] ++ ([(a, .inr (8, [.null, .int 0, .int 0, .int 0, .null, .null, .null]))] ++ (ws))) := hD
  refine pFF (v := .ref q1) hx hb hown hE hK hP hD hS 1 rfl rfl layT tyT tokT nmT 0 (by decide) w784 rfl hin rfl rfl rfl (Nat.le_of_ble_eq_true rfl) d_T_init_10 (fun H locs hP hD hS => ?_)
  have hP : va_P D vwCl ([(q1, .inl (dA 6, 6, .inr (.inr (.inr (.inr (fun _ => none))))))] ++ ([(a, .inr (8, [.ref q1, .int 0, .int 0, .int 0, .null, .null, .null]))] ++ (ws))) H := hP
  have hD : va_D A ([(q1, .inl (dA 6, 6, .inr (.inr (.inr (.inr (fun _ => none))))))] ++ ([(a, .inr (8, [.ref q1, .int 0, .int 0, .int 0, .null, .null, .null]))] ++ (ws))) := hD
  refine lv_aload_n hx hb d_T_init_13 rfl (lv_at hl 0 rfl) ?_
  refine lv_sipush (v := 256) hx hb d_T_init_14 (by decide) ?_
  refine nnQ (N' := 256) hx hb hown hE w785 w786 hK hP hD hS hA 5 rfl (by omega) (show 256 * 4 ≤ 536870912 by omega) (show (0 + 1) + 1 ≤ 4 by omega) (show (0 + 6) + 256 ≤ 582 by omega) d_T_init_17 (fun q2 H hP hD hS => ?_)
  have hP : va_P D vwCl ([(q2, .inl (dA 5, 256, .inr (.inr (.inr (.inr (fun _ => none))))))] ++ ([(q1, .inl (dA 6, 6, .inr (.inr (.inr (.inr (fun _ => none))))))] ++ ([(a, .inr (8, [.ref q1, .int 0, .int 0, .int 0, .null, .null, .null]))] ++ (ws)))) H := hP
  have hD : va_D A ([(q2, .inl (dA 5, 256, .inr (.inr (.inr (.inr (fun _ => none))))))] ++ ([(q1, .inl (dA 6, 6, .inr (.inr (.inr (.inr (fun _ => none))))))] ++ ([(a, .inr (8, [.ref q1, .int 0, .int 0, .int 0, .null, .null, .null]))] ++ (ws)))) := hD
  refine pFF (v := .ref q2) hx hb hown hE hK hP hD hS 2 rfl rfl layT tyT tokT nmT 4 (by decide) w787 rfl hin rfl rfl rfl (Nat.le_of_ble_eq_true rfl) d_T_init_20 (fun H locs hP hD hS => ?_)
  have hP : va_P D vwCl ([(q2, .inl (dA 5, 256, .inr (.inr (.inr (.inr (fun _ => none))))))] ++ ([(q1, .inl (dA 6, 6, .inr (.inr (.inr (.inr (fun _ => none))))))] ++ ([(a, .inr (8, [.ref q1, .int 0, .int 0, .int 0, .ref q2, .null, .null]))] ++ (ws)))) H := hP
  have hD : va_D A ([(q2, .inl (dA 5, 256, .inr (.inr (.inr (.inr (fun _ => none))))))] ++ ([(q1, .inl (dA 6, 6, .inr (.inr (.inr (.inr (fun _ => none))))))] ++ ([(a, .inr (8, [.ref q1, .int 0, .int 0, .int 0, .ref q2, .null, .null]))] ++ (ws)))) := hD
  refine lv_aload_n hx hb d_T_init_23 rfl (lv_at hl 0 rfl) ?_
  refine lv_sipush (v := 256) hx hb d_T_init_24 (by decide) ?_
  refine nnA (atype := .long) (ty := .long) (N' := 256) (a0 := (256, .inr (.inl (fun _ => 0)))) hx hb hE rfl w186 hK hP hD hS hA 2 rfl (fun _ => rfl) (by omega) (show 256 * 8 ≤ 536870912 by omega) (show (0 + 1 + 1) + 1 ≤ 4 by omega) (show (0 + 6 + 256) + 256 ≤ 582 by omega) d_T_init_27 (fun q3 H hP hD hS => ?_)
  have hP : va_P D vwCl ([(q3, .inl (dA 2, 256, .inr (.inl (fun _ => 0))))] ++ ([(q2, .inl (dA 5, 256, .inr (.inr (.inr (.inr (fun _ => none))))))] ++ ([(q1, .inl (dA 6, 6, .inr (.inr (.inr (.inr (fun _ => none))))))] ++ ([(a, .inr (8, [.ref q1, .int 0, .int 0, .int 0, .ref q2, .null, .null]))] ++ (ws))))) H := hP
  have hD : va_D A ([(q3, .inl (dA 2, 256, .inr (.inl (fun _ => 0))))] ++ ([(q2, .inl (dA 5, 256, .inr (.inr (.inr (.inr (fun _ => none))))))] ++ ([(q1, .inl (dA 6, 6, .inr (.inr (.inr (.inr (fun _ => none))))))] ++ ([(a, .inr (8, [.ref q1, .int 0, .int 0, .int 0, .ref q2, .null, .null]))] ++ (ws))))) := hD
  refine pFF (v := .ref q3) hx hb hown hE hK hP hD hS 3 rfl rfl layT tyT tokT nmT 5 (by decide) w788 rfl hin rfl rfl rfl (Nat.le_of_ble_eq_true rfl) d_T_init_29 (fun H locs hP hD hS => ?_)
  have hP : va_P D vwCl ([(q3, .inl (dA 2, 256, .inr (.inl (fun _ => 0))))] ++ ([(q2, .inl (dA 5, 256, .inr (.inr (.inr (.inr (fun _ => none))))))] ++ ([(q1, .inl (dA 6, 6, .inr (.inr (.inr (.inr (fun _ => none))))))] ++ ([(a, .inr (8, [.ref q1, .int 0, .int 0, .int 0, .ref q2, .ref q3, .null]))] ++ (ws))))) H := hP
  have hD : va_D A ([(q3, .inl (dA 2, 256, .inr (.inl (fun _ => 0))))] ++ ([(q2, .inl (dA 5, 256, .inr (.inr (.inr (.inr (fun _ => none))))))] ++ ([(q1, .inl (dA 6, 6, .inr (.inr (.inr (.inr (fun _ => none))))))] ++ ([(a, .inr (8, [.ref q1, .int 0, .int 0, .int 0, .ref q2, .ref q3, .null]))] ++ (ws))))) := hD
  refine lv_aload_n hx hb d_T_init_32 rfl (lv_at hl 0 rfl) ?_
  refine lv_bipush (v := 64) hx hb d_T_init_33 (by decide) ?_
  refine nnA (atype := .long) (ty := .long) (N' := 64) (a0 := (64, .inr (.inl (fun _ => 0)))) hx hb hE rfl w186 hK hP hD hS hA 2 rfl (fun _ => rfl) (by omega) (show 64 * 8 ≤ 536870912 by omega) (show (0 + 1 + 1 + 1) + 1 ≤ 4 by omega) (show (0 + 6 + 256 + 256) + 64 ≤ 582 by omega) d_T_init_35 (fun q4 H hP hD hS => ?_)
  have hP : va_P D vwCl ([(q4, .inl (dA 2, 64, .inr (.inl (fun _ => 0))))] ++ ([(q3, .inl (dA 2, 256, .inr (.inl (fun _ => 0))))] ++ ([(q2, .inl (dA 5, 256, .inr (.inr (.inr (.inr (fun _ => none))))))] ++ ([(q1, .inl (dA 6, 6, .inr (.inr (.inr (.inr (fun _ => none))))))] ++ ([(a, .inr (8, [.ref q1, .int 0, .int 0, .int 0, .ref q2, .ref q3, .null]))] ++ (ws)))))) H := hP
  have hD : va_D A ([(q4, .inl (dA 2, 64, .inr (.inl (fun _ => 0))))] ++ ([(q3, .inl (dA 2, 256, .inr (.inl (fun _ => 0))))] ++ ([(q2, .inl (dA 5, 256, .inr (.inr (.inr (.inr (fun _ => none))))))] ++ ([(q1, .inl (dA 6, 6, .inr (.inr (.inr (.inr (fun _ => none))))))] ++ ([(a, .inr (8, [.ref q1, .int 0, .int 0, .int 0, .ref q2, .ref q3, .null]))] ++ (ws)))))) := hD
  refine pF (v := .ref q4) hx hb hown hE hK hP hD hS 4 rfl rfl layT tyT tokT nmT 6 (by decide) w789 rfl rfl rfl (Nat.le_of_ble_eq_true rfl) d_T_init_37 (fun H locs hP hD hS => ?_)
  have hP : va_P D vwCl ([(q4, .inl (dA 2, 64, .inr (.inl (fun _ => 0))))] ++ ([(q3, .inl (dA 2, 256, .inr (.inl (fun _ => 0))))] ++ ([(q2, .inl (dA 5, 256, .inr (.inr (.inr (.inr (fun _ => none))))))] ++ ([(q1, .inl (dA 6, 6, .inr (.inr (.inr (.inr (fun _ => none))))))] ++ ([(a, .inr (8, [.ref q1, .int 0, .int 0, .int 0, .ref q2, .ref q3, .ref q4]))] ++ (ws)))))) H := hP
  have hD : va_D A ([(q4, .inl (dA 2, 64, .inr (.inl (fun _ => 0))))] ++ ([(q3, .inl (dA 2, 256, .inr (.inl (fun _ => 0))))] ++ ([(q2, .inl (dA 5, 256, .inr (.inr (.inr (.inr (fun _ => none))))))] ++ ([(q1, .inl (dA 6, 6, .inr (.inr (.inr (.inr (fun _ => none))))))] ++ ([(a, .inr (8, [.ref q1, .int 0, .int 0, .int 0, .ref q2, .ref q3, .ref q4]))] ++ (ws)))))) := hD
  have hP := pmP (show List.Perm (α := Nat × va_E) ([(q4, .inl (dA 2, 64, .inr (.inl (fun _ => 0))))] ++ ([(q3, .inl (dA 2, 256, .inr (.inl (fun _ => 0))))] ++ ([(q2, .inl (dA 5, 256, .inr (.inr (.inr (.inr (fun _ => none))))))] ++ ([(q1, .inl (dA 6, 6, .inr (.inr (.inr (.inr (fun _ => none))))))] ++ ([(a, .inr (8, [.ref q1, .int 0, .int 0, .int 0, .ref q2, .ref q3, .ref q4]))] ++ (ws)))))) ([(a, .inr (8, [.ref q1, .int 0, .int 0, .int 0, .ref q2, .ref q3, .ref q4]))] ++ ([(q4, .inl (dA 2, 64, .inr (.inl (fun _ => 0))))] ++ ([(q3, .inl (dA 2, 256, .inr (.inl (fun _ => 0))))] ++ ([(q2, .inl (dA 5, 256, .inr (.inr (.inr (.inr (fun _ => none))))))] ++ ([(q1, .inl (dA 6, 6, .inr (.inr (.inr (.inr (fun _ => none))))))] ++ (ws)))))) from (List.Perm.append_left ([(q4, .inl (dA 2, 64, .inr (.inl (fun _ => 0))))]) ((List.Perm.append_left ([(q3, .inl (dA 2, 256, .inr (.inl (fun _ => 0))))]) ((List.Perm.append_left ([(q2, .inl (dA 5, 256, .inr (.inr (.inr (.inr (fun _ => none))))))]) (List.perm_append_comm_assoc ([(q1, .inl (dA 6, 6, .inr (.inr (.inr (.inr (fun _ => none))))))]) ([(a, .inr (8, [.ref q1, .int 0, .int 0, .int 0, .ref q2, .ref q3, .ref q4]))]) (ws))).trans (List.perm_append_comm_assoc ([(q2, .inl (dA 5, 256, .inr (.inr (.inr (.inr (fun _ => none))))))]) ([(a, .inr (8, [.ref q1, .int 0, .int 0, .int 0, .ref q2, .ref q3, .ref q4]))]) ([(q1, .inl (dA 6, 6, .inr (.inr (.inr (.inr (fun _ => none))))))] ++ (ws))))).trans (List.perm_append_comm_assoc ([(q3, .inl (dA 2, 256, .inr (.inl (fun _ => 0))))]) ([(a, .inr (8, [.ref q1, .int 0, .int 0, .int 0, .ref q2, .ref q3, .ref q4]))]) ([(q2, .inl (dA 5, 256, .inr (.inr (.inr (.inr (fun _ => none))))))] ++ ([(q1, .inl (dA 6, 6, .inr (.inr (.inr (.inr (fun _ => none))))))] ++ (ws)))))).trans (List.perm_append_comm_assoc ([(q4, .inl (dA 2, 64, .inr (.inl (fun _ => 0))))]) ([(a, .inr (8, [.ref q1, .int 0, .int 0, .int 0, .ref q2, .ref q3, .ref q4]))]) ([(q3, .inl (dA 2, 256, .inr (.inl (fun _ => 0))))] ++ ([(q2, .inl (dA 5, 256, .inr (.inr (.inr (.inr (fun _ => none))))))] ++ ([(q1, .inl (dA 6, 6, .inr (.inr (.inr (.inr (fun _ => none))))))] ++ (ws)))))) hP
  have hD := pmD (show List.Perm (α := Nat × va_E) ([(q4, .inl (dA 2, 64, .inr (.inl (fun _ => 0))))] ++ ([(q3, .inl (dA 2, 256, .inr (.inl (fun _ => 0))))] ++ ([(q2, .inl (dA 5, 256, .inr (.inr (.inr (.inr (fun _ => none))))))] ++ ([(q1, .inl (dA 6, 6, .inr (.inr (.inr (.inr (fun _ => none))))))] ++ ([(a, .inr (8, [.ref q1, .int 0, .int 0, .int 0, .ref q2, .ref q3, .ref q4]))] ++ (ws)))))) ([(a, .inr (8, [.ref q1, .int 0, .int 0, .int 0, .ref q2, .ref q3, .ref q4]))] ++ ([(q4, .inl (dA 2, 64, .inr (.inl (fun _ => 0))))] ++ ([(q3, .inl (dA 2, 256, .inr (.inl (fun _ => 0))))] ++ ([(q2, .inl (dA 5, 256, .inr (.inr (.inr (.inr (fun _ => none))))))] ++ ([(q1, .inl (dA 6, 6, .inr (.inr (.inr (.inr (fun _ => none))))))] ++ (ws)))))) from (List.Perm.append_left ([(q4, .inl (dA 2, 64, .inr (.inl (fun _ => 0))))]) ((List.Perm.append_left ([(q3, .inl (dA 2, 256, .inr (.inl (fun _ => 0))))]) ((List.Perm.append_left ([(q2, .inl (dA 5, 256, .inr (.inr (.inr (.inr (fun _ => none))))))]) (List.perm_append_comm_assoc ([(q1, .inl (dA 6, 6, .inr (.inr (.inr (.inr (fun _ => none))))))]) ([(a, .inr (8, [.ref q1, .int 0, .int 0, .int 0, .ref q2, .ref q3, .ref q4]))]) (ws))).trans (List.perm_append_comm_assoc ([(q2, .inl (dA 5, 256, .inr (.inr (.inr (.inr (fun _ => none))))))]) ([(a, .inr (8, [.ref q1, .int 0, .int 0, .int 0, .ref q2, .ref q3, .ref q4]))]) ([(q1, .inl (dA 6, 6, .inr (.inr (.inr (.inr (fun _ => none))))))] ++ (ws))))).trans (List.perm_append_comm_assoc ([(q3, .inl (dA 2, 256, .inr (.inl (fun _ => 0))))]) ([(a, .inr (8, [.ref q1, .int 0, .int 0, .int 0, .ref q2, .ref q3, .ref q4]))]) ([(q2, .inl (dA 5, 256, .inr (.inr (.inr (.inr (fun _ => none))))))] ++ ([(q1, .inl (dA 6, 6, .inr (.inr (.inr (.inr (fun _ => none))))))] ++ (ws)))))).trans (List.perm_append_comm_assoc ([(q4, .inl (dA 2, 64, .inr (.inl (fun _ => 0))))]) ([(a, .inr (8, [.ref q1, .int 0, .int 0, .int 0, .ref q2, .ref q3, .ref q4]))]) ([(q3, .inl (dA 2, 256, .inr (.inl (fun _ => 0))))] ++ ([(q2, .inl (dA 5, 256, .inr (.inr (.inr (.inr (fun _ => none))))))] ++ ([(q1, .inl (dA 6, 6, .inr (.inr (.inr (.inr (fun _ => none))))))] ++ (ws)))))) hD
  have hP := pmP (show List.Perm (α := Nat × va_E) ([(a, .inr (8, [.ref q1, .int 0, .int 0, .int 0, .ref q2, .ref q3, .ref q4]))] ++ ([(q4, .inl (dA 2, 64, .inr (.inl (fun _ => 0))))] ++ ([(q3, .inl (dA 2, 256, .inr (.inl (fun _ => 0))))] ++ ([(q2, .inl (dA 5, 256, .inr (.inr (.inr (.inr (fun _ => none))))))] ++ ([(q1, .inl (dA 6, 6, .inr (.inr (.inr (.inr (fun _ => none))))))] ++ (ws)))))) ([(a, .inr (8, [.ref q1, .int 0, .int 0, .int 0, .ref q2, .ref q3, .ref q4]))] ++ ([(q1, .inl (dA 6, 6, .inr (.inr (.inr (.inr (fun _ => none))))))] ++ ([(q4, .inl (dA 2, 64, .inr (.inl (fun _ => 0))))] ++ ([(q3, .inl (dA 2, 256, .inr (.inl (fun _ => 0))))] ++ ([(q2, .inl (dA 5, 256, .inr (.inr (.inr (.inr (fun _ => none))))))] ++ (ws)))))) from List.Perm.append_left ([(a, .inr (8, [.ref q1, .int 0, .int 0, .int 0, .ref q2, .ref q3, .ref q4]))]) ((List.Perm.append_left ([(q4, .inl (dA 2, 64, .inr (.inl (fun _ => 0))))]) ((List.Perm.append_left ([(q3, .inl (dA 2, 256, .inr (.inl (fun _ => 0))))]) (List.perm_append_comm_assoc ([(q2, .inl (dA 5, 256, .inr (.inr (.inr (.inr (fun _ => none))))))]) ([(q1, .inl (dA 6, 6, .inr (.inr (.inr (.inr (fun _ => none))))))]) (ws))).trans (List.perm_append_comm_assoc ([(q3, .inl (dA 2, 256, .inr (.inl (fun _ => 0))))]) ([(q1, .inl (dA 6, 6, .inr (.inr (.inr (.inr (fun _ => none))))))]) ([(q2, .inl (dA 5, 256, .inr (.inr (.inr (.inr (fun _ => none))))))] ++ (ws))))).trans (List.perm_append_comm_assoc ([(q4, .inl (dA 2, 64, .inr (.inl (fun _ => 0))))]) ([(q1, .inl (dA 6, 6, .inr (.inr (.inr (.inr (fun _ => none))))))]) ([(q3, .inl (dA 2, 256, .inr (.inl (fun _ => 0))))] ++ ([(q2, .inl (dA 5, 256, .inr (.inr (.inr (.inr (fun _ => none))))))] ++ (ws)))))) hP
  have hD := pmD (show List.Perm (α := Nat × va_E) ([(a, .inr (8, [.ref q1, .int 0, .int 0, .int 0, .ref q2, .ref q3, .ref q4]))] ++ ([(q4, .inl (dA 2, 64, .inr (.inl (fun _ => 0))))] ++ ([(q3, .inl (dA 2, 256, .inr (.inl (fun _ => 0))))] ++ ([(q2, .inl (dA 5, 256, .inr (.inr (.inr (.inr (fun _ => none))))))] ++ ([(q1, .inl (dA 6, 6, .inr (.inr (.inr (.inr (fun _ => none))))))] ++ (ws)))))) ([(a, .inr (8, [.ref q1, .int 0, .int 0, .int 0, .ref q2, .ref q3, .ref q4]))] ++ ([(q1, .inl (dA 6, 6, .inr (.inr (.inr (.inr (fun _ => none))))))] ++ ([(q4, .inl (dA 2, 64, .inr (.inl (fun _ => 0))))] ++ ([(q3, .inl (dA 2, 256, .inr (.inl (fun _ => 0))))] ++ ([(q2, .inl (dA 5, 256, .inr (.inr (.inr (.inr (fun _ => none))))))] ++ (ws)))))) from List.Perm.append_left ([(a, .inr (8, [.ref q1, .int 0, .int 0, .int 0, .ref q2, .ref q3, .ref q4]))]) ((List.Perm.append_left ([(q4, .inl (dA 2, 64, .inr (.inl (fun _ => 0))))]) ((List.Perm.append_left ([(q3, .inl (dA 2, 256, .inr (.inl (fun _ => 0))))]) (List.perm_append_comm_assoc ([(q2, .inl (dA 5, 256, .inr (.inr (.inr (.inr (fun _ => none))))))]) ([(q1, .inl (dA 6, 6, .inr (.inr (.inr (.inr (fun _ => none))))))]) (ws))).trans (List.perm_append_comm_assoc ([(q3, .inl (dA 2, 256, .inr (.inl (fun _ => 0))))]) ([(q1, .inl (dA 6, 6, .inr (.inr (.inr (.inr (fun _ => none))))))]) ([(q2, .inl (dA 5, 256, .inr (.inr (.inr (.inr (fun _ => none))))))] ++ (ws))))).trans (List.perm_append_comm_assoc ([(q4, .inl (dA 2, 64, .inr (.inl (fun _ => 0))))]) ([(q1, .inl (dA 6, 6, .inr (.inr (.inr (.inr (fun _ => none))))))]) ([(q3, .inl (dA 2, 256, .inr (.inl (fun _ => 0))))] ++ ([(q2, .inl (dA 5, 256, .inr (.inr (.inr (.inr (fun _ => none))))))] ++ (ws)))))) hD
  have hP := pmP (show List.Perm (α := Nat × va_E) ([(a, .inr (8, [.ref q1, .int 0, .int 0, .int 0, .ref q2, .ref q3, .ref q4]))] ++ ([(q1, .inl (dA 6, 6, .inr (.inr (.inr (.inr (fun _ => none))))))] ++ ([(q4, .inl (dA 2, 64, .inr (.inl (fun _ => 0))))] ++ ([(q3, .inl (dA 2, 256, .inr (.inl (fun _ => 0))))] ++ ([(q2, .inl (dA 5, 256, .inr (.inr (.inr (.inr (fun _ => none))))))] ++ (ws)))))) ([(a, .inr (8, [.ref q1, .int 0, .int 0, .int 0, .ref q2, .ref q3, .ref q4]))] ++ ([(q1, .inl (dA 6, 6, .inr (.inr (.inr (.inr (fun _ => none))))))] ++ ([(q2, .inl (dA 5, 256, .inr (.inr (.inr (.inr (fun _ => none))))))] ++ ([(q4, .inl (dA 2, 64, .inr (.inl (fun _ => 0))))] ++ ([(q3, .inl (dA 2, 256, .inr (.inl (fun _ => 0))))] ++ (ws)))))) from List.Perm.append_left ([(a, .inr (8, [.ref q1, .int 0, .int 0, .int 0, .ref q2, .ref q3, .ref q4]))]) (List.Perm.append_left ([(q1, .inl (dA 6, 6, .inr (.inr (.inr (.inr (fun _ => none))))))]) ((List.Perm.append_left ([(q4, .inl (dA 2, 64, .inr (.inl (fun _ => 0))))]) (List.perm_append_comm_assoc ([(q3, .inl (dA 2, 256, .inr (.inl (fun _ => 0))))]) ([(q2, .inl (dA 5, 256, .inr (.inr (.inr (.inr (fun _ => none))))))]) (ws))).trans (List.perm_append_comm_assoc ([(q4, .inl (dA 2, 64, .inr (.inl (fun _ => 0))))]) ([(q2, .inl (dA 5, 256, .inr (.inr (.inr (.inr (fun _ => none))))))]) ([(q3, .inl (dA 2, 256, .inr (.inl (fun _ => 0))))] ++ (ws)))))) hP
  have hD := pmD (show List.Perm (α := Nat × va_E) ([(a, .inr (8, [.ref q1, .int 0, .int 0, .int 0, .ref q2, .ref q3, .ref q4]))] ++ ([(q1, .inl (dA 6, 6, .inr (.inr (.inr (.inr (fun _ => none))))))] ++ ([(q4, .inl (dA 2, 64, .inr (.inl (fun _ => 0))))] ++ ([(q3, .inl (dA 2, 256, .inr (.inl (fun _ => 0))))] ++ ([(q2, .inl (dA 5, 256, .inr (.inr (.inr (.inr (fun _ => none))))))] ++ (ws)))))) ([(a, .inr (8, [.ref q1, .int 0, .int 0, .int 0, .ref q2, .ref q3, .ref q4]))] ++ ([(q1, .inl (dA 6, 6, .inr (.inr (.inr (.inr (fun _ => none))))))] ++ ([(q2, .inl (dA 5, 256, .inr (.inr (.inr (.inr (fun _ => none))))))] ++ ([(q4, .inl (dA 2, 64, .inr (.inl (fun _ => 0))))] ++ ([(q3, .inl (dA 2, 256, .inr (.inl (fun _ => 0))))] ++ (ws)))))) from List.Perm.append_left ([(a, .inr (8, [.ref q1, .int 0, .int 0, .int 0, .ref q2, .ref q3, .ref q4]))]) (List.Perm.append_left ([(q1, .inl (dA 6, 6, .inr (.inr (.inr (.inr (fun _ => none))))))]) ((List.Perm.append_left ([(q4, .inl (dA 2, 64, .inr (.inl (fun _ => 0))))]) (List.perm_append_comm_assoc ([(q3, .inl (dA 2, 256, .inr (.inl (fun _ => 0))))]) ([(q2, .inl (dA 5, 256, .inr (.inr (.inr (.inr (fun _ => none))))))]) (ws))).trans (List.perm_append_comm_assoc ([(q4, .inl (dA 2, 64, .inr (.inl (fun _ => 0))))]) ([(q2, .inl (dA 5, 256, .inr (.inr (.inr (.inr (fun _ => none))))))]) ([(q3, .inl (dA 2, 256, .inr (.inl (fun _ => 0))))] ++ (ws)))))) hD
  have hP := pmP (show List.Perm (α := Nat × va_E) ([(a, .inr (8, [.ref q1, .int 0, .int 0, .int 0, .ref q2, .ref q3, .ref q4]))] ++ ([(q1, .inl (dA 6, 6, .inr (.inr (.inr (.inr (fun _ => none))))))] ++ ([(q2, .inl (dA 5, 256, .inr (.inr (.inr (.inr (fun _ => none))))))] ++ ([(q4, .inl (dA 2, 64, .inr (.inl (fun _ => 0))))] ++ ([(q3, .inl (dA 2, 256, .inr (.inl (fun _ => 0))))] ++ (ws)))))) ([(a, .inr (8, [.ref q1, .int 0, .int 0, .int 0, .ref q2, .ref q3, .ref q4]))] ++ ([(q1, .inl (dA 6, 6, .inr (.inr (.inr (.inr (fun _ => none))))))] ++ ([(q2, .inl (dA 5, 256, .inr (.inr (.inr (.inr (fun _ => none))))))] ++ ([(q3, .inl (dA 2, 256, .inr (.inl (fun _ => 0))))] ++ ([(q4, .inl (dA 2, 64, .inr (.inl (fun _ => 0))))] ++ (ws)))))) from List.Perm.append_left ([(a, .inr (8, [.ref q1, .int 0, .int 0, .int 0, .ref q2, .ref q3, .ref q4]))]) (List.Perm.append_left ([(q1, .inl (dA 6, 6, .inr (.inr (.inr (.inr (fun _ => none))))))]) (List.Perm.append_left ([(q2, .inl (dA 5, 256, .inr (.inr (.inr (.inr (fun _ => none))))))]) (List.perm_append_comm_assoc ([(q4, .inl (dA 2, 64, .inr (.inl (fun _ => 0))))]) ([(q3, .inl (dA 2, 256, .inr (.inl (fun _ => 0))))]) (ws))))) hP
  have hD := pmD (show List.Perm (α := Nat × va_E) ([(a, .inr (8, [.ref q1, .int 0, .int 0, .int 0, .ref q2, .ref q3, .ref q4]))] ++ ([(q1, .inl (dA 6, 6, .inr (.inr (.inr (.inr (fun _ => none))))))] ++ ([(q2, .inl (dA 5, 256, .inr (.inr (.inr (.inr (fun _ => none))))))] ++ ([(q4, .inl (dA 2, 64, .inr (.inl (fun _ => 0))))] ++ ([(q3, .inl (dA 2, 256, .inr (.inl (fun _ => 0))))] ++ (ws)))))) ([(a, .inr (8, [.ref q1, .int 0, .int 0, .int 0, .ref q2, .ref q3, .ref q4]))] ++ ([(q1, .inl (dA 6, 6, .inr (.inr (.inr (.inr (fun _ => none))))))] ++ ([(q2, .inl (dA 5, 256, .inr (.inr (.inr (.inr (fun _ => none))))))] ++ ([(q3, .inl (dA 2, 256, .inr (.inl (fun _ => 0))))] ++ ([(q4, .inl (dA 2, 64, .inr (.inl (fun _ => 0))))] ++ (ws)))))) from List.Perm.append_left ([(a, .inr (8, [.ref q1, .int 0, .int 0, .int 0, .ref q2, .ref q3, .ref q4]))]) (List.Perm.append_left ([(q1, .inl (dA 6, 6, .inr (.inr (.inr (.inr (fun _ => none))))))]) (List.Perm.append_left ([(q2, .inl (dA 5, 256, .inr (.inr (.inr (.inr (fun _ => none))))))]) (List.perm_append_comm_assoc ([(q4, .inl (dA 2, 64, .inr (.inl (fun _ => 0))))]) ([(q3, .inl (dA 2, 256, .inr (.inl (fun _ => 0))))]) (ws))))) hD
  obtain ⟨tq, htq⟩ : ∃ z, z = adT4 a q1 q2 q3 := ⟨_, rfl⟩
  have hP : va_P D vwCl (TbW dA tq (tb0 q4) ++ (ws)) H := by rw [htq]; exact hP
  have hD : va_D A (TbW dA tq (tb0 q4) ++ (ws)) := by rw [htq]; exact hD
  exact rfV hx hb hr hlk hS (⟨tq, tb0 q4⟩) ⟨by rw [htq]; rfl, rfl⟩ hP hD (show 0 + 1 + 1 + 1 + 1 ≤ 4 by omega) (show 0 + 6 + 256 + 256 + 64 ≤ 582 by omega) d_T_init_40
set_option maxHeartbeats 4000000 in
set_option maxRecDepth 100000 in
theorem v_LsizeM (l : Launch) (D : va_G) (dA : Nat → ClassId) (sz : Nat) (ws : va_W) (a : Nat) (n : Nat) (WL : Nat → List Int32) (hls : isLst dA ws a n WL) : Met l ⟨"java/util/ArrayList", "size", "()I"⟩ [Cond.code ⟨"java/util/ArrayList", "size", "()I"⟩ prog_37_method_8_code 1 (some FieldType.int)] { frames := 1, cells := 0, slots := 0, locals := 0 } (pC D dA [.ref a] (ws) sz) (va_Qi (fun (r9 : Int32) (u9 : Unit) => r9 = nI n) (fun (u9 : Unit) t9 => bW D (va_A (ws) sz) (ws) t9) (va_A (ws) sz)) 0 0 (va_A (ws) sz) := by
  refine mkC (y := ⟨"java/util/ArrayList", "size", "()I"⟩) (cc := prog_37_method_8_code) (maxL := 1) (av := [.ref a]) (ws := ws) (sz := sz) (Qc := fun A => va_Qi (fun (r9 : Int32) (u9 : Unit) => r9 = nI n) (fun (u9 : Unit) t9 => bW D A (ws) t9) A) (by decide) (Nat.le_of_ble_eq_true rfl) ?_
  intro A p e s m below meth c ls hsz hB
  obtain ⟨hx, hb, hr, hml, hown, hin, hlk, hE, hK, hP, hD, hS, hA, hN, hl⟩ := hB
  have hown : s.vm.findClass "java/util/ArrayList" = some m.cls := hown
  have hl : lv_has ls 1 [(0, .ref a)] := hl
  obtain ⟨H, hH⟩ : ∃ z, z = s.heap := ⟨_, rfl⟩
  have hP : va_P D vwCl (ws) H := by rw [hH]; exact hP
  have hS : va_S A s.heap H [] := by rw [hH]; exact hS
  rw [← hH]
  have hlc := hls
  obtain ⟨eA, mc, m1, hn1, hlr⟩ := hlc
  refine lv_aload_n hx hb d_L_size_0 rfl (lv_at hl 0 rfl) ?_
  obtain ⟨qp1, ep2⟩ := List.getElem?_of_mem (show ((a, .inr (6, [.ref eA, .int (nI n), .int mc])) : Nat × va_E) ∈ ws from m1)
  refine gF (v := .int (nI n)) hx hb hown hE hK hP qp1 ep2 rfl layL 1 (by decide) w657 rfl d_L_size_1 ?_
  exact rfI hx hb hr hlk hS () rfl hP hD (Nat.le_of_ble_eq_true rfl) (Nat.le_of_ble_eq_true rfl) d_L_size_4
set_option maxHeartbeats 4000000 in
set_option maxRecDepth 100000 in
theorem v_LelementM (l : Launch) (D : va_G) (dA : Nat → ClassId) (sz : Nat) (ws : va_W) (a : Nat) (n : Nat) (WL : Nat → List Int32) (i : Nat) (hls : isLst dA ws a n WL) (h1 : i < n) : Met l ⟨"java/util/ArrayList", "elementData", "(I)Ljava/lang/Object;"⟩ [Cond.code ⟨"java/util/ArrayList", "elementData", "(I)Ljava/lang/Object;"⟩ prog_37_method_18_code 2 (some (FieldType.object "java/lang/Object"))] { frames := 1, cells := 0, slots := 0, locals := 0 } (pC D dA [.ref a, .int (nI i)] (ws) sz) (va_Qr (fun (_ : Unit) => True) (fun (u9 : Unit) (r9 : Nat) t9 => (isWo dA ws r9 (WL i) ∧ (WL i).length ≤ 65536) ∧ bW D (va_A (ws) sz) (ws) t9) (va_A (ws) sz)) 0 0 (va_A (ws) sz) := by
  refine mkC (y := ⟨"java/util/ArrayList", "elementData", "(I)Ljava/lang/Object;"⟩) (cc := prog_37_method_18_code) (maxL := 2) (av := [.ref a, .int (nI i)]) (ws := ws) (sz := sz) (Qc := fun A => va_Qr (fun (_ : Unit) => True) (fun (u9 : Unit) (r9 : Nat) t9 => (isWo dA ws r9 (WL i) ∧ (WL i).length ≤ 65536) ∧ bW D A (ws) t9) A) (by decide) (Nat.le_of_ble_eq_true rfl) ?_
  intro A p e s m below meth c ls hsz hB
  obtain ⟨hx, hb, hr, hml, hown, hin, hlk, hE, hK, hP, hD, hS, hA, hN, hl⟩ := hB
  have hown : s.vm.findClass "java/util/ArrayList" = some m.cls := hown
  have hl : lv_has ls 2 [(0, .ref a), (1, .int (nI i))] := hl
  obtain ⟨H, hH⟩ : ∃ z, z = s.heap := ⟨_, rfl⟩
  have hP : va_P D vwCl (ws) H := by rw [hH]; exact hP
  have hS : va_S A s.heap H [] := by rw [hH]; exact hS
  rw [← hH]
  have hlc := hls
  obtain ⟨eA, mc, m1, hn1, hlr⟩ := hlc
  obtain ⟨cap, el, m2, hc1, hc2, hle⟩ := hlr (by omega)
  obtain ⟨v1, ev1, wv1, lv1⟩ := hle i h1
  refine lv_aload_n hx hb d_L_elementData_0 rfl (lv_at hl 0 rfl) ?_
  obtain ⟨qp1, ep2⟩ := List.getElem?_of_mem (show ((a, .inr (6, [.ref eA, .int (nI n), .int mc])) : Nat × va_E) ∈ ws from m1)
  refine gF (v := .ref eA) hx hb hown hE hK hP qp1 ep2 rfl layL 0 (by decide) w656 rfl d_L_elementData_1 ?_
  refine lv_iload_n hx hb d_L_elementData_4 rfl (lv_at hl 1 rfl) ?_
  obtain ⟨qp3, ep4⟩ := List.getElem?_of_mem (show ((eA, .inl (dA 7, cap, .inr (.inr (.inr (.inr el))))) : Nat × va_E) ∈ ws from m2)
  refine nqld (f := el) (n := cap) hx hb hK hP (qp3) 7 ep4 rfl (i) (by omega) (by omega) ev1 d_L_elementData_5 ?_
  exact rkR hx hb hr (Or.inl ⟨_, rfl⟩) hlk hS () ⟨wv1, lv1⟩ hP hD (Nat.le_of_ble_eq_true rfl) (Nat.le_of_ble_eq_true rfl) d_L_elementData_6
set_option maxHeartbeats 4000000 in
set_option maxRecDepth 100000 in
theorem v_LgetM (l : Launch) (D : va_G) (dA : Nat → ClassId) (sz : Nat) (ws : va_W) (a : Nat) (n : Nat) (WL : Nat → List Int32) (i : Nat) (hls : isLst dA ws a n WL) (h1 : i < n) : Met l ⟨"java/util/ArrayList", "get", "(I)Ljava/lang/Object;"⟩ [Cond.code ⟨"java/util/ArrayList", "get", "(I)Ljava/lang/Object;"⟩ prog_37_method_20_code 2 (some (FieldType.object "java/lang/Object"))] { frames := 3, cells := 0, slots := 0, locals := 43 } (pC D dA [.ref a, .int (nI i)] (ws) sz) (va_Qr (fun (_ : Unit) => True) (fun (u9 : Unit) (r9 : Nat) t9 => (isWo dA ws r9 (WL i) ∧ (WL i).length ≤ 65536) ∧ bW D (va_A (ws) sz) (ws) t9) (va_A (ws) sz)) 0 0 (va_A (ws) sz) := by
  refine mkC (y := ⟨"java/util/ArrayList", "get", "(I)Ljava/lang/Object;"⟩) (cc := prog_37_method_20_code) (maxL := 2) (av := [.ref a, .int (nI i)]) (ws := ws) (sz := sz) (Qc := fun A => va_Qr (fun (_ : Unit) => True) (fun (u9 : Unit) (r9 : Nat) t9 => (isWo dA ws r9 (WL i) ∧ (WL i).length ≤ 65536) ∧ bW D A (ws) t9) A) (by decide) (Nat.le_of_ble_eq_true rfl) ?_
  intro A p e s m below meth c ls hsz hB
  obtain ⟨hx, hb, hr, hml, hown, hin, hlk, hE, hK, hP, hD, hS, hA, hN, hl⟩ := hB
  have hown : s.vm.findClass "java/util/ArrayList" = some m.cls := hown
  have hl : lv_has ls 2 [(0, .ref a), (1, .int (nI i))] := hl
  obtain ⟨H, hH⟩ : ∃ z, z = s.heap := ⟨_, rfl⟩
  have hP : va_P D vwCl (ws) H := by rw [hH]; exact hP
  have hS : va_S A s.heap H [] := by rw [hH]; exact hS
  rw [← hH]
  have hlc := hls
  obtain ⟨eA, mc, m1, hn1, hlr⟩ := hlc
  refine lv_iload_n hx hb d_L_get_0 rfl (lv_at hl 1 rfl) ?_
  refine lv_aload_n hx hb d_L_get_1 rfl (lv_at hl 0 rfl) ?_
  obtain ⟨qp1, ep2⟩ := List.getElem?_of_mem (show ((a, .inr (6, [.ref eA, .int (nI n), .int mc])) : Nat × va_E) ∈ ws from m1)
  refine gF (v := .int (nI n)) hx hb hown hE hK hP qp1 ep2 rfl layL 1 (by decide) w657 rfl d_L_get_2 ?_
  have hPc := hP.sub (ws' := []) [] rfl
  have hDc := hD.sub (ws' := []) [] (by decide) rfl
  refine jpI (rnS (As := [.int (nI i), .int (nI n)]) (rest := []) hx hb hml hown hE hK (hN _ _ hS) hPc hDc (v_objIndex l D dA H.size i n (show i < n from by omega) (show n ≤ 65536 from by omega)) w1450 w1448 w1451 w1449 rfl rfl ⟨⟨by decide, by decide⟩, rfl⟩ ⟨(Nat.le_of_ble_eq_true rfl), (Nat.le_of_ble_eq_true rfl)⟩ rfl hl.1 rfl (Nat.le_of_ble_eq_true rfl) d_L_get_5 ⟨(Nat.le_of_ble_eq_true rfl), (Nat.le_of_ble_eq_true rfl)⟩) hP hD hS hA (fun r3 u9 H locs hp9 hP hD hS => ?_)
  have hP : va_P D vwCl (ws) H := hP
  have hD : va_D A (ws) := hD
  replace hp9 : nI i = r3 := Eq.symm hp9
  subst hp9
  refine lv_pop hx hb d_L_get_8 rfl ?_
  refine lv_aload_n hx hb d_L_get_9 rfl (lv_at hl 0 rfl) ?_
  refine lv_iload_n hx hb d_L_get_10 rfl (lv_at hl 1 rfl) ?_
  obtain ⟨qp5, ep6⟩ := List.getElem?_of_mem (show ((a, .inr (6, [.ref eA, .int (nI n), .int mc])) : Nat × va_E) ∈ ws from m1)
  refine jkR (wr := []) (rnV (As := [.int (nI i)]) (rest := []) hx hb hml hown hE hK (hN _ _ hS) hP hD (v_LelementM l D dA H.size ws a n WL i hls (show i < n from by omega)) (q0 := qp5) ep6 rfl w1453 w1452 w1454 w1455 w680 rfl rfl ⟨⟨by decide, by decide⟩, rfl⟩ ⟨(Nat.le_of_ble_eq_true rfl), (Nat.le_of_ble_eq_true rfl)⟩ rfl hl.1 rfl (Nat.le_of_ble_eq_true rfl) d_L_get_11 ⟨(Nat.le_of_ble_eq_true rfl), (Nat.le_of_ble_eq_true rfl)⟩) hP hD hS hA (fun u8 r7 H locs hp9 hP hD hS => ?_)
  have hP : va_P D vwCl (ws) H := hP
  have hD : va_D A (ws) := hD
  obtain ⟨f_w_9, f_lw_10⟩ := hp9
  exact rkR hx hb hr (Or.inl ⟨_, rfl⟩) hlk hS () ⟨f_w_9, f_lw_10⟩ hP hD (Nat.le_of_ble_eq_true rfl) (Nat.le_of_ble_eq_true rfl) d_L_get_14
theorem d_E_holds_0 : decode prog_10_method_6_code 0 = .ok (.iload_n 0, 1) := by decide +kernel
theorem d_E_holds_1 : decode prog_10_method_6_code 1 = .ok (.lookupswitch 61 #[(61, 35), (260, 41), (261, 55)], 35) := by decide +kernel
theorem d_E_holds_36 : decode prog_10_method_6_code 36 = .ok (.aload_n 1, 1) := by decide +kernel
theorem d_E_holds_37 : decode prog_10_method_6_code 37 = .ok (.aload_n 2, 1) := by decide +kernel
theorem d_E_holds_38 : decode prog_10_method_6_code 38 = .ok (.invokevirtual 47, 3) := by decide +kernel
theorem d_E_holds_41 : decode prog_10_method_6_code 41 = .ok (.ireturn, 1) := by decide +kernel
theorem w1477 : Cond.methodLink "SeriesVault$Step" 47 ⟨"SeriesVault$Word", "same", "(LSeriesVault$Word;)Z"⟩ ∈ aW := aw_of (tb_7 (List.mem_of_getElem? (i := 101) rfl)) rfl
set_option maxHeartbeats 4000000 in
set_option maxRecDepth 100000 in
theorem v_Eholds_61 (l : Launch) (D : va_G) (dA : Nat → ClassId) (sz : Nat) (ws : va_W) (wa : Nat) (wb : Nat) (L : List Int32) (M : List Int32) (hwwa : isWo dA ws wa L) (hlwa : L.length ≤ 65536) (hwwb : isWo dA ws wb M) (hlwb : M.length ≤ 65536) : Met l ⟨"SeriesVault$Step", "holds", "(ILSeriesVault$Word;LSeriesVault$Word;)Z"⟩ [Cond.code ⟨"SeriesVault$Step", "holds", "(ILSeriesVault$Word;LSeriesVault$Word;)Z"⟩ prog_10_method_6_code 3 (some FieldType.boolean)] { frames := 2, cells := 0, slots := 0, locals := 22 } (pC D dA [.int 61, .ref wa, .ref wb] (ws) sz) (va_Qi (fun (r9 : Int32) (u9 : Unit) => r9 = bI (hoB 61 L M)) (fun (u9 : Unit) t9 => bW D (va_A (ws) sz) (ws) t9) (va_A (ws) sz)) 0 0 (va_A (ws) sz) := by
  refine mkC (y := ⟨"SeriesVault$Step", "holds", "(ILSeriesVault$Word;LSeriesVault$Word;)Z"⟩) (cc := prog_10_method_6_code) (maxL := 3) (av := [.int 61, .ref wa, .ref wb]) (ws := ws) (sz := sz) (Qc := fun A => va_Qi (fun (r9 : Int32) (u9 : Unit) => r9 = bI (hoB 61 L M)) (fun (u9 : Unit) t9 => bW D A (ws) t9) A) (by decide) (Nat.le_of_ble_eq_true rfl) ?_
  intro A p e s m below meth c ls hsz hB
  obtain ⟨hx, hb, hr, hml, hown, hin, hlk, hE, hK, hP, hD, hS, hA, hN, hl⟩ := hB
  have hown : s.vm.findClass "SeriesVault$Step" = some m.cls := hown
  have hl : lv_has ls 3 [(0, .int 61), (1, .ref wa), (2, .ref wb)] := hl
  obtain ⟨H, hH⟩ : ∃ z, z = s.heap := ⟨_, rfl⟩
  have hP : va_P D vwCl (ws) H := by rw [hH]; exact hP
  have hS : va_S A s.heap H [] := by rw [hH]; exact hS
  rw [← hH]
  have hca := hwwa
  have hcb := hwwb
  obtain ⟨b_wa, f_wa, m1wa, m2wa, -⟩ := hca
  obtain ⟨b_wb, f_wb, m1wb, m2wb, -⟩ := hcb
  refine lv_iload_n hx hb d_E_holds_0 rfl (lv_at hl 0 rfl) ?_
  refine lv_lookup (x := 61) (off := 35) (tgt := 36) hx hb d_E_holds_1 (by decide) (by decide) rfl ?_
  refine lv_aload_n hx hb d_E_holds_36 rfl (lv_at hl 1 rfl) ?_
  refine lv_aload_n hx hb d_E_holds_37 rfl (lv_at hl 2 rfl) ?_
  obtain ⟨qp1, ep2⟩ := List.getElem?_of_mem (show ((wa, .inr (10, [.ref b_wa])) : Nat × va_E) ∈ ws from m1wa)
  refine jkI (wr := []) (rnV (As := [.ref wb]) (rest := []) hx hb hml hown hE hK (hN _ _ hS) hP hD (v_Wsame l D dA H.size ws wa L wb M hwwa hlwa hwwb hlwb) (q0 := qp1) ep2 rfl w1282 w1477 w1283 w1284 w1281 rfl rfl ⟨⟨by decide, by decide⟩, rfl⟩ ⟨(Nat.le_of_ble_eq_true rfl), (Nat.le_of_ble_eq_true rfl)⟩ rfl hl.1 rfl (Nat.le_of_ble_eq_true rfl) d_E_holds_38 ⟨(Nat.le_of_ble_eq_true rfl), (Nat.le_of_ble_eq_true rfl)⟩) hP hD hS hA (fun r3 u4 H locs hp9 hP hD hS => ?_)
  have hP : va_P D vwCl (ws) H := hP
  have hD : va_D A (ws) := hD
  replace hp9 : bI (sameW L M) = r3 := Eq.symm hp9
  subst hp9
  exact rfZ hx hb hr (bI_nar (sameW L M)) hlk hS () rfl hP hD (Nat.le_of_ble_eq_true rfl) (Nat.le_of_ble_eq_true rfl) d_E_holds_41
theorem d_E_holds_42 : decode prog_10_method_6_code 42 = .ok (.aload_n 1, 1) := by decide +kernel
theorem d_E_holds_43 : decode prog_10_method_6_code 43 = .ok (.aload_n 2, 1) := by decide +kernel
theorem d_E_holds_44 : decode prog_10_method_6_code 44 = .ok (.invokevirtual 47, 3) := by decide +kernel
theorem d_E_holds_47 : decode prog_10_method_6_code 47 = .ok (.ifCond .ne 7, 3) := by decide +kernel
theorem d_E_holds_54 : decode prog_10_method_6_code 54 = .ok (.iconst 0, 1) := by decide +kernel
theorem d_E_holds_55 : decode prog_10_method_6_code 55 = .ok (.ireturn, 1) := by decide +kernel
theorem d_E_holds_50 : decode prog_10_method_6_code 50 = .ok (.iconst 1, 1) := by decide +kernel
theorem d_E_holds_51 : decode prog_10_method_6_code 51 = .ok (.goto 4, 3) := by decide +kernel
set_option maxHeartbeats 4000000 in
set_option maxRecDepth 100000 in
theorem v_Eholds_260 (l : Launch) (D : va_G) (dA : Nat → ClassId) (sz : Nat) (ws : va_W) (wa : Nat) (wb : Nat) (L : List Int32) (M : List Int32) (hwwa : isWo dA ws wa L) (hlwa : L.length ≤ 65536) (hwwb : isWo dA ws wb M) (hlwb : M.length ≤ 65536) : Met l ⟨"SeriesVault$Step", "holds", "(ILSeriesVault$Word;LSeriesVault$Word;)Z"⟩ [Cond.code ⟨"SeriesVault$Step", "holds", "(ILSeriesVault$Word;LSeriesVault$Word;)Z"⟩ prog_10_method_6_code 3 (some FieldType.boolean)] { frames := 2, cells := 0, slots := 0, locals := 22 } (pC D dA [.int 260, .ref wa, .ref wb] (ws) sz) (va_Qi (fun (r9 : Int32) (u9 : Unit) => r9 = bI (hoB 260 L M)) (fun (u9 : Unit) t9 => bW D (va_A (ws) sz) (ws) t9) (va_A (ws) sz)) 0 0 (va_A (ws) sz) := by
  refine mkC (y := ⟨"SeriesVault$Step", "holds", "(ILSeriesVault$Word;LSeriesVault$Word;)Z"⟩) (cc := prog_10_method_6_code) (maxL := 3) (av := [.int 260, .ref wa, .ref wb]) (ws := ws) (sz := sz) (Qc := fun A => va_Qi (fun (r9 : Int32) (u9 : Unit) => r9 = bI (hoB 260 L M)) (fun (u9 : Unit) t9 => bW D A (ws) t9) A) (by decide) (Nat.le_of_ble_eq_true rfl) ?_
  intro A p e s m below meth c ls hsz hB
  obtain ⟨hx, hb, hr, hml, hown, hin, hlk, hE, hK, hP, hD, hS, hA, hN, hl⟩ := hB
  have hown : s.vm.findClass "SeriesVault$Step" = some m.cls := hown
  have hl : lv_has ls 3 [(0, .int 260), (1, .ref wa), (2, .ref wb)] := hl
  obtain ⟨H, hH⟩ : ∃ z, z = s.heap := ⟨_, rfl⟩
  have hP : va_P D vwCl (ws) H := by rw [hH]; exact hP
  have hS : va_S A s.heap H [] := by rw [hH]; exact hS
  rw [← hH]
  have hca := hwwa
  have hcb := hwwb
  obtain ⟨b_wa, f_wa, m1wa, m2wa, -⟩ := hca
  obtain ⟨b_wb, f_wb, m1wb, m2wb, -⟩ := hcb
  refine lv_iload_n hx hb d_E_holds_0 rfl (lv_at hl 0 rfl) ?_
  refine lv_lookup (x := 260) (off := 41) (tgt := 42) hx hb d_E_holds_1 (by decide) (by decide) rfl ?_
  refine lv_aload_n hx hb d_E_holds_42 rfl (lv_at hl 1 rfl) ?_
  refine lv_aload_n hx hb d_E_holds_43 rfl (lv_at hl 2 rfl) ?_
  obtain ⟨qp1, ep2⟩ := List.getElem?_of_mem (show ((wa, .inr (10, [.ref b_wa])) : Nat × va_E) ∈ ws from m1wa)
  refine jkI (wr := []) (rnV (As := [.ref wb]) (rest := []) hx hb hml hown hE hK (hN _ _ hS) hP hD (v_Wsame l D dA H.size ws wa L wb M hwwa hlwa hwwb hlwb) (q0 := qp1) ep2 rfl w1282 w1477 w1283 w1284 w1281 rfl rfl ⟨⟨by decide, by decide⟩, rfl⟩ ⟨(Nat.le_of_ble_eq_true rfl), (Nat.le_of_ble_eq_true rfl)⟩ rfl hl.1 rfl (Nat.le_of_ble_eq_true rfl) d_E_holds_44 ⟨(Nat.le_of_ble_eq_true rfl), (Nat.le_of_ble_eq_true rfl)⟩) hP hD hS hA (fun r3 u4 H locs hp9 hP hD hS => ?_)
  have hP : va_P D vwCl (ws) H := hP
  have hD : va_D A (ws) := hD
  replace hp9 : bI (sameW L M) = r3 := Eq.symm hp9
  subst hp9
  refine lv_if_ne hx hb d_E_holds_47 (tgt := 54) rfl (fun g5 => ?_) (fun g5 => ?_)
  · have g5 := bI_n0 g5
    refine lv_iconst (v := 0) hx hb d_E_holds_54 (by decide) ?_
    exact rfZ hx hb hr (bI_nar false) hlk hS () (by show _ = bI (!_); rw [g5]; rfl) hP hD (Nat.le_of_ble_eq_true rfl) (Nat.le_of_ble_eq_true rfl) d_E_holds_55
  · have g5 := bI_0 g5
    refine lv_iconst (v := 1) hx hb d_E_holds_50 (by decide) ?_
    refine lv_goto hx hb d_E_holds_51 (tgt := 55) rfl ?_
    exact rfZ hx hb hr (bI_nar true) hlk hS () (by show _ = bI (!_); rw [g5]; rfl) hP hD (Nat.le_of_ble_eq_true rfl) (Nat.le_of_ble_eq_true rfl) d_E_holds_55
theorem d_E_holds_56 : decode prog_10_method_6_code 56 = .ok (.aload_n 1, 1) := by decide +kernel
theorem d_E_holds_57 : decode prog_10_method_6_code 57 = .ok (.aload_n 2, 1) := by decide +kernel
theorem d_E_holds_58 : decode prog_10_method_6_code 58 = .ok (.invokevirtual 79, 3) := by decide +kernel
theorem d_E_holds_61 : decode prog_10_method_6_code 61 = .ok (.ireturn, 1) := by decide +kernel
theorem w1478 : Cond.methodLink "SeriesVault$Step" 79 ⟨"SeriesVault$Word", "beginsWith", "(LSeriesVault$Word;)Z"⟩ ∈ aW := aw_of (tb_7 (List.mem_of_getElem? (i := 205) rfl)) rfl
theorem w1479 : Cond.code ⟨"SeriesVault$Word", "beginsWith", "(LSeriesVault$Word;)Z"⟩ prog_12_method_5_code 3 (some FieldType.boolean) ∈ aW := aw_of (tb_7 (List.mem_of_getElem? (i := 208) rfl)) rfl
theorem w1480 : Cond.instanceMethod ⟨"SeriesVault$Word", "beginsWith", "(LSeriesVault$Word;)Z"⟩ ∈ aW := aw_of (tb_7 (List.mem_of_getElem? (i := 206) rfl)) rfl
theorem w1481 : Cond.selects "SeriesVault$Word" ⟨"SeriesVault$Word", "beginsWith", "(LSeriesVault$Word;)Z"⟩ ⟨"SeriesVault$Word", "beginsWith", "(LSeriesVault$Word;)Z"⟩ ∈ aW := aw_of (tb_7 (List.mem_of_getElem? (i := 207) rfl)) rfl
set_option maxHeartbeats 4000000 in
set_option maxRecDepth 100000 in
theorem v_Eholds_261 (l : Launch) (D : va_G) (dA : Nat → ClassId) (sz : Nat) (ws : va_W) (wa : Nat) (wb : Nat) (L : List Int32) (M : List Int32) (hwwa : isWo dA ws wa L) (hlwa : L.length ≤ 65536) (hwwb : isWo dA ws wb M) (hlwb : M.length ≤ 65536) : Met l ⟨"SeriesVault$Step", "holds", "(ILSeriesVault$Word;LSeriesVault$Word;)Z"⟩ [Cond.code ⟨"SeriesVault$Step", "holds", "(ILSeriesVault$Word;LSeriesVault$Word;)Z"⟩ prog_10_method_6_code 3 (some FieldType.boolean)] { frames := 2, cells := 0, slots := 0, locals := 22 } (pC D dA [.int 261, .ref wa, .ref wb] (ws) sz) (va_Qi (fun (r9 : Int32) (u9 : Unit) => r9 = bI (hoB 261 L M)) (fun (u9 : Unit) t9 => bW D (va_A (ws) sz) (ws) t9) (va_A (ws) sz)) 0 0 (va_A (ws) sz) := by
  refine mkC (y := ⟨"SeriesVault$Step", "holds", "(ILSeriesVault$Word;LSeriesVault$Word;)Z"⟩) (cc := prog_10_method_6_code) (maxL := 3) (av := [.int 261, .ref wa, .ref wb]) (ws := ws) (sz := sz) (Qc := fun A => va_Qi (fun (r9 : Int32) (u9 : Unit) => r9 = bI (hoB 261 L M)) (fun (u9 : Unit) t9 => bW D A (ws) t9) A) (by decide) (Nat.le_of_ble_eq_true rfl) ?_
  intro A p e s m below meth c ls hsz hB
  obtain ⟨hx, hb, hr, hml, hown, hin, hlk, hE, hK, hP, hD, hS, hA, hN, hl⟩ := hB
  have hown : s.vm.findClass "SeriesVault$Step" = some m.cls := hown
  have hl : lv_has ls 3 [(0, .int 261), (1, .ref wa), (2, .ref wb)] := hl
  obtain ⟨H, hH⟩ : ∃ z, z = s.heap := ⟨_, rfl⟩
  have hP : va_P D vwCl (ws) H := by rw [hH]; exact hP
  have hS : va_S A s.heap H [] := by rw [hH]; exact hS
  rw [← hH]
  have hca := hwwa
  have hcb := hwwb
  obtain ⟨b_wa, f_wa, m1wa, m2wa, -⟩ := hca
  obtain ⟨b_wb, f_wb, m1wb, m2wb, -⟩ := hcb
  refine lv_iload_n hx hb d_E_holds_0 rfl (lv_at hl 0 rfl) ?_
  refine lv_lookup (x := 261) (off := 55) (tgt := 56) hx hb d_E_holds_1 (by decide) (by decide) rfl ?_
  refine lv_aload_n hx hb d_E_holds_56 rfl (lv_at hl 1 rfl) ?_
  refine lv_aload_n hx hb d_E_holds_57 rfl (lv_at hl 2 rfl) ?_
  obtain ⟨qp1, ep2⟩ := List.getElem?_of_mem (show ((wa, .inr (10, [.ref b_wa])) : Nat × va_E) ∈ ws from m1wa)
  refine jkI (wr := []) (rnV (As := [.ref wb]) (rest := []) hx hb hml hown hE hK (hN _ _ hS) hP hD (v_Wbegs l D dA H.size ws wa L wb M hwwa hlwa hwwb hlwb) (q0 := qp1) ep2 rfl w1479 w1478 w1480 w1481 w1281 rfl rfl ⟨⟨by decide, by decide⟩, rfl⟩ ⟨(Nat.le_of_ble_eq_true rfl), (Nat.le_of_ble_eq_true rfl)⟩ rfl hl.1 rfl (Nat.le_of_ble_eq_true rfl) d_E_holds_58 ⟨(Nat.le_of_ble_eq_true rfl), (Nat.le_of_ble_eq_true rfl)⟩) hP hD hS hA (fun r3 u4 H locs hp9 hP hD hS => ?_)
  have hP : va_P D vwCl (ws) H := hP
  have hD : va_D A (ws) := hD
  replace hp9 : bI (begW L M) = r3 := Eq.symm hp9
  subst hp9
  exact rfZ hx hb hr (bI_nar (begW L M)) hlk hS () rfl hP hD (Nat.le_of_ble_eq_true rfl) (Nat.le_of_ble_eq_true rfl) d_E_holds_61
theorem d_E_holds_62 : decode prog_10_method_6_code 62 = .ok (.aload_n 1, 1) := by decide +kernel
theorem d_E_holds_63 : decode prog_10_method_6_code 63 = .ok (.aload_n 2, 1) := by decide +kernel
theorem d_E_holds_64 : decode prog_10_method_6_code 64 = .ok (.invokevirtual 79, 3) := by decide +kernel
theorem d_E_holds_67 : decode prog_10_method_6_code 67 = .ok (.ifCond .ne 7, 3) := by decide +kernel
theorem d_E_holds_74 : decode prog_10_method_6_code 74 = .ok (.iconst 0, 1) := by decide +kernel
theorem d_E_holds_75 : decode prog_10_method_6_code 75 = .ok (.ireturn, 1) := by decide +kernel
theorem d_E_holds_70 : decode prog_10_method_6_code 70 = .ok (.iconst 1, 1) := by decide +kernel
theorem d_E_holds_71 : decode prog_10_method_6_code 71 = .ok (.goto 4, 3) := by decide +kernel
set_option maxHeartbeats 4000000 in
set_option maxRecDepth 100000 in
theorem v_Eholds_262 (l : Launch) (D : va_G) (dA : Nat → ClassId) (sz : Nat) (ws : va_W) (wa : Nat) (wb : Nat) (L : List Int32) (M : List Int32) (hwwa : isWo dA ws wa L) (hlwa : L.length ≤ 65536) (hwwb : isWo dA ws wb M) (hlwb : M.length ≤ 65536) : Met l ⟨"SeriesVault$Step", "holds", "(ILSeriesVault$Word;LSeriesVault$Word;)Z"⟩ [Cond.code ⟨"SeriesVault$Step", "holds", "(ILSeriesVault$Word;LSeriesVault$Word;)Z"⟩ prog_10_method_6_code 3 (some FieldType.boolean)] { frames := 2, cells := 0, slots := 0, locals := 22 } (pC D dA [.int 262, .ref wa, .ref wb] (ws) sz) (va_Qi (fun (r9 : Int32) (u9 : Unit) => r9 = bI (hoB 262 L M)) (fun (u9 : Unit) t9 => bW D (va_A (ws) sz) (ws) t9) (va_A (ws) sz)) 0 0 (va_A (ws) sz) := by
  refine mkC (y := ⟨"SeriesVault$Step", "holds", "(ILSeriesVault$Word;LSeriesVault$Word;)Z"⟩) (cc := prog_10_method_6_code) (maxL := 3) (av := [.int 262, .ref wa, .ref wb]) (ws := ws) (sz := sz) (Qc := fun A => va_Qi (fun (r9 : Int32) (u9 : Unit) => r9 = bI (hoB 262 L M)) (fun (u9 : Unit) t9 => bW D A (ws) t9) A) (by decide) (Nat.le_of_ble_eq_true rfl) ?_
  intro A p e s m below meth c ls hsz hB
  obtain ⟨hx, hb, hr, hml, hown, hin, hlk, hE, hK, hP, hD, hS, hA, hN, hl⟩ := hB
  have hown : s.vm.findClass "SeriesVault$Step" = some m.cls := hown
  have hl : lv_has ls 3 [(0, .int 262), (1, .ref wa), (2, .ref wb)] := hl
  obtain ⟨H, hH⟩ : ∃ z, z = s.heap := ⟨_, rfl⟩
  have hP : va_P D vwCl (ws) H := by rw [hH]; exact hP
  have hS : va_S A s.heap H [] := by rw [hH]; exact hS
  rw [← hH]
  have hca := hwwa
  have hcb := hwwb
  obtain ⟨b_wa, f_wa, m1wa, m2wa, -⟩ := hca
  obtain ⟨b_wb, f_wb, m1wb, m2wb, -⟩ := hcb
  refine lv_iload_n hx hb d_E_holds_0 rfl (lv_at hl 0 rfl) ?_
  refine lv_lookup (x := 262) (off := 61) (tgt := 62) hx hb d_E_holds_1 (by decide) (by decide) rfl ?_
  refine lv_aload_n hx hb d_E_holds_62 rfl (lv_at hl 1 rfl) ?_
  refine lv_aload_n hx hb d_E_holds_63 rfl (lv_at hl 2 rfl) ?_
  obtain ⟨qp1, ep2⟩ := List.getElem?_of_mem (show ((wa, .inr (10, [.ref b_wa])) : Nat × va_E) ∈ ws from m1wa)
  refine jkI (wr := []) (rnV (As := [.ref wb]) (rest := []) hx hb hml hown hE hK (hN _ _ hS) hP hD (v_Wbegs l D dA H.size ws wa L wb M hwwa hlwa hwwb hlwb) (q0 := qp1) ep2 rfl w1479 w1478 w1480 w1481 w1281 rfl rfl ⟨⟨by decide, by decide⟩, rfl⟩ ⟨(Nat.le_of_ble_eq_true rfl), (Nat.le_of_ble_eq_true rfl)⟩ rfl hl.1 rfl (Nat.le_of_ble_eq_true rfl) d_E_holds_64 ⟨(Nat.le_of_ble_eq_true rfl), (Nat.le_of_ble_eq_true rfl)⟩) hP hD hS hA (fun r3 u4 H locs hp9 hP hD hS => ?_)
  have hP : va_P D vwCl (ws) H := hP
  have hD : va_D A (ws) := hD
  replace hp9 : bI (begW L M) = r3 := Eq.symm hp9
  subst hp9
  refine lv_if_ne hx hb d_E_holds_67 (tgt := 74) rfl (fun g5 => ?_) (fun g5 => ?_)
  · have g5 := bI_n0 g5
    refine lv_iconst (v := 0) hx hb d_E_holds_74 (by decide) ?_
    exact rfZ hx hb hr (bI_nar false) hlk hS () (by show _ = bI (!_); rw [g5]; rfl) hP hD (Nat.le_of_ble_eq_true rfl) (Nat.le_of_ble_eq_true rfl) d_E_holds_75
  · have g5 := bI_0 g5
    refine lv_iconst (v := 1) hx hb d_E_holds_70 (by decide) ?_
    refine lv_goto hx hb d_E_holds_71 (tgt := 75) rfl ?_
    exact rfZ hx hb hr (bI_nar true) hlk hS () (by show _ = bI (!_); rw [g5]; rfl) hP hD (Nat.le_of_ble_eq_true rfl) (Nat.le_of_ble_eq_true rfl) d_E_holds_75
theorem v_Eholds (l : Launch) (D : va_G) (dA : Nat → ClassId) (sz : Nat) (ws : va_W) (z : Int32) (wa : Nat) (wb : Nat) (L : List Int32) (M : List Int32) (hwwa : isWo dA ws wa L) (hlwa : L.length ≤ 65536) (hwwb : isWo dA ws wb M) (hlwb : M.length ≤ 65536) (hkd : isKd z) : Met l ⟨"SeriesVault$Step", "holds", "(ILSeriesVault$Word;LSeriesVault$Word;)Z"⟩ [Cond.code ⟨"SeriesVault$Step", "holds", "(ILSeriesVault$Word;LSeriesVault$Word;)Z"⟩ prog_10_method_6_code 3 (some FieldType.boolean)] { frames := 2, cells := 0, slots := 0, locals := 22 } (pC D dA [.int z, .ref wa, .ref wb] (ws) sz) (va_Qi (fun (r9 : Int32) (u9 : Unit) => r9 = bI (hoB z L M)) (fun (u9 : Unit) t9 => bW D (va_A (ws) sz) (ws) t9) (va_A (ws) sz)) 0 0 (va_A (ws) sz) := by
  rcases hkd with h | h | h | h <;> subst h
  · exact v_Eholds_61 l D dA sz ws wa wb L M hwwa hlwa hwwb hlwb
  · exact v_Eholds_260 l D dA sz ws wa wb L M hwwa hlwa hwwb hlwb
  · exact v_Eholds_261 l D dA sz ws wa wb L M hwwa hlwa hwwb hlwb
  · exact v_Eholds_262 l D dA sz ws wa wb L M hwwa hlwa hwwb hlwb
