section
/-- the class as it is made -/
def x9 (dA : Nat → ClassId) (e0 tp : Nat) (jA hA gA bA : Nat → Nat) (qt : Nat) (ad : Nat → Nat) (zq : Nat) (ta : Nat → Nat) (cA : Nat) : VS := (((tp, 256, (fun _ => 0), 0, 0), (0, 64, true, ((-1)), 0), (false, jA, 32, (fun _ => 0), (fun _ => 0)), ((fun _ => 0), (fun _ => 0), (fun _ => 0), (fun _ => 0), 0), (0, 0, 8, 0, 0)), ((false, hA, 32, (fun _ => 0), (fun _ => 0)), ((fun _ => 0), 0, gA, 32, (fun _ => 0)), ((fun _ => 0), (fun _ => 0), 0, (fun _ => none), 0), ((fun _ => 0), (fun _ => 0), (fun _ => 0), (fun _ => 0), 0), (0, 0, (fun _ => 0), 0, (fun _ => none))), ((0, (fun _ => 0), (fun _ => 0), (fun _ => 0), (fun _ => 0)), (0, 0, 0, (fun _ => 0), 0), ((fun _ => none), (fun _ => 0), (fun _ => 0), (fun _ => 0), 0), (0, 0, qt, 0, 0), (0, 0, 0, 0, 0)), ((0, (fun _ => 0), (fun _ => false), (fun _ => 0), bA), (64, (fun _ => 0), (fun _ => 0), 0, 0), (0, (LqW dA (ad 23) (0, 0, e0, 0, fun _ => none) ++ (LiW dA (fun _ => ad 25) (1, 0 + 1, zq, 10, va_up (fun _ => none) 0 (some (ta 0))) ++ (tbs dA (fun _ => ta) (fun _ => tb0 cA) 1 ++ []))), [])))
/-- the reference as it is made -/
def m9 : MS := (((0, (fun _ => 0), 0, 0), (0, 64, 8, true), (((-1)), 0, (fun _ => 0), (fun _ => 0)), (0, (fun _ => 0), 0, (fun _ => 0)), (0, (fun _ => 0), (fun _ => 0), (fun _ => 0))), (((fun _ => 0), (fun _ => 0), (fun _ => 0), 0), (0, 0, (fun _ => 0), (fun _ => 0)), (0, 0, 0, (fun _ => 0)), ((fun _ => 0), (fun _ => 0), (fun _ => 0), (fun _ => 0)), ((fun _ => 0), 0, 0, 0)), ((0, false, (fun _ => 0), 0), (0, 0, 0, 0), ((fun _ => 0), (fun _ => 0), (fun _ => 0), (fun _ => 0)), ((fun _ => 0), (fun _ => 0), (fun _ => false), 0), (false, 0, 0, 0)), ((0, (fun _ => 0), (fun _ => 0), (fun _ => 0)), ((fun _ => 0), (fun _ => false), (fun _ => 0), (fun _ => 0)), (0, 0, false, false), (0, 0, 0, (fun _ => 0)), ((fun _ => 0), (fun _ => 0), (fun _ => false))))
theorem d_SeriesVaultLaw_law_0 : decode code 0 = .ok (.new 8, 3) := by decide +kernel
theorem dfV : ∀ j, j < 18 → defaultValue (tyV j) = vp_V [.null, .int 0, .int 0, .int 0, .int 0, .int 0, .int 0, .int 0, .null, .null, .null, .null, .null, .null, .null, .null, .null, .int 0] j := by decide +kernel
theorem d_SeriesVaultLaw_law_3 : decode code 3 = .ok (.dup, 1) := by decide +kernel
theorem d_SeriesVaultLaw_law_4 : decode code 4 = .ok (.invokespecial 100, 3) := by decide +kernel
theorem d_SeriesVaultLaw_law_7 : decode code 7 = .ok (.astore_n 1, 1) := by decide +kernel
theorem d_SeriesVaultLaw_law_8 : decode code 8 = .ok (.new 101, 3) := by decide +kernel
theorem dfM : ∀ j, j < 79 → defaultValue (tyM j) = vp_V [.int 0, .null, .int 0, .int 0, .int 0, .int 0, .int 0, .int 0, .int 0, .int 0, .null, .null, .int 0, .null, .int 0, .null, .int 0, .null, .null, .null, .null, .null, .null, .int 0, .long 0, .long 0, .null, .null, .int 0, .int 0, .int 0, .null, .null, .null, .null, .null, .null, .int 0, .int 0, .int 0, .int 0, .int 0, .null, .int 0, .int 0, .int 0, .int 0, .long 0, .null, .null, .null, .null, .null, .null, .null, .int 0, .int 0, .long 0, .long 0, .int 0, .int 0, .null, .null, .null, .null, .null, .null, .null, .int 0, .int 0, .int 0, .int 0, .int 0, .int 0, .int 0, .null, .null, .null, .null] j := by decide +kernel
theorem d_SeriesVaultLaw_law_11 : decode code 11 = .ok (.dup, 1) := by decide +kernel
theorem d_SeriesVaultLaw_law_12 : decode code 12 = .ok (.invokespecial 103, 3) := by decide +kernel
theorem d_SeriesVaultLaw_law_15 : decode code 15 = .ok (.astore_n 2, 1) := by decide +kernel
theorem d_SeriesVaultLaw_law_16 : decode code 16 = .ok (.iconst 1, 1) := by decide +kernel
theorem d_SeriesVaultLaw_law_17 : decode code 17 = .ok (.newarray .long, 2) := by decide +kernel
theorem d_SeriesVaultLaw_law_19 : decode code 19 = .ok (.astore_n 3, 1) := by decide +kernel
theorem d_SeriesVaultLaw_law_20 : decode code 20 = .ok (.iconst 0, 1) := by decide +kernel
theorem d_SeriesVaultLaw_law_21 : decode code 21 = .ok (.istore 4, 2) := by decide +kernel
theorem w1975 : Cond.classLink "SeriesVaultLaw" 8 "SeriesVault" ∈ aW := aw_of (tb_1 (List.mem_of_getElem? (i := 38) rfl)) rfl
theorem w1977 : Cond.methodLink "SeriesVaultLaw" 100 ⟨"SeriesVault", "<init>", "()V"⟩ ∈ aW := aw_of (tb_1 (List.mem_of_getElem? (i := 40) rfl)) rfl
theorem w1978 : Cond.code ⟨"SeriesVault", "<init>", "()V"⟩ prog_1_method_1_code 1 none ∈ aW := aw_of (tb_1 (List.mem_of_getElem? (i := 42) rfl)) rfl
theorem w1979 : Cond.instanceMethod ⟨"SeriesVault", "<init>", "()V"⟩ ∈ aW := aw_of (tb_1 (List.mem_of_getElem? (i := 41) rfl)) rfl
theorem w1980 : Cond.classLink "SeriesVaultLaw" 101 "SeriesVaultModel" ∈ aW := aw_of (tb_8 (List.mem_of_getElem? (i := 164) rfl)) rfl
theorem w1982 : Cond.methodLink "SeriesVaultLaw" 103 ⟨"SeriesVaultModel", "<init>", "()V"⟩ ∈ aW := aw_of (tb_8 (List.mem_of_getElem? (i := 166) rfl)) rfl
theorem w1983 : Cond.code ⟨"SeriesVaultModel", "<init>", "()V"⟩ prog_14_method_1_code 1 none ∈ aW := aw_of (tb_8 (List.mem_of_getElem? (i := 168) rfl)) rfl
theorem w1984 : Cond.instanceMethod ⟨"SeriesVaultModel", "<init>", "()V"⟩ ∈ aW := aw_of (tb_8 (List.mem_of_getElem? (i := 167) rfl)) rfl
set_option maxHeartbeats 4000000 in
set_option maxRecDepth 100000 in
theorem go9 {p : Program} {e : Env} {s : State} {m : MethodId} {below : List Frame} {meth : Method} {c : Code} (l : Launch) {b L : Nat} {xs : Nat → Int32} {D : va_G} {dA : Nat → ClassId} {e0 : Nat} {A : Nat → Prop} {ls : Array Slot} (hC : lS p l s m meth c b L xs D dA e0 A) (hl : lv_has ls 8 [(0, .ref b)]) (cont : ∀ (h mm o tp : Nat) (jA hA gA bA : Nat → Nat) (qt : Nat) (ad mad : Nat → Nat) (zq : Nat) (ta : Nat → Nat) (cA : Nat), At9 p l e s m below meth c b D dA A h ad mm mad o 23 0 (x9 dA e0 tp jA hA gA bA qt ad zq ta cA) m9 92 1177737) : W p l e room_1 s m #[Value.ref b] below meth c s.heap [] 0 0 (lw_Z below #[Value.ref b] s) (F0 m 0 ls []) := by
  have hC0 := hC
  obtain ⟨hx, hb, hr, hml, hown, hlk, hE, hK, hA, hN, hZ, hT, hX, hbl, hbA, hnew, htr⟩ := hC
  have hS : va_S A s.heap s.heap [] := va_S.rf
  have hP : va_P D vwCl [] s.heap := fun k q h => nomatch h
  have hD : va_D A [] := ⟨fun i j p q h => (nomatch h), fun k q h => (nomatch h)⟩
  refine nO hx hb hown hE hK hP hD hS hA (ci := 0) rfl layV tyV tokV w1975 w854 w277 (fs := [.null, .int 0, .int 0, .int 0, .int 0, .int 0, .int 0, .int 0, .null, .null, .null, .null, .null, .null, .null, .null, .null, .int 0]) dfV (Nat.le_of_ble_eq_true rfl) (Nat.le_of_ble_eq_true rfl) d_SeriesVaultLaw_law_0 (fun q1 H hP hD hS => ?_)
  have hP : va_P D vwCl [(q1, .inr (0, [.null, .int 0, .int 0, .int 0, .int 0, .int 0, .int 0, .int 0, .null, .null, .null, .null, .null, .null, .null, .null, .null, .int 0]))] H := hP
  have hD : va_D A [(q1, .inr (0, [.null, .int 0, .int 0, .int 0, .int 0, .int 0, .int 0, .int 0, .null, .null, .null, .null, .null, .null, .null, .null, .null, .int 0]))] := hD
  refine lv_dup hx hb d_SeriesVaultLaw_law_3 rfl ?_
  have hPc := hP.sub (ws' := [(q1, .inr (0, [.null, .int 0, .int 0, .int 0, .int 0, .int 0, .int 0, .int 0, .null, .null, .null, .null, .null, .null, .null, .null, .null, .int 0]))]) [0] rfl
  have hDc := hD.sub (ws' := [(q1, .inr (0, [.null, .int 0, .int 0, .int 0, .int 0, .int 0, .int 0, .int 0, .null, .null, .null, .null, .null, .null, .null, .null, .null, .int 0]))]) [0] (by decide) rfl
  refine jnV (rnIz (As := []) (rest := [.ref q1]) hx hb hml hown hE hK hZ hT hS (hN _ _ hS) hPc hDc (c_V_init2 l D dA H.size e0 q1) w1978 w1977 w1979 w277 rfl rfl rfl ⟨⟨by decide, by decide⟩, rfl⟩ ⟨(Nat.le_of_ble_eq_true rfl), (Nat.le_of_ble_eq_true rfl)⟩ rfl hl.1 rfl (Nat.le_of_ble_eq_true rfl) d_SeriesVaultLaw_law_4 ⟨(Nat.le_of_ble_eq_true rfl), (Nat.le_of_ble_eq_true rfl)⟩) hP hD hS hA [0] [] (wr := []) rfl rfl (by decide) (by decide) (fun u9 H locs hp9 hP hD hS => ?_)
  obtain ⟨q2, q3, q4, q5, q6, q7, q8, q9, q10, q11, q12, q13, q14, q15, q16, q17, q18, q19, q20, q21, q22, q23, q24, q25, q26, q27, q28, q29, q30, q31, q32, q33, q34, q35, q36, q37, q38, q39, q40, q41, q42, q43, q44, q45, q46, q47, q48, q49, q50, q51, q52⟩ := u9
  have hP : va_P D vwCl [(q1, .inr (0, [.ref q2, .int 0, .int 0, .int 0, .int 64, .int 1, .int (-1), .int 0, .ref q3, .ref q4, .ref q5, .ref q6, .ref q7, .ref q8, .ref q9, .ref q10, .ref q11, .int 0])), (q2, .inl (dA 0, 256, .inl (fun _ => 0))), (q12, .inl (dA 1, 32, .inl (fun _ => 0))), (q13, .inl (dA 1, 32, .inl (fun _ => 0))), (q14, .inl (dA 1, 32, .inl (fun _ => 0))), (q15, .inl (dA 1, 32, .inl (fun _ => 0))), (q16, .inl (dA 2, 32, .inr (.inl (fun _ => 0)))), (q17, .inl (dA 2, 32, .inr (.inl (fun _ => 0)))), (q18, .inl (dA 1, 32, .inl (fun _ => 0))), (q19, .inl (dA 2, 32, .inr (.inl (fun _ => 0)))), (q20, .inl (dA 2, 32, .inr (.inl (fun _ => 0)))), (q5, .inr (2, [.ref q21, .ref q22, .ref q23, .int 0])), (q21, .inl (dA 1, 32, .inl (fun _ => 0))), (q22, .inl (dA 2, 32, .inr (.inl (fun _ => 0)))), (q23, .inl (dA 2, 32, .inr (.inl (fun _ => 0)))), (q24, .inl (dA 4, 32, .inr (.inr (.inr (.inr (fun _ => none)))))), (q25, .inl (dA 1, 64, .inl (fun _ => 0))), (q26, .inl (dA 2, 64, .inr (.inl (fun _ => 0)))), (q27, .inl (dA 2, 64, .inr (.inl (fun _ => 0)))), (q28, .inl (dA 1, 64, .inl (fun _ => 0))), (q29, .inl (dA 2, 256, .inr (.inl (fun _ => 0)))), (q30, .inl (dA 4, 32, .inr (.inr (.inr (.inr (fun _ => none)))))), (q31, .inl (dA 1, 64, .inl (fun _ => 0))), (q32, .inl (dA 2, 64, .inr (.inl (fun _ => 0)))), (q33, .inl (dA 2, 64, .inr (.inl (fun _ => 0)))), (q34, .inl (dA 1, 64, .inl (fun _ => 0))), (q35, .inl (dA 2, 256, .inr (.inl (fun _ => 0)))), (q8, .inl (dA 5, 256, .inr (.inr (.inr (.inr (fun _ => none)))))), (q9, .inr (4, [.ref q36, .ref q37, .ref q38, .int 0, .int 0, .int 0])), (q36, .inl (dA 1, 6, .inl (fun _ => 0))), (q37, .inl (dA 1, 6, .inl (fun _ => 0))), (q38, .inl (dA 1, 6, .inl (fun _ => 0))), (q10, .inr (5, [.ref q39, .int 0, .int 0, .int 0, .int 0, .long 0, .int 0, .int 0, .ref q40])), (q39, .inl (dA 0, 0, .inl (fun _ => 0))), (q40, .inr (6, [.ref e0, .int 0, .int 0])), (q11, .inr (7, [.ref q41, .int 0, .ref q42, .ref q43, .ref q44, .ref q45, .ref q46, .long 0, .long 0, .int 0])), (q42, .inl (dA 1, 256, .inl (fun _ => 0))), (q43, .inl (dA 3, 256, .inl (fun _ => 0))), (q44, .inl (dA 2, 256, .inr (.inl (fun _ => 0)))), (q45, .inl (dA 2, 64, .inr (.inl (fun _ => 0)))), (q46, .inl (dA 1, 64, .inl (fun _ => 0))), (q47, .inl (dA 6, 6, .inr (.inr (.inr (.inr (fun _ => none)))))), (q48, .inl (dA 5, 256, .inr (.inr (.inr (.inr (fun _ => none)))))), (q49, .inl (dA 2, 256, .inr (.inl (fun _ => 0)))), (q50, .inl (dA 2, 64, .inr (.inl (fun _ => 0)))), (q41, .inr (6, [.ref q51, .int 1, .int (0 + 1)])), (q52, .inr (8, [.ref q47, .int 0, .int 0, .int 0, .ref q48, .ref q49, .ref q50])), (q51, .inl (dA 7, 10, .inr (.inr (.inr (.inr (va_up (fun _ => none) 0 (some q52))))))), (q3, .inr (1, [.ref q12, .ref q13, .ref q14, .ref q15, .ref q16, .ref q17, .int 0, .int 0, .int 0, .int 8, .int 0, .int 0, .int 0])), (q4, .inr (2, [.ref q18, .ref q19, .ref q20, .int 0])), (q6, .inr (3, [.ref q24, .int 0, .ref q25, .ref q26, .ref q27, .ref q28, .int 0, .long 0, .int 0, .ref q29, .int 0])), (q7, .inr (3, [.ref q30, .int 0, .ref q31, .ref q32, .ref q33, .ref q34, .int 0, .long 0, .int 0, .ref q35, .int 0]))] H := hP
  have hD : va_D A [(q1, .inr (0, [.ref q2, .int 0, .int 0, .int 0, .int 64, .int 1, .int (-1), .int 0, .ref q3, .ref q4, .ref q5, .ref q6, .ref q7, .ref q8, .ref q9, .ref q10, .ref q11, .int 0])), (q2, .inl (dA 0, 256, .inl (fun _ => 0))), (q12, .inl (dA 1, 32, .inl (fun _ => 0))), (q13, .inl (dA 1, 32, .inl (fun _ => 0))), (q14, .inl (dA 1, 32, .inl (fun _ => 0))), (q15, .inl (dA 1, 32, .inl (fun _ => 0))), (q16, .inl (dA 2, 32, .inr (.inl (fun _ => 0)))), (q17, .inl (dA 2, 32, .inr (.inl (fun _ => 0)))), (q18, .inl (dA 1, 32, .inl (fun _ => 0))), (q19, .inl (dA 2, 32, .inr (.inl (fun _ => 0)))), (q20, .inl (dA 2, 32, .inr (.inl (fun _ => 0)))), (q5, .inr (2, [.ref q21, .ref q22, .ref q23, .int 0])), (q21, .inl (dA 1, 32, .inl (fun _ => 0))), (q22, .inl (dA 2, 32, .inr (.inl (fun _ => 0)))), (q23, .inl (dA 2, 32, .inr (.inl (fun _ => 0)))), (q24, .inl (dA 4, 32, .inr (.inr (.inr (.inr (fun _ => none)))))), (q25, .inl (dA 1, 64, .inl (fun _ => 0))), (q26, .inl (dA 2, 64, .inr (.inl (fun _ => 0)))), (q27, .inl (dA 2, 64, .inr (.inl (fun _ => 0)))), (q28, .inl (dA 1, 64, .inl (fun _ => 0))), (q29, .inl (dA 2, 256, .inr (.inl (fun _ => 0)))), (q30, .inl (dA 4, 32, .inr (.inr (.inr (.inr (fun _ => none)))))), (q31, .inl (dA 1, 64, .inl (fun _ => 0))), (q32, .inl (dA 2, 64, .inr (.inl (fun _ => 0)))), (q33, .inl (dA 2, 64, .inr (.inl (fun _ => 0)))), (q34, .inl (dA 1, 64, .inl (fun _ => 0))), (q35, .inl (dA 2, 256, .inr (.inl (fun _ => 0)))), (q8, .inl (dA 5, 256, .inr (.inr (.inr (.inr (fun _ => none)))))), (q9, .inr (4, [.ref q36, .ref q37, .ref q38, .int 0, .int 0, .int 0])), (q36, .inl (dA 1, 6, .inl (fun _ => 0))), (q37, .inl (dA 1, 6, .inl (fun _ => 0))), (q38, .inl (dA 1, 6, .inl (fun _ => 0))), (q10, .inr (5, [.ref q39, .int 0, .int 0, .int 0, .int 0, .long 0, .int 0, .int 0, .ref q40])), (q39, .inl (dA 0, 0, .inl (fun _ => 0))), (q40, .inr (6, [.ref e0, .int 0, .int 0])), (q11, .inr (7, [.ref q41, .int 0, .ref q42, .ref q43, .ref q44, .ref q45, .ref q46, .long 0, .long 0, .int 0])), (q42, .inl (dA 1, 256, .inl (fun _ => 0))), (q43, .inl (dA 3, 256, .inl (fun _ => 0))), (q44, .inl (dA 2, 256, .inr (.inl (fun _ => 0)))), (q45, .inl (dA 2, 64, .inr (.inl (fun _ => 0)))), (q46, .inl (dA 1, 64, .inl (fun _ => 0))), (q47, .inl (dA 6, 6, .inr (.inr (.inr (.inr (fun _ => none)))))), (q48, .inl (dA 5, 256, .inr (.inr (.inr (.inr (fun _ => none)))))), (q49, .inl (dA 2, 256, .inr (.inl (fun _ => 0)))), (q50, .inl (dA 2, 64, .inr (.inl (fun _ => 0)))), (q41, .inr (6, [.ref q51, .int 1, .int (0 + 1)])), (q52, .inr (8, [.ref q47, .int 0, .int 0, .int 0, .ref q48, .ref q49, .ref q50])), (q51, .inl (dA 7, 10, .inr (.inr (.inr (.inr (va_up (fun _ => none) 0 (some q52))))))), (q3, .inr (1, [.ref q12, .ref q13, .ref q14, .ref q15, .ref q16, .ref q17, .int 0, .int 0, .int 0, .int 8, .int 0, .int 0, .int 0])), (q4, .inr (2, [.ref q18, .ref q19, .ref q20, .int 0])), (q6, .inr (3, [.ref q24, .int 0, .ref q25, .ref q26, .ref q27, .ref q28, .int 0, .long 0, .int 0, .ref q29, .int 0])), (q7, .inr (3, [.ref q30, .int 0, .ref q31, .ref q32, .ref q33, .ref q34, .int 0, .long 0, .int 0, .ref q35, .int 0]))] := hD
  refine lv_astore_n hx hb d_SeriesVaultLaw_law_7 rfl hl (by decide) rfl (fun ls hl => ?_)
  have hl : lv_has ls 8 [(1, .ref q1), (0, .ref b)] := hl
  refine nO hx hb hown hE hK hP hD hS hA (ci := 9) rfl layM tyM tokM w1980 w855 w328 (fs := [.int 0, .null, .int 0, .int 0, .int 0, .int 0, .int 0, .int 0, .int 0, .int 0, .null, .null, .int 0, .null, .int 0, .null, .int 0, .null, .null, .null, .null, .null, .null, .int 0, .long 0, .long 0, .null, .null, .int 0, .int 0, .int 0, .null, .null, .null, .null, .null, .null, .int 0, .int 0, .int 0, .int 0, .int 0, .null, .int 0, .int 0, .int 0, .int 0, .long 0, .null, .null, .null, .null, .null, .null, .null, .int 0, .int 0, .long 0, .long 0, .int 0, .int 0, .null, .null, .null, .null, .null, .null, .null, .int 0, .int 0, .int 0, .int 0, .int 0, .int 0, .int 0, .null, .null, .null, .null]) dfM (Nat.le_of_ble_eq_true rfl) (Nat.le_of_ble_eq_true rfl) d_SeriesVaultLaw_law_8 (fun q54 H hP hD hS => ?_)
  have hP : va_P D vwCl [(q1, .inr (0, [.ref q2, .int 0, .int 0, .int 0, .int 64, .int 1, .int (-1), .int 0, .ref q3, .ref q4, .ref q5, .ref q6, .ref q7, .ref q8, .ref q9, .ref q10, .ref q11, .int 0])), (q2, .inl (dA 0, 256, .inl (fun _ => 0))), (q12, .inl (dA 1, 32, .inl (fun _ => 0))), (q13, .inl (dA 1, 32, .inl (fun _ => 0))), (q14, .inl (dA 1, 32, .inl (fun _ => 0))), (q15, .inl (dA 1, 32, .inl (fun _ => 0))), (q16, .inl (dA 2, 32, .inr (.inl (fun _ => 0)))), (q17, .inl (dA 2, 32, .inr (.inl (fun _ => 0)))), (q18, .inl (dA 1, 32, .inl (fun _ => 0))), (q19, .inl (dA 2, 32, .inr (.inl (fun _ => 0)))), (q20, .inl (dA 2, 32, .inr (.inl (fun _ => 0)))), (q5, .inr (2, [.ref q21, .ref q22, .ref q23, .int 0])), (q21, .inl (dA 1, 32, .inl (fun _ => 0))), (q22, .inl (dA 2, 32, .inr (.inl (fun _ => 0)))), (q23, .inl (dA 2, 32, .inr (.inl (fun _ => 0)))), (q24, .inl (dA 4, 32, .inr (.inr (.inr (.inr (fun _ => none)))))), (q25, .inl (dA 1, 64, .inl (fun _ => 0))), (q26, .inl (dA 2, 64, .inr (.inl (fun _ => 0)))), (q27, .inl (dA 2, 64, .inr (.inl (fun _ => 0)))), (q28, .inl (dA 1, 64, .inl (fun _ => 0))), (q29, .inl (dA 2, 256, .inr (.inl (fun _ => 0)))), (q30, .inl (dA 4, 32, .inr (.inr (.inr (.inr (fun _ => none)))))), (q31, .inl (dA 1, 64, .inl (fun _ => 0))), (q32, .inl (dA 2, 64, .inr (.inl (fun _ => 0)))), (q33, .inl (dA 2, 64, .inr (.inl (fun _ => 0)))), (q34, .inl (dA 1, 64, .inl (fun _ => 0))), (q35, .inl (dA 2, 256, .inr (.inl (fun _ => 0)))), (q8, .inl (dA 5, 256, .inr (.inr (.inr (.inr (fun _ => none)))))), (q9, .inr (4, [.ref q36, .ref q37, .ref q38, .int 0, .int 0, .int 0])), (q36, .inl (dA 1, 6, .inl (fun _ => 0))), (q37, .inl (dA 1, 6, .inl (fun _ => 0))), (q38, .inl (dA 1, 6, .inl (fun _ => 0))), (q10, .inr (5, [.ref q39, .int 0, .int 0, .int 0, .int 0, .long 0, .int 0, .int 0, .ref q40])), (q39, .inl (dA 0, 0, .inl (fun _ => 0))), (q40, .inr (6, [.ref e0, .int 0, .int 0])), (q11, .inr (7, [.ref q41, .int 0, .ref q42, .ref q43, .ref q44, .ref q45, .ref q46, .long 0, .long 0, .int 0])), (q42, .inl (dA 1, 256, .inl (fun _ => 0))), (q43, .inl (dA 3, 256, .inl (fun _ => 0))), (q44, .inl (dA 2, 256, .inr (.inl (fun _ => 0)))), (q45, .inl (dA 2, 64, .inr (.inl (fun _ => 0)))), (q46, .inl (dA 1, 64, .inl (fun _ => 0))), (q47, .inl (dA 6, 6, .inr (.inr (.inr (.inr (fun _ => none)))))), (q48, .inl (dA 5, 256, .inr (.inr (.inr (.inr (fun _ => none)))))), (q49, .inl (dA 2, 256, .inr (.inl (fun _ => 0)))), (q50, .inl (dA 2, 64, .inr (.inl (fun _ => 0)))), (q41, .inr (6, [.ref q51, .int 1, .int (0 + 1)])), (q52, .inr (8, [.ref q47, .int 0, .int 0, .int 0, .ref q48, .ref q49, .ref q50])), (q51, .inl (dA 7, 10, .inr (.inr (.inr (.inr (va_up (fun _ => none) 0 (some q52))))))), (q3, .inr (1, [.ref q12, .ref q13, .ref q14, .ref q15, .ref q16, .ref q17, .int 0, .int 0, .int 0, .int 8, .int 0, .int 0, .int 0])), (q4, .inr (2, [.ref q18, .ref q19, .ref q20, .int 0])), (q6, .inr (3, [.ref q24, .int 0, .ref q25, .ref q26, .ref q27, .ref q28, .int 0, .long 0, .int 0, .ref q29, .int 0])), (q7, .inr (3, [.ref q30, .int 0, .ref q31, .ref q32, .ref q33, .ref q34, .int 0, .long 0, .int 0, .ref q35, .int 0])), (q54, .inr (9, [.int 0, .null, .int 0, .int 0, .int 0, .int 0, .int 0, .int 0, .int 0, .int 0, .null, .null, .int 0, .null, .int 0, .null, .int 0, .null, .null, .null, .null, .null, .null, .int 0, .long 0, .long 0, .null, .null, .int 0, .int 0, .int 0, .null, .null, .null, .null, .null, .null, .int 0, .int 0, .int 0, .int 0, .int 0, .null, .int 0, .int 0, .int 0, .int 0, .long 0, .null, .null, .null, .null, .null, .null, .null, .int 0, .int 0, .long 0, .long 0, .int 0, .int 0, .null, .null, .null, .null, .null, .null, .null, .int 0, .int 0, .int 0, .int 0, .int 0, .int 0, .int 0, .null, .null, .null, .null]))] H := hP
  have hD : va_D A [(q1, .inr (0, [.ref q2, .int 0, .int 0, .int 0, .int 64, .int 1, .int (-1), .int 0, .ref q3, .ref q4, .ref q5, .ref q6, .ref q7, .ref q8, .ref q9, .ref q10, .ref q11, .int 0])), (q2, .inl (dA 0, 256, .inl (fun _ => 0))), (q12, .inl (dA 1, 32, .inl (fun _ => 0))), (q13, .inl (dA 1, 32, .inl (fun _ => 0))), (q14, .inl (dA 1, 32, .inl (fun _ => 0))), (q15, .inl (dA 1, 32, .inl (fun _ => 0))), (q16, .inl (dA 2, 32, .inr (.inl (fun _ => 0)))), (q17, .inl (dA 2, 32, .inr (.inl (fun _ => 0)))), (q18, .inl (dA 1, 32, .inl (fun _ => 0))), (q19, .inl (dA 2, 32, .inr (.inl (fun _ => 0)))), (q20, .inl (dA 2, 32, .inr (.inl (fun _ => 0)))), (q5, .inr (2, [.ref q21, .ref q22, .ref q23, .int 0])), (q21, .inl (dA 1, 32, .inl (fun _ => 0))), (q22, .inl (dA 2, 32, .inr (.inl (fun _ => 0)))), (q23, .inl (dA 2, 32, .inr (.inl (fun _ => 0)))), (q24, .inl (dA 4, 32, .inr (.inr (.inr (.inr (fun _ => none)))))), (q25, .inl (dA 1, 64, .inl (fun _ => 0))), (q26, .inl (dA 2, 64, .inr (.inl (fun _ => 0)))), (q27, .inl (dA 2, 64, .inr (.inl (fun _ => 0)))), (q28, .inl (dA 1, 64, .inl (fun _ => 0))), (q29, .inl (dA 2, 256, .inr (.inl (fun _ => 0)))), (q30, .inl (dA 4, 32, .inr (.inr (.inr (.inr (fun _ => none)))))), (q31, .inl (dA 1, 64, .inl (fun _ => 0))), (q32, .inl (dA 2, 64, .inr (.inl (fun _ => 0)))), (q33, .inl (dA 2, 64, .inr (.inl (fun _ => 0)))), (q34, .inl (dA 1, 64, .inl (fun _ => 0))), (q35, .inl (dA 2, 256, .inr (.inl (fun _ => 0)))), (q8, .inl (dA 5, 256, .inr (.inr (.inr (.inr (fun _ => none)))))), (q9, .inr (4, [.ref q36, .ref q37, .ref q38, .int 0, .int 0, .int 0])), (q36, .inl (dA 1, 6, .inl (fun _ => 0))), (q37, .inl (dA 1, 6, .inl (fun _ => 0))), (q38, .inl (dA 1, 6, .inl (fun _ => 0))), (q10, .inr (5, [.ref q39, .int 0, .int 0, .int 0, .int 0, .long 0, .int 0, .int 0, .ref q40])), (q39, .inl (dA 0, 0, .inl (fun _ => 0))), (q40, .inr (6, [.ref e0, .int 0, .int 0])), (q11, .inr (7, [.ref q41, .int 0, .ref q42, .ref q43, .ref q44, .ref q45, .ref q46, .long 0, .long 0, .int 0])), (q42, .inl (dA 1, 256, .inl (fun _ => 0))), (q43, .inl (dA 3, 256, .inl (fun _ => 0))), (q44, .inl (dA 2, 256, .inr (.inl (fun _ => 0)))), (q45, .inl (dA 2, 64, .inr (.inl (fun _ => 0)))), (q46, .inl (dA 1, 64, .inl (fun _ => 0))), (q47, .inl (dA 6, 6, .inr (.inr (.inr (.inr (fun _ => none)))))), (q48, .inl (dA 5, 256, .inr (.inr (.inr (.inr (fun _ => none)))))), (q49, .inl (dA 2, 256, .inr (.inl (fun _ => 0)))), (q50, .inl (dA 2, 64, .inr (.inl (fun _ => 0)))), (q41, .inr (6, [.ref q51, .int 1, .int (0 + 1)])), (q52, .inr (8, [.ref q47, .int 0, .int 0, .int 0, .ref q48, .ref q49, .ref q50])), (q51, .inl (dA 7, 10, .inr (.inr (.inr (.inr (va_up (fun _ => none) 0 (some q52))))))), (q3, .inr (1, [.ref q12, .ref q13, .ref q14, .ref q15, .ref q16, .ref q17, .int 0, .int 0, .int 0, .int 8, .int 0, .int 0, .int 0])), (q4, .inr (2, [.ref q18, .ref q19, .ref q20, .int 0])), (q6, .inr (3, [.ref q24, .int 0, .ref q25, .ref q26, .ref q27, .ref q28, .int 0, .long 0, .int 0, .ref q29, .int 0])), (q7, .inr (3, [.ref q30, .int 0, .ref q31, .ref q32, .ref q33, .ref q34, .int 0, .long 0, .int 0, .ref q35, .int 0])), (q54, .inr (9, [.int 0, .null, .int 0, .int 0, .int 0, .int 0, .int 0, .int 0, .int 0, .int 0, .null, .null, .int 0, .null, .int 0, .null, .int 0, .null, .null, .null, .null, .null, .null, .int 0, .long 0, .long 0, .null, .null, .int 0, .int 0, .int 0, .null, .null, .null, .null, .null, .null, .int 0, .int 0, .int 0, .int 0, .int 0, .null, .int 0, .int 0, .int 0, .int 0, .long 0, .null, .null, .null, .null, .null, .null, .null, .int 0, .int 0, .long 0, .long 0, .int 0, .int 0, .null, .null, .null, .null, .null, .null, .null, .int 0, .int 0, .int 0, .int 0, .int 0, .int 0, .int 0, .null, .null, .null, .null]))] := hD
  refine lv_dup hx hb d_SeriesVaultLaw_law_11 rfl ?_
  have hPc := hP.sub (ws' := [(q54, .inr (9, [.int 0, .null, .int 0, .int 0, .int 0, .int 0, .int 0, .int 0, .int 0, .int 0, .null, .null, .int 0, .null, .int 0, .null, .int 0, .null, .null, .null, .null, .null, .null, .int 0, .long 0, .long 0, .null, .null, .int 0, .int 0, .int 0, .null, .null, .null, .null, .null, .null, .int 0, .int 0, .int 0, .int 0, .int 0, .null, .int 0, .int 0, .int 0, .int 0, .long 0, .null, .null, .null, .null, .null, .null, .null, .int 0, .int 0, .long 0, .long 0, .int 0, .int 0, .null, .null, .null, .null, .null, .null, .null, .int 0, .int 0, .int 0, .int 0, .int 0, .int 0, .int 0, .null, .null, .null, .null]))]) [52] rfl
  have hDc := hD.sub (ws' := [(q54, .inr (9, [.int 0, .null, .int 0, .int 0, .int 0, .int 0, .int 0, .int 0, .int 0, .int 0, .null, .null, .int 0, .null, .int 0, .null, .int 0, .null, .null, .null, .null, .null, .null, .int 0, .long 0, .long 0, .null, .null, .int 0, .int 0, .int 0, .null, .null, .null, .null, .null, .null, .int 0, .int 0, .int 0, .int 0, .int 0, .null, .int 0, .int 0, .int 0, .int 0, .long 0, .null, .null, .null, .null, .null, .null, .null, .int 0, .int 0, .long 0, .long 0, .int 0, .int 0, .null, .null, .null, .null, .null, .null, .null, .int 0, .int 0, .int 0, .int 0, .int 0, .int 0, .int 0, .null, .null, .null, .null]))]) [52] (by decide) rfl
  refine jnV (rnI (As := []) (rest := [.ref q54]) hx hb hml hown hE hK (hN _ _ hS) hPc hDc (c_M_init2 l D dA H.size q54) w1983 w1982 w1984 w328 rfl rfl rfl ⟨⟨by decide, by decide⟩, rfl⟩ ⟨(Nat.le_of_ble_eq_true rfl), (Nat.le_of_ble_eq_true rfl)⟩ rfl hl.1 rfl (Nat.le_of_ble_eq_true rfl) d_SeriesVaultLaw_law_12 ⟨(Nat.le_of_ble_eq_true rfl), (Nat.le_of_ble_eq_true rfl)⟩) hP hD hS hA [52] [0, 1, 2, 3, 4, 5, 6, 7, 8, 9, 10, 11, 12, 13, 14, 15, 16, 17, 18, 19, 20, 21, 22, 23, 24, 25, 26, 27, 28, 29, 30, 31, 32, 33, 34, 35, 36, 37, 38, 39, 40, 41, 42, 43, 44, 45, 46, 47, 48, 49, 50, 51] (wr := [(q1, .inr (0, [.ref q2, .int 0, .int 0, .int 0, .int 64, .int 1, .int (-1), .int 0, .ref q3, .ref q4, .ref q5, .ref q6, .ref q7, .ref q8, .ref q9, .ref q10, .ref q11, .int 0])), (q2, .inl (dA 0, 256, .inl (fun _ => 0))), (q12, .inl (dA 1, 32, .inl (fun _ => 0))), (q13, .inl (dA 1, 32, .inl (fun _ => 0))), (q14, .inl (dA 1, 32, .inl (fun _ => 0))), (q15, .inl (dA 1, 32, .inl (fun _ => 0))), (q16, .inl (dA 2, 32, .inr (.inl (fun _ => 0)))), (q17, .inl (dA 2, 32, .inr (.inl (fun _ => 0)))), (q18, .inl (dA 1, 32, .inl (fun _ => 0))), (q19, .inl (dA 2, 32, .inr (.inl (fun _ => 0)))), (q20, .inl (dA 2, 32, .inr (.inl (fun _ => 0)))), (q5, .inr (2, [.ref q21, .ref q22, .ref q23, .int 0])), (q21, .inl (dA 1, 32, .inl (fun _ => 0))), (q22, .inl (dA 2, 32, .inr (.inl (fun _ => 0)))), (q23, .inl (dA 2, 32, .inr (.inl (fun _ => 0)))), (q24, .inl (dA 4, 32, .inr (.inr (.inr (.inr (fun _ => none)))))), (q25, .inl (dA 1, 64, .inl (fun _ => 0))), (q26, .inl (dA 2, 64, .inr (.inl (fun _ => 0)))), (q27, .inl (dA 2, 64, .inr (.inl (fun _ => 0)))), (q28, .inl (dA 1, 64, .inl (fun _ => 0))), (q29, .inl (dA 2, 256, .inr (.inl (fun _ => 0)))), (q30, .inl (dA 4, 32, .inr (.inr (.inr (.inr (fun _ => none)))))), (q31, .inl (dA 1, 64, .inl (fun _ => 0))), (q32, .inl (dA 2, 64, .inr (.inl (fun _ => 0)))), (q33, .inl (dA 2, 64, .inr (.inl (fun _ => 0)))), (q34, .inl (dA 1, 64, .inl (fun _ => 0))), (q35, .inl (dA 2, 256, .inr (.inl (fun _ => 0)))), (q8, .inl (dA 5, 256, .inr (.inr (.inr (.inr (fun _ => none)))))), (q9, .inr (4, [.ref q36, .ref q37, .ref q38, .int 0, .int 0, .int 0])), (q36, .inl (dA 1, 6, .inl (fun _ => 0))), (q37, .inl (dA 1, 6, .inl (fun _ => 0))), (q38, .inl (dA 1, 6, .inl (fun _ => 0))), (q10, .inr (5, [.ref q39, .int 0, .int 0, .int 0, .int 0, .long 0, .int 0, .int 0, .ref q40])), (q39, .inl (dA 0, 0, .inl (fun _ => 0))), (q40, .inr (6, [.ref e0, .int 0, .int 0])), (q11, .inr (7, [.ref q41, .int 0, .ref q42, .ref q43, .ref q44, .ref q45, .ref q46, .long 0, .long 0, .int 0])), (q42, .inl (dA 1, 256, .inl (fun _ => 0))), (q43, .inl (dA 3, 256, .inl (fun _ => 0))), (q44, .inl (dA 2, 256, .inr (.inl (fun _ => 0)))), (q45, .inl (dA 2, 64, .inr (.inl (fun _ => 0)))), (q46, .inl (dA 1, 64, .inl (fun _ => 0))), (q47, .inl (dA 6, 6, .inr (.inr (.inr (.inr (fun _ => none)))))), (q48, .inl (dA 5, 256, .inr (.inr (.inr (.inr (fun _ => none)))))), (q49, .inl (dA 2, 256, .inr (.inl (fun _ => 0)))), (q50, .inl (dA 2, 64, .inr (.inl (fun _ => 0)))), (q41, .inr (6, [.ref q51, .int 1, .int (0 + 1)])), (q52, .inr (8, [.ref q47, .int 0, .int 0, .int 0, .ref q48, .ref q49, .ref q50])), (q51, .inl (dA 7, 10, .inr (.inr (.inr (.inr (va_up (fun _ => none) 0 (some q52))))))), (q3, .inr (1, [.ref q12, .ref q13, .ref q14, .ref q15, .ref q16, .ref q17, .int 0, .int 0, .int 0, .int 8, .int 0, .int 0, .int 0])), (q4, .inr (2, [.ref q18, .ref q19, .ref q20, .int 0])), (q6, .inr (3, [.ref q24, .int 0, .ref q25, .ref q26, .ref q27, .ref q28, .int 0, .long 0, .int 0, .ref q29, .int 0])), (q7, .inr (3, [.ref q30, .int 0, .ref q31, .ref q32, .ref q33, .ref q34, .int 0, .long 0, .int 0, .ref q35, .int 0]))]) rfl rfl (by decide) (by decide) (fun u9 H locs hp9 hP hD hS => ?_)
  obtain ⟨q55, q56, q57, q58, q59, q60, q61, q62, q63, q64, q65, q66, q67, q68, q69, q70, q71, q72, q73, q74, q75, q76, q77, q78, q79, q80, q81, q82, q83, q84, q85, q86, q87, q88, q89, q90, q91, q92⟩ := u9
  have hP : va_P D vwCl [(q1, .inr (0, [.ref q2, .int 0, .int 0, .int 0, .int 64, .int 1, .int (-1), .int 0, .ref q3, .ref q4, .ref q5, .ref q6, .ref q7, .ref q8, .ref q9, .ref q10, .ref q11, .int 0])), (q2, .inl (dA 0, 256, .inl (fun _ => 0))), (q12, .inl (dA 1, 32, .inl (fun _ => 0))), (q13, .inl (dA 1, 32, .inl (fun _ => 0))), (q14, .inl (dA 1, 32, .inl (fun _ => 0))), (q15, .inl (dA 1, 32, .inl (fun _ => 0))), (q16, .inl (dA 2, 32, .inr (.inl (fun _ => 0)))), (q17, .inl (dA 2, 32, .inr (.inl (fun _ => 0)))), (q18, .inl (dA 1, 32, .inl (fun _ => 0))), (q19, .inl (dA 2, 32, .inr (.inl (fun _ => 0)))), (q20, .inl (dA 2, 32, .inr (.inl (fun _ => 0)))), (q5, .inr (2, [.ref q21, .ref q22, .ref q23, .int 0])), (q21, .inl (dA 1, 32, .inl (fun _ => 0))), (q22, .inl (dA 2, 32, .inr (.inl (fun _ => 0)))), (q23, .inl (dA 2, 32, .inr (.inl (fun _ => 0)))), (q24, .inl (dA 4, 32, .inr (.inr (.inr (.inr (fun _ => none)))))), (q25, .inl (dA 1, 64, .inl (fun _ => 0))), (q26, .inl (dA 2, 64, .inr (.inl (fun _ => 0)))), (q27, .inl (dA 2, 64, .inr (.inl (fun _ => 0)))), (q28, .inl (dA 1, 64, .inl (fun _ => 0))), (q29, .inl (dA 2, 256, .inr (.inl (fun _ => 0)))), (q30, .inl (dA 4, 32, .inr (.inr (.inr (.inr (fun _ => none)))))), (q31, .inl (dA 1, 64, .inl (fun _ => 0))), (q32, .inl (dA 2, 64, .inr (.inl (fun _ => 0)))), (q33, .inl (dA 2, 64, .inr (.inl (fun _ => 0)))), (q34, .inl (dA 1, 64, .inl (fun _ => 0))), (q35, .inl (dA 2, 256, .inr (.inl (fun _ => 0)))), (q8, .inl (dA 5, 256, .inr (.inr (.inr (.inr (fun _ => none)))))), (q9, .inr (4, [.ref q36, .ref q37, .ref q38, .int 0, .int 0, .int 0])), (q36, .inl (dA 1, 6, .inl (fun _ => 0))), (q37, .inl (dA 1, 6, .inl (fun _ => 0))), (q38, .inl (dA 1, 6, .inl (fun _ => 0))), (q10, .inr (5, [.ref q39, .int 0, .int 0, .int 0, .int 0, .long 0, .int 0, .int 0, .ref q40])), (q39, .inl (dA 0, 0, .inl (fun _ => 0))), (q40, .inr (6, [.ref e0, .int 0, .int 0])), (q11, .inr (7, [.ref q41, .int 0, .ref q42, .ref q43, .ref q44, .ref q45, .ref q46, .long 0, .long 0, .int 0])), (q42, .inl (dA 1, 256, .inl (fun _ => 0))), (q43, .inl (dA 3, 256, .inl (fun _ => 0))), (q44, .inl (dA 2, 256, .inr (.inl (fun _ => 0)))), (q45, .inl (dA 2, 64, .inr (.inl (fun _ => 0)))), (q46, .inl (dA 1, 64, .inl (fun _ => 0))), (q47, .inl (dA 6, 6, .inr (.inr (.inr (.inr (fun _ => none)))))), (q48, .inl (dA 5, 256, .inr (.inr (.inr (.inr (fun _ => none)))))), (q49, .inl (dA 2, 256, .inr (.inl (fun _ => 0)))), (q50, .inl (dA 2, 64, .inr (.inl (fun _ => 0)))), (q41, .inr (6, [.ref q51, .int 1, .int (0 + 1)])), (q52, .inr (8, [.ref q47, .int 0, .int 0, .int 0, .ref q48, .ref q49, .ref q50])), (q51, .inl (dA 7, 10, .inr (.inr (.inr (.inr (va_up (fun _ => none) 0 (some q52))))))), (q3, .inr (1, [.ref q12, .ref q13, .ref q14, .ref q15, .ref q16, .ref q17, .int 0, .int 0, .int 0, .int 8, .int 0, .int 0, .int 0])), (q4, .inr (2, [.ref q18, .ref q19, .ref q20, .int 0])), (q6, .inr (3, [.ref q24, .int 0, .ref q25, .ref q26, .ref q27, .ref q28, .int 0, .long 0, .int 0, .ref q29, .int 0])), (q7, .inr (3, [.ref q30, .int 0, .ref q31, .ref q32, .ref q33, .ref q34, .int 0, .long 0, .int 0, .ref q35, .int 0])), (q54, .inr (9, [.int 0, .ref q55, .int 0, .int 0, .int 0, .int 64, .int 8, .int 1, .int (-1), .int 0, .ref q56, .ref q57, .int 0, .ref q58, .int 0, .ref q59, .int 0, .ref q60, .ref q61, .ref q62, .ref q63, .ref q64, .ref q65, .int 0, .long 0, .long 0, .ref q66, .ref q67, .int 0, .int 0, .int 0, .ref q68, .ref q69, .ref q70, .ref q71, .ref q72, .ref q73, .int 0, .int 0, .int 0, .int 0, .int 0, .ref q74, .int 0, .int 0, .int 0, .int 0, .long 0, .ref q75, .ref q76, .ref q77, .ref q78, .ref q79, .ref q80, .ref q81, .int 0, .int 0, .long 0, .long 0, .int 0, .int 0, .ref q82, .ref q83, .ref q84, .ref q85, .ref q86, .ref q87, .ref q88, .int 0, .int 0, .int 0, .int 0, .int 0, .int 0, .int 0, .ref q89, .ref q90, .ref q91, .ref q92])), (q55, .inl (dA 0, 65536, .inl (fun _ => 0))), (q56, .inl (dA 0, 78128, .inl (fun _ => 0))), (q57, .inl (dA 1, 256, .inl (fun _ => 0))), (q58, .inl (dA 2, 256, .inr (.inl (fun _ => 0)))), (q59, .inl (dA 2, 256, .inr (.inl (fun _ => 0)))), (q60, .inl (dA 1, 12000, .inl (fun _ => 0))), (q61, .inl (dA 2, 12000, .inr (.inl (fun _ => 0)))), (q62, .inl (dA 2, 12000, .inr (.inl (fun _ => 0)))), (q63, .inl (dA 1, 12000, .inl (fun _ => 0))), (q64, .inl (dA 1, 12000, .inl (fun _ => 0))), (q65, .inl (dA 1, 12000, .inl (fun _ => 0))), (q66, .inl (dA 1, 40, .inl (fun _ => 0))), (q67, .inl (dA 1, 40, .inl (fun _ => 0))), (q68, .inl (dA 0, 32000, .inl (fun _ => 0))), (q69, .inl (dA 1, 32000, .inl (fun _ => 0))), (q70, .inl (dA 2, 32000, .inr (.inl (fun _ => 0)))), (q71, .inl (dA 2, 32000, .inr (.inl (fun _ => 0)))), (q72, .inl (dA 1, 32000, .inl (fun _ => 0))), (q73, .inl (dA 1, 32000, .inl (fun _ => 0))), (q74, .inl (dA 1, 28, .inl (fun _ => 0))), (q75, .inl (dA 1, 20, .inl (fun _ => 0))), (q76, .inl (dA 1, 120, .inl (fun _ => 0))), (q77, .inl (dA 1, 120, .inl (fun _ => 0))), (q78, .inl (dA 1, 20, .inl (fun _ => 0))), (q79, .inl (dA 1, 5120, .inl (fun _ => 0))), (q80, .inl (dA 2, 327680, .inr (.inl (fun _ => 0)))), (q81, .inl (dA 3, 327680, .inl (fun _ => 0))), (q82, .inl (dA 1, 256, .inl (fun _ => 0))), (q83, .inl (dA 2, 16384, .inr (.inl (fun _ => 0)))), (q84, .inl (dA 1, 16384, .inl (fun _ => 0))), (q85, .inl (dA 2, 256, .inr (.inl (fun _ => 0)))), (q86, .inl (dA 3, 256, .inl (fun _ => 0))), (q87, .inl (dA 1, 32, .inl (fun _ => 0))), (q88, .inl (dA 1, 32, .inl (fun _ => 0))), (q89, .inl (dA 0, 36864, .inl (fun _ => 0))), (q90, .inl (dA 1, 1536, .inl (fun _ => 0))), (q91, .inl (dA 2, 16384, .inr (.inl (fun _ => 0)))), (q92, .inl (dA 3, 16384, .inl (fun _ => 0)))] H := hP
  have hD : va_D A [(q1, .inr (0, [.ref q2, .int 0, .int 0, .int 0, .int 64, .int 1, .int (-1), .int 0, .ref q3, .ref q4, .ref q5, .ref q6, .ref q7, .ref q8, .ref q9, .ref q10, .ref q11, .int 0])), (q2, .inl (dA 0, 256, .inl (fun _ => 0))), (q12, .inl (dA 1, 32, .inl (fun _ => 0))), (q13, .inl (dA 1, 32, .inl (fun _ => 0))), (q14, .inl (dA 1, 32, .inl (fun _ => 0))), (q15, .inl (dA 1, 32, .inl (fun _ => 0))), (q16, .inl (dA 2, 32, .inr (.inl (fun _ => 0)))), (q17, .inl (dA 2, 32, .inr (.inl (fun _ => 0)))), (q18, .inl (dA 1, 32, .inl (fun _ => 0))), (q19, .inl (dA 2, 32, .inr (.inl (fun _ => 0)))), (q20, .inl (dA 2, 32, .inr (.inl (fun _ => 0)))), (q5, .inr (2, [.ref q21, .ref q22, .ref q23, .int 0])), (q21, .inl (dA 1, 32, .inl (fun _ => 0))), (q22, .inl (dA 2, 32, .inr (.inl (fun _ => 0)))), (q23, .inl (dA 2, 32, .inr (.inl (fun _ => 0)))), (q24, .inl (dA 4, 32, .inr (.inr (.inr (.inr (fun _ => none)))))), (q25, .inl (dA 1, 64, .inl (fun _ => 0))), (q26, .inl (dA 2, 64, .inr (.inl (fun _ => 0)))), (q27, .inl (dA 2, 64, .inr (.inl (fun _ => 0)))), (q28, .inl (dA 1, 64, .inl (fun _ => 0))), (q29, .inl (dA 2, 256, .inr (.inl (fun _ => 0)))), (q30, .inl (dA 4, 32, .inr (.inr (.inr (.inr (fun _ => none)))))), (q31, .inl (dA 1, 64, .inl (fun _ => 0))), (q32, .inl (dA 2, 64, .inr (.inl (fun _ => 0)))), (q33, .inl (dA 2, 64, .inr (.inl (fun _ => 0)))), (q34, .inl (dA 1, 64, .inl (fun _ => 0))), (q35, .inl (dA 2, 256, .inr (.inl (fun _ => 0)))), (q8, .inl (dA 5, 256, .inr (.inr (.inr (.inr (fun _ => none)))))), (q9, .inr (4, [.ref q36, .ref q37, .ref q38, .int 0, .int 0, .int 0])), (q36, .inl (dA 1, 6, .inl (fun _ => 0))), (q37, .inl (dA 1, 6, .inl (fun _ => 0))), (q38, .inl (dA 1, 6, .inl (fun _ => 0))), (q10, .inr (5, [.ref q39, .int 0, .int 0, .int 0, .int 0, .long 0, .int 0, .int 0, .ref q40])), (q39, .inl (dA 0, 0, .inl (fun _ => 0))), (q40, .inr (6, [.ref e0, .int 0, .int 0])), (q11, .inr (7, [.ref q41, .int 0, .ref q42, .ref q43, .ref q44, .ref q45, .ref q46, .long 0, .long 0, .int 0])), (q42, .inl (dA 1, 256, .inl (fun _ => 0))), (q43, .inl (dA 3, 256, .inl (fun _ => 0))), (q44, .inl (dA 2, 256, .inr (.inl (fun _ => 0)))), (q45, .inl (dA 2, 64, .inr (.inl (fun _ => 0)))), (q46, .inl (dA 1, 64, .inl (fun _ => 0))), (q47, .inl (dA 6, 6, .inr (.inr (.inr (.inr (fun _ => none)))))), (q48, .inl (dA 5, 256, .inr (.inr (.inr (.inr (fun _ => none)))))), (q49, .inl (dA 2, 256, .inr (.inl (fun _ => 0)))), (q50, .inl (dA 2, 64, .inr (.inl (fun _ => 0)))), (q41, .inr (6, [.ref q51, .int 1, .int (0 + 1)])), (q52, .inr (8, [.ref q47, .int 0, .int 0, .int 0, .ref q48, .ref q49, .ref q50])), (q51, .inl (dA 7, 10, .inr (.inr (.inr (.inr (va_up (fun _ => none) 0 (some q52))))))), (q3, .inr (1, [.ref q12, .ref q13, .ref q14, .ref q15, .ref q16, .ref q17, .int 0, .int 0, .int 0, .int 8, .int 0, .int 0, .int 0])), (q4, .inr (2, [.ref q18, .ref q19, .ref q20, .int 0])), (q6, .inr (3, [.ref q24, .int 0, .ref q25, .ref q26, .ref q27, .ref q28, .int 0, .long 0, .int 0, .ref q29, .int 0])), (q7, .inr (3, [.ref q30, .int 0, .ref q31, .ref q32, .ref q33, .ref q34, .int 0, .long 0, .int 0, .ref q35, .int 0])), (q54, .inr (9, [.int 0, .ref q55, .int 0, .int 0, .int 0, .int 64, .int 8, .int 1, .int (-1), .int 0, .ref q56, .ref q57, .int 0, .ref q58, .int 0, .ref q59, .int 0, .ref q60, .ref q61, .ref q62, .ref q63, .ref q64, .ref q65, .int 0, .long 0, .long 0, .ref q66, .ref q67, .int 0, .int 0, .int 0, .ref q68, .ref q69, .ref q70, .ref q71, .ref q72, .ref q73, .int 0, .int 0, .int 0, .int 0, .int 0, .ref q74, .int 0, .int 0, .int 0, .int 0, .long 0, .ref q75, .ref q76, .ref q77, .ref q78, .ref q79, .ref q80, .ref q81, .int 0, .int 0, .long 0, .long 0, .int 0, .int 0, .ref q82, .ref q83, .ref q84, .ref q85, .ref q86, .ref q87, .ref q88, .int 0, .int 0, .int 0, .int 0, .int 0, .int 0, .int 0, .ref q89, .ref q90, .ref q91, .ref q92])), (q55, .inl (dA 0, 65536, .inl (fun _ => 0))), (q56, .inl (dA 0, 78128, .inl (fun _ => 0))), (q57, .inl (dA 1, 256, .inl (fun _ => 0))), (q58, .inl (dA 2, 256, .inr (.inl (fun _ => 0)))), (q59, .inl (dA 2, 256, .inr (.inl (fun _ => 0)))), (q60, .inl (dA 1, 12000, .inl (fun _ => 0))), (q61, .inl (dA 2, 12000, .inr (.inl (fun _ => 0)))), (q62, .inl (dA 2, 12000, .inr (.inl (fun _ => 0)))), (q63, .inl (dA 1, 12000, .inl (fun _ => 0))), (q64, .inl (dA 1, 12000, .inl (fun _ => 0))), (q65, .inl (dA 1, 12000, .inl (fun _ => 0))), (q66, .inl (dA 1, 40, .inl (fun _ => 0))), (q67, .inl (dA 1, 40, .inl (fun _ => 0))), (q68, .inl (dA 0, 32000, .inl (fun _ => 0))), (q69, .inl (dA 1, 32000, .inl (fun _ => 0))), (q70, .inl (dA 2, 32000, .inr (.inl (fun _ => 0)))), (q71, .inl (dA 2, 32000, .inr (.inl (fun _ => 0)))), (q72, .inl (dA 1, 32000, .inl (fun _ => 0))), (q73, .inl (dA 1, 32000, .inl (fun _ => 0))), (q74, .inl (dA 1, 28, .inl (fun _ => 0))), (q75, .inl (dA 1, 20, .inl (fun _ => 0))), (q76, .inl (dA 1, 120, .inl (fun _ => 0))), (q77, .inl (dA 1, 120, .inl (fun _ => 0))), (q78, .inl (dA 1, 20, .inl (fun _ => 0))), (q79, .inl (dA 1, 5120, .inl (fun _ => 0))), (q80, .inl (dA 2, 327680, .inr (.inl (fun _ => 0)))), (q81, .inl (dA 3, 327680, .inl (fun _ => 0))), (q82, .inl (dA 1, 256, .inl (fun _ => 0))), (q83, .inl (dA 2, 16384, .inr (.inl (fun _ => 0)))), (q84, .inl (dA 1, 16384, .inl (fun _ => 0))), (q85, .inl (dA 2, 256, .inr (.inl (fun _ => 0)))), (q86, .inl (dA 3, 256, .inl (fun _ => 0))), (q87, .inl (dA 1, 32, .inl (fun _ => 0))), (q88, .inl (dA 1, 32, .inl (fun _ => 0))), (q89, .inl (dA 0, 36864, .inl (fun _ => 0))), (q90, .inl (dA 1, 1536, .inl (fun _ => 0))), (q91, .inl (dA 2, 16384, .inr (.inl (fun _ => 0)))), (q92, .inl (dA 3, 16384, .inl (fun _ => 0)))] := hD
  refine lv_astore_n hx hb d_SeriesVaultLaw_law_15 rfl hl (by decide) rfl (fun ls hl => ?_)
  have hl : lv_has ls 8 [(2, .ref q54), (1, .ref q1), (0, .ref b)] := hl
  refine lv_iconst (v := 1) hx hb d_SeriesVaultLaw_law_16 (by decide) ?_
  refine nwA (atype := .long) (ty := .long) (n := 1) (N' := 1) (a0 := (1, .inr (.inl (fun _ => 0)))) hx hb hE rfl w186 hK hP hD hS hA 2 rfl (fun _ => rfl) (by decide) (by decide) (Nat.le_of_ble_eq_true rfl) (Nat.le_of_ble_eq_true rfl) (Nat.le_of_ble_eq_true rfl) d_SeriesVaultLaw_law_17 (fun q94 H hP hD hS => ?_)
  have hP : va_P D vwCl [(q1, .inr (0, [.ref q2, .int 0, .int 0, .int 0, .int 64, .int 1, .int (-1), .int 0, .ref q3, .ref q4, .ref q5, .ref q6, .ref q7, .ref q8, .ref q9, .ref q10, .ref q11, .int 0])), (q2, .inl (dA 0, 256, .inl (fun _ => 0))), (q12, .inl (dA 1, 32, .inl (fun _ => 0))), (q13, .inl (dA 1, 32, .inl (fun _ => 0))), (q14, .inl (dA 1, 32, .inl (fun _ => 0))), (q15, .inl (dA 1, 32, .inl (fun _ => 0))), (q16, .inl (dA 2, 32, .inr (.inl (fun _ => 0)))), (q17, .inl (dA 2, 32, .inr (.inl (fun _ => 0)))), (q18, .inl (dA 1, 32, .inl (fun _ => 0))), (q19, .inl (dA 2, 32, .inr (.inl (fun _ => 0)))), (q20, .inl (dA 2, 32, .inr (.inl (fun _ => 0)))), (q5, .inr (2, [.ref q21, .ref q22, .ref q23, .int 0])), (q21, .inl (dA 1, 32, .inl (fun _ => 0))), (q22, .inl (dA 2, 32, .inr (.inl (fun _ => 0)))), (q23, .inl (dA 2, 32, .inr (.inl (fun _ => 0)))), (q24, .inl (dA 4, 32, .inr (.inr (.inr (.inr (fun _ => none)))))), (q25, .inl (dA 1, 64, .inl (fun _ => 0))), (q26, .inl (dA 2, 64, .inr (.inl (fun _ => 0)))), (q27, .inl (dA 2, 64, .inr (.inl (fun _ => 0)))), (q28, .inl (dA 1, 64, .inl (fun _ => 0))), (q29, .inl (dA 2, 256, .inr (.inl (fun _ => 0)))), (q30, .inl (dA 4, 32, .inr (.inr (.inr (.inr (fun _ => none)))))), (q31, .inl (dA 1, 64, .inl (fun _ => 0))), (q32, .inl (dA 2, 64, .inr (.inl (fun _ => 0)))), (q33, .inl (dA 2, 64, .inr (.inl (fun _ => 0)))), (q34, .inl (dA 1, 64, .inl (fun _ => 0))), (q35, .inl (dA 2, 256, .inr (.inl (fun _ => 0)))), (q8, .inl (dA 5, 256, .inr (.inr (.inr (.inr (fun _ => none)))))), (q9, .inr (4, [.ref q36, .ref q37, .ref q38, .int 0, .int 0, .int 0])), (q36, .inl (dA 1, 6, .inl (fun _ => 0))), (q37, .inl (dA 1, 6, .inl (fun _ => 0))), (q38, .inl (dA 1, 6, .inl (fun _ => 0))), (q10, .inr (5, [.ref q39, .int 0, .int 0, .int 0, .int 0, .long 0, .int 0, .int 0, .ref q40])), (q39, .inl (dA 0, 0, .inl (fun _ => 0))), (q40, .inr (6, [.ref e0, .int 0, .int 0])), (q11, .inr (7, [.ref q41, .int 0, .ref q42, .ref q43, .ref q44, .ref q45, .ref q46, .long 0, .long 0, .int 0])), (q42, .inl (dA 1, 256, .inl (fun _ => 0))), (q43, .inl (dA 3, 256, .inl (fun _ => 0))), (q44, .inl (dA 2, 256, .inr (.inl (fun _ => 0)))), (q45, .inl (dA 2, 64, .inr (.inl (fun _ => 0)))), (q46, .inl (dA 1, 64, .inl (fun _ => 0))), (q47, .inl (dA 6, 6, .inr (.inr (.inr (.inr (fun _ => none)))))), (q48, .inl (dA 5, 256, .inr (.inr (.inr (.inr (fun _ => none)))))), (q49, .inl (dA 2, 256, .inr (.inl (fun _ => 0)))), (q50, .inl (dA 2, 64, .inr (.inl (fun _ => 0)))), (q41, .inr (6, [.ref q51, .int 1, .int (0 + 1)])), (q52, .inr (8, [.ref q47, .int 0, .int 0, .int 0, .ref q48, .ref q49, .ref q50])), (q51, .inl (dA 7, 10, .inr (.inr (.inr (.inr (va_up (fun _ => none) 0 (some q52))))))), (q3, .inr (1, [.ref q12, .ref q13, .ref q14, .ref q15, .ref q16, .ref q17, .int 0, .int 0, .int 0, .int 8, .int 0, .int 0, .int 0])), (q4, .inr (2, [.ref q18, .ref q19, .ref q20, .int 0])), (q6, .inr (3, [.ref q24, .int 0, .ref q25, .ref q26, .ref q27, .ref q28, .int 0, .long 0, .int 0, .ref q29, .int 0])), (q7, .inr (3, [.ref q30, .int 0, .ref q31, .ref q32, .ref q33, .ref q34, .int 0, .long 0, .int 0, .ref q35, .int 0])), (q54, .inr (9, [.int 0, .ref q55, .int 0, .int 0, .int 0, .int 64, .int 8, .int 1, .int (-1), .int 0, .ref q56, .ref q57, .int 0, .ref q58, .int 0, .ref q59, .int 0, .ref q60, .ref q61, .ref q62, .ref q63, .ref q64, .ref q65, .int 0, .long 0, .long 0, .ref q66, .ref q67, .int 0, .int 0, .int 0, .ref q68, .ref q69, .ref q70, .ref q71, .ref q72, .ref q73, .int 0, .int 0, .int 0, .int 0, .int 0, .ref q74, .int 0, .int 0, .int 0, .int 0, .long 0, .ref q75, .ref q76, .ref q77, .ref q78, .ref q79, .ref q80, .ref q81, .int 0, .int 0, .long 0, .long 0, .int 0, .int 0, .ref q82, .ref q83, .ref q84, .ref q85, .ref q86, .ref q87, .ref q88, .int 0, .int 0, .int 0, .int 0, .int 0, .int 0, .int 0, .ref q89, .ref q90, .ref q91, .ref q92])), (q55, .inl (dA 0, 65536, .inl (fun _ => 0))), (q56, .inl (dA 0, 78128, .inl (fun _ => 0))), (q57, .inl (dA 1, 256, .inl (fun _ => 0))), (q58, .inl (dA 2, 256, .inr (.inl (fun _ => 0)))), (q59, .inl (dA 2, 256, .inr (.inl (fun _ => 0)))), (q60, .inl (dA 1, 12000, .inl (fun _ => 0))), (q61, .inl (dA 2, 12000, .inr (.inl (fun _ => 0)))), (q62, .inl (dA 2, 12000, .inr (.inl (fun _ => 0)))), (q63, .inl (dA 1, 12000, .inl (fun _ => 0))), (q64, .inl (dA 1, 12000, .inl (fun _ => 0))), (q65, .inl (dA 1, 12000, .inl (fun _ => 0))), (q66, .inl (dA 1, 40, .inl (fun _ => 0))), (q67, .inl (dA 1, 40, .inl (fun _ => 0))), (q68, .inl (dA 0, 32000, .inl (fun _ => 0))), (q69, .inl (dA 1, 32000, .inl (fun _ => 0))), (q70, .inl (dA 2, 32000, .inr (.inl (fun _ => 0)))), (q71, .inl (dA 2, 32000, .inr (.inl (fun _ => 0)))), (q72, .inl (dA 1, 32000, .inl (fun _ => 0))), (q73, .inl (dA 1, 32000, .inl (fun _ => 0))), (q74, .inl (dA 1, 28, .inl (fun _ => 0))), (q75, .inl (dA 1, 20, .inl (fun _ => 0))), (q76, .inl (dA 1, 120, .inl (fun _ => 0))), (q77, .inl (dA 1, 120, .inl (fun _ => 0))), (q78, .inl (dA 1, 20, .inl (fun _ => 0))), (q79, .inl (dA 1, 5120, .inl (fun _ => 0))), (q80, .inl (dA 2, 327680, .inr (.inl (fun _ => 0)))), (q81, .inl (dA 3, 327680, .inl (fun _ => 0))), (q82, .inl (dA 1, 256, .inl (fun _ => 0))), (q83, .inl (dA 2, 16384, .inr (.inl (fun _ => 0)))), (q84, .inl (dA 1, 16384, .inl (fun _ => 0))), (q85, .inl (dA 2, 256, .inr (.inl (fun _ => 0)))), (q86, .inl (dA 3, 256, .inl (fun _ => 0))), (q87, .inl (dA 1, 32, .inl (fun _ => 0))), (q88, .inl (dA 1, 32, .inl (fun _ => 0))), (q89, .inl (dA 0, 36864, .inl (fun _ => 0))), (q90, .inl (dA 1, 1536, .inl (fun _ => 0))), (q91, .inl (dA 2, 16384, .inr (.inl (fun _ => 0)))), (q92, .inl (dA 3, 16384, .inl (fun _ => 0))), (q94, .inl (dA 2, 1, .inr (.inl (fun _ => 0))))] H := hP
  have hD : va_D A [(q1, .inr (0, [.ref q2, .int 0, .int 0, .int 0, .int 64, .int 1, .int (-1), .int 0, .ref q3, .ref q4, .ref q5, .ref q6, .ref q7, .ref q8, .ref q9, .ref q10, .ref q11, .int 0])), (q2, .inl (dA 0, 256, .inl (fun _ => 0))), (q12, .inl (dA 1, 32, .inl (fun _ => 0))), (q13, .inl (dA 1, 32, .inl (fun _ => 0))), (q14, .inl (dA 1, 32, .inl (fun _ => 0))), (q15, .inl (dA 1, 32, .inl (fun _ => 0))), (q16, .inl (dA 2, 32, .inr (.inl (fun _ => 0)))), (q17, .inl (dA 2, 32, .inr (.inl (fun _ => 0)))), (q18, .inl (dA 1, 32, .inl (fun _ => 0))), (q19, .inl (dA 2, 32, .inr (.inl (fun _ => 0)))), (q20, .inl (dA 2, 32, .inr (.inl (fun _ => 0)))), (q5, .inr (2, [.ref q21, .ref q22, .ref q23, .int 0])), (q21, .inl (dA 1, 32, .inl (fun _ => 0))), (q22, .inl (dA 2, 32, .inr (.inl (fun _ => 0)))), (q23, .inl (dA 2, 32, .inr (.inl (fun _ => 0)))), (q24, .inl (dA 4, 32, .inr (.inr (.inr (.inr (fun _ => none)))))), (q25, .inl (dA 1, 64, .inl (fun _ => 0))), (q26, .inl (dA 2, 64, .inr (.inl (fun _ => 0)))), (q27, .inl (dA 2, 64, .inr (.inl (fun _ => 0)))), (q28, .inl (dA 1, 64, .inl (fun _ => 0))), (q29, .inl (dA 2, 256, .inr (.inl (fun _ => 0)))), (q30, .inl (dA 4, 32, .inr (.inr (.inr (.inr (fun _ => none)))))), (q31, .inl (dA 1, 64, .inl (fun _ => 0))), (q32, .inl (dA 2, 64, .inr (.inl (fun _ => 0)))), (q33, .inl (dA 2, 64, .inr (.inl (fun _ => 0)))), (q34, .inl (dA 1, 64, .inl (fun _ => 0))), (q35, .inl (dA 2, 256, .inr (.inl (fun _ => 0)))), (q8, .inl (dA 5, 256, .inr (.inr (.inr (.inr (fun _ => none)))))), (q9, .inr (4, [.ref q36, .ref q37, .ref q38, .int 0, .int 0, .int 0])), (q36, .inl (dA 1, 6, .inl (fun _ => 0))), (q37, .inl (dA 1, 6, .inl (fun _ => 0))), (q38, .inl (dA 1, 6, .inl (fun _ => 0))), (q10, .inr (5, [.ref q39, .int 0, .int 0, .int 0, .int 0, .long 0, .int 0, .int 0, .ref q40])), (q39, .inl (dA 0, 0, .inl (fun _ => 0))), (q40, .inr (6, [.ref e0, .int 0, .int 0])), (q11, .inr (7, [.ref q41, .int 0, .ref q42, .ref q43, .ref q44, .ref q45, .ref q46, .long 0, .long 0, .int 0])), (q42, .inl (dA 1, 256, .inl (fun _ => 0))), (q43, .inl (dA 3, 256, .inl (fun _ => 0))), (q44, .inl (dA 2, 256, .inr (.inl (fun _ => 0)))), (q45, .inl (dA 2, 64, .inr (.inl (fun _ => 0)))), (q46, .inl (dA 1, 64, .inl (fun _ => 0))), (q47, .inl (dA 6, 6, .inr (.inr (.inr (.inr (fun _ => none)))))), (q48, .inl (dA 5, 256, .inr (.inr (.inr (.inr (fun _ => none)))))), (q49, .inl (dA 2, 256, .inr (.inl (fun _ => 0)))), (q50, .inl (dA 2, 64, .inr (.inl (fun _ => 0)))), (q41, .inr (6, [.ref q51, .int 1, .int (0 + 1)])), (q52, .inr (8, [.ref q47, .int 0, .int 0, .int 0, .ref q48, .ref q49, .ref q50])), (q51, .inl (dA 7, 10, .inr (.inr (.inr (.inr (va_up (fun _ => none) 0 (some q52))))))), (q3, .inr (1, [.ref q12, .ref q13, .ref q14, .ref q15, .ref q16, .ref q17, .int 0, .int 0, .int 0, .int 8, .int 0, .int 0, .int 0])), (q4, .inr (2, [.ref q18, .ref q19, .ref q20, .int 0])), (q6, .inr (3, [.ref q24, .int 0, .ref q25, .ref q26, .ref q27, .ref q28, .int 0, .long 0, .int 0, .ref q29, .int 0])), (q7, .inr (3, [.ref q30, .int 0, .ref q31, .ref q32, .ref q33, .ref q34, .int 0, .long 0, .int 0, .ref q35, .int 0])), (q54, .inr (9, [.int 0, .ref q55, .int 0, .int 0, .int 0, .int 64, .int 8, .int 1, .int (-1), .int 0, .ref q56, .ref q57, .int 0, .ref q58, .int 0, .ref q59, .int 0, .ref q60, .ref q61, .ref q62, .ref q63, .ref q64, .ref q65, .int 0, .long 0, .long 0, .ref q66, .ref q67, .int 0, .int 0, .int 0, .ref q68, .ref q69, .ref q70, .ref q71, .ref q72, .ref q73, .int 0, .int 0, .int 0, .int 0, .int 0, .ref q74, .int 0, .int 0, .int 0, .int 0, .long 0, .ref q75, .ref q76, .ref q77, .ref q78, .ref q79, .ref q80, .ref q81, .int 0, .int 0, .long 0, .long 0, .int 0, .int 0, .ref q82, .ref q83, .ref q84, .ref q85, .ref q86, .ref q87, .ref q88, .int 0, .int 0, .int 0, .int 0, .int 0, .int 0, .int 0, .ref q89, .ref q90, .ref q91, .ref q92])), (q55, .inl (dA 0, 65536, .inl (fun _ => 0))), (q56, .inl (dA 0, 78128, .inl (fun _ => 0))), (q57, .inl (dA 1, 256, .inl (fun _ => 0))), (q58, .inl (dA 2, 256, .inr (.inl (fun _ => 0)))), (q59, .inl (dA 2, 256, .inr (.inl (fun _ => 0)))), (q60, .inl (dA 1, 12000, .inl (fun _ => 0))), (q61, .inl (dA 2, 12000, .inr (.inl (fun _ => 0)))), (q62, .inl (dA 2, 12000, .inr (.inl (fun _ => 0)))), (q63, .inl (dA 1, 12000, .inl (fun _ => 0))), (q64, .inl (dA 1, 12000, .inl (fun _ => 0))), (q65, .inl (dA 1, 12000, .inl (fun _ => 0))), (q66, .inl (dA 1, 40, .inl (fun _ => 0))), (q67, .inl (dA 1, 40, .inl (fun _ => 0))), (q68, .inl (dA 0, 32000, .inl (fun _ => 0))), (q69, .inl (dA 1, 32000, .inl (fun _ => 0))), (q70, .inl (dA 2, 32000, .inr (.inl (fun _ => 0)))), (q71, .inl (dA 2, 32000, .inr (.inl (fun _ => 0)))), (q72, .inl (dA 1, 32000, .inl (fun _ => 0))), (q73, .inl (dA 1, 32000, .inl (fun _ => 0))), (q74, .inl (dA 1, 28, .inl (fun _ => 0))), (q75, .inl (dA 1, 20, .inl (fun _ => 0))), (q76, .inl (dA 1, 120, .inl (fun _ => 0))), (q77, .inl (dA 1, 120, .inl (fun _ => 0))), (q78, .inl (dA 1, 20, .inl (fun _ => 0))), (q79, .inl (dA 1, 5120, .inl (fun _ => 0))), (q80, .inl (dA 2, 327680, .inr (.inl (fun _ => 0)))), (q81, .inl (dA 3, 327680, .inl (fun _ => 0))), (q82, .inl (dA 1, 256, .inl (fun _ => 0))), (q83, .inl (dA 2, 16384, .inr (.inl (fun _ => 0)))), (q84, .inl (dA 1, 16384, .inl (fun _ => 0))), (q85, .inl (dA 2, 256, .inr (.inl (fun _ => 0)))), (q86, .inl (dA 3, 256, .inl (fun _ => 0))), (q87, .inl (dA 1, 32, .inl (fun _ => 0))), (q88, .inl (dA 1, 32, .inl (fun _ => 0))), (q89, .inl (dA 0, 36864, .inl (fun _ => 0))), (q90, .inl (dA 1, 1536, .inl (fun _ => 0))), (q91, .inl (dA 2, 16384, .inr (.inl (fun _ => 0)))), (q92, .inl (dA 3, 16384, .inl (fun _ => 0))), (q94, .inl (dA 2, 1, .inr (.inl (fun _ => 0))))] := hD
  refine lv_astore_n hx hb d_SeriesVaultLaw_law_19 rfl hl (by decide) rfl (fun ls hl => ?_)
  have hl : lv_has ls 8 [(3, .ref q94), (2, .ref q54), (1, .ref q1), (0, .ref b)] := hl
  refine lv_iconst (v := 0) hx hb d_SeriesVaultLaw_law_20 (by decide) ?_
  refine lv_istore hx hb d_SeriesVaultLaw_law_21 hl (by decide) rfl (fun ls hl => ?_)
  have hl : lv_has ls 8 [(4, .int 0), (3, .ref q94), (2, .ref q54), (1, .ref q1), (0, .ref b)] := hl
  have hPc := hP.sub (ws' := [(q54, .inr (9, [.int 0, .ref q55, .int 0, .int 0, .int 0, .int 64, .int 8, .int 1, .int (-1), .int 0, .ref q56, .ref q57, .int 0, .ref q58, .int 0, .ref q59, .int 0, .ref q60, .ref q61, .ref q62, .ref q63, .ref q64, .ref q65, .int 0, .long 0, .long 0, .ref q66, .ref q67, .int 0, .int 0, .int 0, .ref q68, .ref q69, .ref q70, .ref q71, .ref q72, .ref q73, .int 0, .int 0, .int 0, .int 0, .int 0, .ref q74, .int 0, .int 0, .int 0, .int 0, .long 0, .ref q75, .ref q76, .ref q77, .ref q78, .ref q79, .ref q80, .ref q81, .int 0, .int 0, .long 0, .long 0, .int 0, .int 0, .ref q82, .ref q83, .ref q84, .ref q85, .ref q86, .ref q87, .ref q88, .int 0, .int 0, .int 0, .int 0, .int 0, .int 0, .int 0, .ref q89, .ref q90, .ref q91, .ref q92])), (q55, .inl (dA 0, 65536, .inl (fun _ => 0))), (q56, .inl (dA 0, 78128, .inl (fun _ => 0))), (q57, .inl (dA 1, 256, .inl (fun _ => 0))), (q58, .inl (dA 2, 256, .inr (.inl (fun _ => 0)))), (q59, .inl (dA 2, 256, .inr (.inl (fun _ => 0)))), (q60, .inl (dA 1, 12000, .inl (fun _ => 0))), (q61, .inl (dA 2, 12000, .inr (.inl (fun _ => 0)))), (q62, .inl (dA 2, 12000, .inr (.inl (fun _ => 0)))), (q63, .inl (dA 1, 12000, .inl (fun _ => 0))), (q64, .inl (dA 1, 12000, .inl (fun _ => 0))), (q65, .inl (dA 1, 12000, .inl (fun _ => 0))), (q66, .inl (dA 1, 40, .inl (fun _ => 0))), (q67, .inl (dA 1, 40, .inl (fun _ => 0))), (q68, .inl (dA 0, 32000, .inl (fun _ => 0))), (q69, .inl (dA 1, 32000, .inl (fun _ => 0))), (q70, .inl (dA 2, 32000, .inr (.inl (fun _ => 0)))), (q71, .inl (dA 2, 32000, .inr (.inl (fun _ => 0)))), (q72, .inl (dA 1, 32000, .inl (fun _ => 0))), (q73, .inl (dA 1, 32000, .inl (fun _ => 0))), (q74, .inl (dA 1, 28, .inl (fun _ => 0))), (q75, .inl (dA 1, 20, .inl (fun _ => 0))), (q76, .inl (dA 1, 120, .inl (fun _ => 0))), (q77, .inl (dA 1, 120, .inl (fun _ => 0))), (q78, .inl (dA 1, 20, .inl (fun _ => 0))), (q79, .inl (dA 1, 5120, .inl (fun _ => 0))), (q80, .inl (dA 2, 327680, .inr (.inl (fun _ => 0)))), (q81, .inl (dA 3, 327680, .inl (fun _ => 0))), (q82, .inl (dA 1, 256, .inl (fun _ => 0))), (q83, .inl (dA 2, 16384, .inr (.inl (fun _ => 0)))), (q84, .inl (dA 1, 16384, .inl (fun _ => 0))), (q85, .inl (dA 2, 256, .inr (.inl (fun _ => 0)))), (q86, .inl (dA 3, 256, .inl (fun _ => 0))), (q87, .inl (dA 1, 32, .inl (fun _ => 0))), (q88, .inl (dA 1, 32, .inl (fun _ => 0))), (q89, .inl (dA 0, 36864, .inl (fun _ => 0))), (q90, .inl (dA 1, 1536, .inl (fun _ => 0))), (q91, .inl (dA 2, 16384, .inr (.inl (fun _ => 0)))), (q92, .inl (dA 3, 16384, .inl (fun _ => 0))), (q94, .inl (dA 2, 1, .inr (.inl (fun _ => 0)))), (q1, .inr (0, [.ref q2, .int 0, .int 0, .int 0, .int 64, .int 1, .int (-1), .int 0, .ref q3, .ref q4, .ref q5, .ref q6, .ref q7, .ref q8, .ref q9, .ref q10, .ref q11, .int 0])), (q2, .inl (dA 0, 256, .inl (fun _ => 0))), (q3, .inr (1, [.ref q12, .ref q13, .ref q14, .ref q15, .ref q16, .ref q17, .int 0, .int 0, .int 0, .int 8, .int 0, .int 0, .int 0])), (q12, .inl (dA 1, 32, .inl (fun _ => 0))), (q13, .inl (dA 1, 32, .inl (fun _ => 0))), (q14, .inl (dA 1, 32, .inl (fun _ => 0))), (q15, .inl (dA 1, 32, .inl (fun _ => 0))), (q16, .inl (dA 2, 32, .inr (.inl (fun _ => 0)))), (q17, .inl (dA 2, 32, .inr (.inl (fun _ => 0)))), (q4, .inr (2, [.ref q18, .ref q19, .ref q20, .int 0])), (q18, .inl (dA 1, 32, .inl (fun _ => 0))), (q19, .inl (dA 2, 32, .inr (.inl (fun _ => 0)))), (q20, .inl (dA 2, 32, .inr (.inl (fun _ => 0)))), (q5, .inr (2, [.ref q21, .ref q22, .ref q23, .int 0])), (q21, .inl (dA 1, 32, .inl (fun _ => 0))), (q22, .inl (dA 2, 32, .inr (.inl (fun _ => 0)))), (q23, .inl (dA 2, 32, .inr (.inl (fun _ => 0)))), (q6, .inr (3, [.ref q24, .int 0, .ref q25, .ref q26, .ref q27, .ref q28, .int 0, .long 0, .int 0, .ref q29, .int 0])), (q24, .inl (dA 4, 32, .inr (.inr (.inr (.inr (fun _ => none)))))), (q25, .inl (dA 1, 64, .inl (fun _ => 0))), (q26, .inl (dA 2, 64, .inr (.inl (fun _ => 0)))), (q27, .inl (dA 2, 64, .inr (.inl (fun _ => 0)))), (q28, .inl (dA 1, 64, .inl (fun _ => 0))), (q29, .inl (dA 2, 256, .inr (.inl (fun _ => 0)))), (q7, .inr (3, [.ref q30, .int 0, .ref q31, .ref q32, .ref q33, .ref q34, .int 0, .long 0, .int 0, .ref q35, .int 0])), (q30, .inl (dA 4, 32, .inr (.inr (.inr (.inr (fun _ => none)))))), (q31, .inl (dA 1, 64, .inl (fun _ => 0))), (q32, .inl (dA 2, 64, .inr (.inl (fun _ => 0)))), (q33, .inl (dA 2, 64, .inr (.inl (fun _ => 0)))), (q34, .inl (dA 1, 64, .inl (fun _ => 0))), (q35, .inl (dA 2, 256, .inr (.inl (fun _ => 0)))), (q8, .inl (dA 5, 256, .inr (.inr (.inr (.inr (fun _ => none)))))), (q9, .inr (4, [.ref q36, .ref q37, .ref q38, .int 0, .int 0, .int 0])), (q36, .inl (dA 1, 6, .inl (fun _ => 0))), (q37, .inl (dA 1, 6, .inl (fun _ => 0))), (q38, .inl (dA 1, 6, .inl (fun _ => 0))), (q10, .inr (5, [.ref q39, .int 0, .int 0, .int 0, .int 0, .long 0, .int 0, .int 0, .ref q40])), (q11, .inr (7, [.ref q41, .int 0, .ref q42, .ref q43, .ref q44, .ref q45, .ref q46, .long 0, .long 0, .int 0])), (q42, .inl (dA 1, 256, .inl (fun _ => 0))), (q43, .inl (dA 3, 256, .inl (fun _ => 0))), (q44, .inl (dA 2, 256, .inr (.inl (fun _ => 0)))), (q45, .inl (dA 2, 64, .inr (.inl (fun _ => 0)))), (q46, .inl (dA 1, 64, .inl (fun _ => 0))), (q40, .inr (6, [.ref e0, .int 0, .int 0])), (q41, .inr (6, [.ref q51, .int 1, .int (0 + 1)])), (q51, .inl (dA 7, 10, .inr (.inr (.inr (.inr (va_up (fun _ => none) 0 (some q52))))))), (q52, .inr (8, [.ref q47, .int 0, .int 0, .int 0, .ref q48, .ref q49, .ref q50])), (q47, .inl (dA 6, 6, .inr (.inr (.inr (.inr (fun _ => none)))))), (q48, .inl (dA 5, 256, .inr (.inr (.inr (.inr (fun _ => none)))))), (q49, .inl (dA 2, 256, .inr (.inl (fun _ => 0)))), (q50, .inl (dA 2, 64, .inr (.inl (fun _ => 0))))]) [52, 53, 54, 55, 56, 57, 58, 59, 60, 61, 62, 63, 64, 65, 66, 67, 68, 69, 70, 71, 72, 73, 74, 75, 76, 77, 78, 79, 80, 81, 82, 83, 84, 85, 86, 87, 88, 89, 90, 91, 0, 1, 48, 2, 3, 4, 5, 6, 7, 49, 8, 9, 10, 11, 12, 13, 14, 50, 15, 16, 17, 18, 19, 20, 51, 21, 22, 23, 24, 25, 26, 27, 28, 29, 30, 31, 32, 35, 36, 37, 38, 39, 40, 34, 45, 47, 46, 41, 42, 43, 44] rfl
  have hDc := hD.sub (ws' := [(q54, .inr (9, [.int 0, .ref q55, .int 0, .int 0, .int 0, .int 64, .int 8, .int 1, .int (-1), .int 0, .ref q56, .ref q57, .int 0, .ref q58, .int 0, .ref q59, .int 0, .ref q60, .ref q61, .ref q62, .ref q63, .ref q64, .ref q65, .int 0, .long 0, .long 0, .ref q66, .ref q67, .int 0, .int 0, .int 0, .ref q68, .ref q69, .ref q70, .ref q71, .ref q72, .ref q73, .int 0, .int 0, .int 0, .int 0, .int 0, .ref q74, .int 0, .int 0, .int 0, .int 0, .long 0, .ref q75, .ref q76, .ref q77, .ref q78, .ref q79, .ref q80, .ref q81, .int 0, .int 0, .long 0, .long 0, .int 0, .int 0, .ref q82, .ref q83, .ref q84, .ref q85, .ref q86, .ref q87, .ref q88, .int 0, .int 0, .int 0, .int 0, .int 0, .int 0, .int 0, .ref q89, .ref q90, .ref q91, .ref q92])), (q55, .inl (dA 0, 65536, .inl (fun _ => 0))), (q56, .inl (dA 0, 78128, .inl (fun _ => 0))), (q57, .inl (dA 1, 256, .inl (fun _ => 0))), (q58, .inl (dA 2, 256, .inr (.inl (fun _ => 0)))), (q59, .inl (dA 2, 256, .inr (.inl (fun _ => 0)))), (q60, .inl (dA 1, 12000, .inl (fun _ => 0))), (q61, .inl (dA 2, 12000, .inr (.inl (fun _ => 0)))), (q62, .inl (dA 2, 12000, .inr (.inl (fun _ => 0)))), (q63, .inl (dA 1, 12000, .inl (fun _ => 0))), (q64, .inl (dA 1, 12000, .inl (fun _ => 0))), (q65, .inl (dA 1, 12000, .inl (fun _ => 0))), (q66, .inl (dA 1, 40, .inl (fun _ => 0))), (q67, .inl (dA 1, 40, .inl (fun _ => 0))), (q68, .inl (dA 0, 32000, .inl (fun _ => 0))), (q69, .inl (dA 1, 32000, .inl (fun _ => 0))), (q70, .inl (dA 2, 32000, .inr (.inl (fun _ => 0)))), (q71, .inl (dA 2, 32000, .inr (.inl (fun _ => 0)))), (q72, .inl (dA 1, 32000, .inl (fun _ => 0))), (q73, .inl (dA 1, 32000, .inl (fun _ => 0))), (q74, .inl (dA 1, 28, .inl (fun _ => 0))), (q75, .inl (dA 1, 20, .inl (fun _ => 0))), (q76, .inl (dA 1, 120, .inl (fun _ => 0))), (q77, .inl (dA 1, 120, .inl (fun _ => 0))), (q78, .inl (dA 1, 20, .inl (fun _ => 0))), (q79, .inl (dA 1, 5120, .inl (fun _ => 0))), (q80, .inl (dA 2, 327680, .inr (.inl (fun _ => 0)))), (q81, .inl (dA 3, 327680, .inl (fun _ => 0))), (q82, .inl (dA 1, 256, .inl (fun _ => 0))), (q83, .inl (dA 2, 16384, .inr (.inl (fun _ => 0)))), (q84, .inl (dA 1, 16384, .inl (fun _ => 0))), (q85, .inl (dA 2, 256, .inr (.inl (fun _ => 0)))), (q86, .inl (dA 3, 256, .inl (fun _ => 0))), (q87, .inl (dA 1, 32, .inl (fun _ => 0))), (q88, .inl (dA 1, 32, .inl (fun _ => 0))), (q89, .inl (dA 0, 36864, .inl (fun _ => 0))), (q90, .inl (dA 1, 1536, .inl (fun _ => 0))), (q91, .inl (dA 2, 16384, .inr (.inl (fun _ => 0)))), (q92, .inl (dA 3, 16384, .inl (fun _ => 0))), (q94, .inl (dA 2, 1, .inr (.inl (fun _ => 0)))), (q1, .inr (0, [.ref q2, .int 0, .int 0, .int 0, .int 64, .int 1, .int (-1), .int 0, .ref q3, .ref q4, .ref q5, .ref q6, .ref q7, .ref q8, .ref q9, .ref q10, .ref q11, .int 0])), (q2, .inl (dA 0, 256, .inl (fun _ => 0))), (q3, .inr (1, [.ref q12, .ref q13, .ref q14, .ref q15, .ref q16, .ref q17, .int 0, .int 0, .int 0, .int 8, .int 0, .int 0, .int 0])), (q12, .inl (dA 1, 32, .inl (fun _ => 0))), (q13, .inl (dA 1, 32, .inl (fun _ => 0))), (q14, .inl (dA 1, 32, .inl (fun _ => 0))), (q15, .inl (dA 1, 32, .inl (fun _ => 0))), (q16, .inl (dA 2, 32, .inr (.inl (fun _ => 0)))), (q17, .inl (dA 2, 32, .inr (.inl (fun _ => 0)))), (q4, .inr (2, [.ref q18, .ref q19, .ref q20, .int 0])), (q18, .inl (dA 1, 32, .inl (fun _ => 0))), (q19, .inl (dA 2, 32, .inr (.inl (fun _ => 0)))), (q20, .inl (dA 2, 32, .inr (.inl (fun _ => 0)))), (q5, .inr (2, [.ref q21, .ref q22, .ref q23, .int 0])), (q21, .inl (dA 1, 32, .inl (fun _ => 0))), (q22, .inl (dA 2, 32, .inr (.inl (fun _ => 0)))), (q23, .inl (dA 2, 32, .inr (.inl (fun _ => 0)))), (q6, .inr (3, [.ref q24, .int 0, .ref q25, .ref q26, .ref q27, .ref q28, .int 0, .long 0, .int 0, .ref q29, .int 0])), (q24, .inl (dA 4, 32, .inr (.inr (.inr (.inr (fun _ => none)))))), (q25, .inl (dA 1, 64, .inl (fun _ => 0))), (q26, .inl (dA 2, 64, .inr (.inl (fun _ => 0)))), (q27, .inl (dA 2, 64, .inr (.inl (fun _ => 0)))), (q28, .inl (dA 1, 64, .inl (fun _ => 0))), (q29, .inl (dA 2, 256, .inr (.inl (fun _ => 0)))), (q7, .inr (3, [.ref q30, .int 0, .ref q31, .ref q32, .ref q33, .ref q34, .int 0, .long 0, .int 0, .ref q35, .int 0])), (q30, .inl (dA 4, 32, .inr (.inr (.inr (.inr (fun _ => none)))))), (q31, .inl (dA 1, 64, .inl (fun _ => 0))), (q32, .inl (dA 2, 64, .inr (.inl (fun _ => 0)))), (q33, .inl (dA 2, 64, .inr (.inl (fun _ => 0)))), (q34, .inl (dA 1, 64, .inl (fun _ => 0))), (q35, .inl (dA 2, 256, .inr (.inl (fun _ => 0)))), (q8, .inl (dA 5, 256, .inr (.inr (.inr (.inr (fun _ => none)))))), (q9, .inr (4, [.ref q36, .ref q37, .ref q38, .int 0, .int 0, .int 0])), (q36, .inl (dA 1, 6, .inl (fun _ => 0))), (q37, .inl (dA 1, 6, .inl (fun _ => 0))), (q38, .inl (dA 1, 6, .inl (fun _ => 0))), (q10, .inr (5, [.ref q39, .int 0, .int 0, .int 0, .int 0, .long 0, .int 0, .int 0, .ref q40])), (q11, .inr (7, [.ref q41, .int 0, .ref q42, .ref q43, .ref q44, .ref q45, .ref q46, .long 0, .long 0, .int 0])), (q42, .inl (dA 1, 256, .inl (fun _ => 0))), (q43, .inl (dA 3, 256, .inl (fun _ => 0))), (q44, .inl (dA 2, 256, .inr (.inl (fun _ => 0)))), (q45, .inl (dA 2, 64, .inr (.inl (fun _ => 0)))), (q46, .inl (dA 1, 64, .inl (fun _ => 0))), (q40, .inr (6, [.ref e0, .int 0, .int 0])), (q41, .inr (6, [.ref q51, .int 1, .int (0 + 1)])), (q51, .inl (dA 7, 10, .inr (.inr (.inr (.inr (va_up (fun _ => none) 0 (some q52))))))), (q52, .inr (8, [.ref q47, .int 0, .int 0, .int 0, .ref q48, .ref q49, .ref q50])), (q47, .inl (dA 6, 6, .inr (.inr (.inr (.inr (fun _ => none)))))), (q48, .inl (dA 5, 256, .inr (.inr (.inr (.inr (fun _ => none)))))), (q49, .inl (dA 2, 256, .inr (.inl (fun _ => 0)))), (q50, .inl (dA 2, 64, .inr (.inl (fun _ => 0))))]) [52, 53, 54, 55, 56, 57, 58, 59, 60, 61, 62, 63, 64, 65, 66, 67, 68, 69, 70, 71, 72, 73, 74, 75, 76, 77, 78, 79, 80, 81, 82, 83, 84, 85, 86, 87, 88, 89, 90, 91, 0, 1, 48, 2, 3, 4, 5, 6, 7, 49, 8, 9, 10, 11, 12, 13, 14, 50, 15, 16, 17, 18, 19, 20, 51, 21, 22, 23, 24, 25, 26, 27, 28, 29, 30, 31, 32, 35, 36, 37, 38, 39, 40, 34, 45, 47, 46, 41, 42, 43, 44] (by decide) rfl
  have hP9 : va_P D vwCl (MW dA q54 (fun k => ([0, q55, 0, 0, 0, 0, 0, 0, 0, 0, q56, q57, 0, q58, 0, q59, 0, q60, q61, q62, q63, q64, q65, 0, 0, 0, q66, q67, 0, 0, 0, q68, q69, q70, q71, q72, q73, 0, 0, 0, 0, 0, q74, 0, 0, 0, 0, 0, q75, q76, q77, q78, q79, q80, q81, 0, 0, 0, 0, 0, 0, q82, q83, q84, q85, q86, q87, q88, 0, 0, 0, 0, 0, 0, 0, q89, q90, q91, q92] : List Nat).getD k 0) m9 ++ ([(q94, .inl (dA 2, 1, .inr (.inl (fun _ => 0))))] ++ (VW dA q1 (fun k => ([q3, q4, q5, q6, q24, q25, q26, q27, q28, q29, q7, q30, q31, q32, q33, q34, q35, q8, q9, q36, q37, q38, q10, q40, q11, q41, q42, q43, q44] : List Nat).getD k 0) (x9 dA e0 q2 (fun k => ([q12, q13, q14, q15, q16, q17] : List Nat).getD k 0) (fun k => ([q18, q19, q20] : List Nat).getD k 0) (fun k => ([q21, q22, q23] : List Nat).getD k 0) (fun k => ([q45, q46] : List Nat).getD k 0) q39 (fun k => ([q3, q4, q5, q6, q24, q25, q26, q27, q28, q29, q7, q30, q31, q32, q33, q34, q35, q8, q9, q36, q37, q38, q10, q40, q11, q41, q42, q43, q44] : List Nat).getD k 0) q51 (fun k => ([q52, q47, q48, q49] : List Nat).getD k 0) q50)))) H := hPc
  have hD9 : va_D A (MW dA q54 (fun k => ([0, q55, 0, 0, 0, 0, 0, 0, 0, 0, q56, q57, 0, q58, 0, q59, 0, q60, q61, q62, q63, q64, q65, 0, 0, 0, q66, q67, 0, 0, 0, q68, q69, q70, q71, q72, q73, 0, 0, 0, 0, 0, q74, 0, 0, 0, 0, 0, q75, q76, q77, q78, q79, q80, q81, 0, 0, 0, 0, 0, 0, q82, q83, q84, q85, q86, q87, q88, 0, 0, 0, 0, 0, 0, 0, q89, q90, q91, q92] : List Nat).getD k 0) m9 ++ ([(q94, .inl (dA 2, 1, .inr (.inl (fun _ => 0))))] ++ (VW dA q1 (fun k => ([q3, q4, q5, q6, q24, q25, q26, q27, q28, q29, q7, q30, q31, q32, q33, q34, q35, q8, q9, q36, q37, q38, q10, q40, q11, q41, q42, q43, q44] : List Nat).getD k 0) (x9 dA e0 q2 (fun k => ([q12, q13, q14, q15, q16, q17] : List Nat).getD k 0) (fun k => ([q18, q19, q20] : List Nat).getD k 0) (fun k => ([q21, q22, q23] : List Nat).getD k 0) (fun k => ([q45, q46] : List Nat).getD k 0) q39 (fun k => ([q3, q4, q5, q6, q24, q25, q26, q27, q28, q29, q7, q30, q31, q32, q33, q34, q35, q8, q9, q36, q37, q38, q10, q40, q11, q41, q42, q43, q44] : List Nat).getD k 0) q51 (fun k => ([q52, q47, q48, q49] : List Nat).getD k 0) q50)))) := hDc
  have hl9 := lv_sub (l' := [(4, .int (nI 0)), (3, .ref q94), (2, .ref q54), (1, .ref q1), (0, .ref b)]) hl [0, 1, 2, 3, 4] rfl
  exact cont q1 q54 q94 q2 (fun k => ([q12, q13, q14, q15, q16, q17] : List Nat).getD k 0) (fun k => ([q18, q19, q20] : List Nat).getD k 0) (fun k => ([q21, q22, q23] : List Nat).getD k 0) (fun k => ([q45, q46] : List Nat).getD k 0) q39 (fun k => ([q3, q4, q5, q6, q24, q25, q26, q27, q28, q29, q7, q30, q31, q32, q33, q34, q35, q8, q9, q36, q37, q38, q10, q40, q11, q41, q42, q43, q44] : List Nat).getD k 0) (fun k => ([0, q55, 0, 0, 0, 0, 0, 0, 0, 0, q56, q57, 0, q58, 0, q59, 0, q60, q61, q62, q63, q64, q65, 0, 0, 0, q66, q67, 0, 0, 0, q68, q69, q70, q71, q72, q73, 0, 0, 0, 0, 0, q74, 0, 0, 0, 0, 0, q75, q76, q77, q78, q79, q80, q81, 0, 0, 0, 0, 0, 0, q82, q83, q84, q85, q86, q87, q88, 0, 0, 0, 0, 0, 0, 0, q89, q90, q91, q92] : List Nat).getD k 0) q51 (fun k => ([q52, q47, q48, q49] : List Nat).getD k 0) q50 (fun _ => 0) _ _ _ hP9 hD9 hS hl9
end
section
/-! Contracts in one form. -/
section NF
variable {l : Launch} {y : MethodName} {ws : List Cond} {rm : Room} {Pc Pc2 : Nat → Array Value → State → Prop} {D : va_G} {dA : Nat → ClassId} {W0 : va_W} {h : Nat} {ad : Nat → Nat} {mc ms : Nat} {S : Type} {F : VS → Prop}
theorem mX_w {Pd Pe : Array Value → State → Prop} {E : String} {B B' : State → State → Prop} {free : Addr → Prop} (h : mX l y ws rm Pd E B mc ms free) (hB : ∀ st t, B st t → B' st t) (hP : ∀ a st, Pe a st → Pd a st) : mX l y ws rm Pe E B' mc ms free := by
  intro p e ha hc hk s m args below hs hap hpre hK
  obtain ⟨n, o, a1, a2, a3, x, ce, r1, r2, r3, r4, r5, r6, r7⟩ := h p e ha hc hk s m args below hs hap (hP _ _ hpre) hK
  exact ⟨n, o, a1, a2, a3, x, ce, r1, r2, r3, r4, r5, r6, hB _ _ r7⟩
theorem nf_i {post : Int32 → S → Prop} {w : S → VS} {v : Int32} (hm : ∀ sz, Met l y ws rm (Pc sz) (va_Qi post (fun u t => bW D (va_A W0 sz) (VW dA h ad (w u)) t) (va_A W0 sz)) mc ms (va_A W0 sz)) (hF : ∀ r u, post r u → r = v ∧ F (w u)) (hP : ∀ sz a st, Pc2 sz a st → Pc sz a st) : ∀ sz, Met l y ws rm (Pc2 sz) (va_Qi (fun (r : Int32) (u : VS) => r = v ∧ F u) (fun (u : VS) t => bW D (va_A W0 sz) (VW dA h ad u) t) (va_A W0 sz)) mc ms (va_A W0 sz) := by
  intro sz
  refine Met_mono (hm sz) (Nat.le_refl _) (Nat.le_refl _) (Nat.le_refl _) (Nat.le_refl _) (Nat.le_refl _) (Nat.le_refl _) (hP sz) ?_ (fun _ q => q)
  rintro a st o t ⟨⟨r, u, c1, c2, c3⟩, c4⟩
  exact ⟨⟨r, w u, c1, hF r u c2, c3⟩, c4⟩
theorem nf_l {post : Int64 → S → Prop} {w : S → VS} {v : Int64} (hm : ∀ sz, Met l y ws rm (Pc sz) (va_Ql post (fun u t => bW D (va_A W0 sz) (VW dA h ad (w u)) t) (va_A W0 sz)) mc ms (va_A W0 sz)) (hF : ∀ r u, post r u → r = v ∧ F (w u)) (hP : ∀ sz a st, Pc2 sz a st → Pc sz a st) : ∀ sz, Met l y ws rm (Pc2 sz) (va_Ql (fun (r : Int64) (u : VS) => r = v ∧ F u) (fun (u : VS) t => bW D (va_A W0 sz) (VW dA h ad u) t) (va_A W0 sz)) mc ms (va_A W0 sz) := by
  intro sz
  refine Met_mono (hm sz) (Nat.le_refl _) (Nat.le_refl _) (Nat.le_refl _) (Nat.le_refl _) (Nat.le_refl _) (Nat.le_refl _) (hP sz) ?_ (fun _ q => q)
  rintro a st o t ⟨⟨r, u, c1, c2, c3⟩, c4⟩
  exact ⟨⟨r, w u, c1, hF r u c2, c3⟩, c4⟩
theorem nf_v {post : S → Prop} {w : S → VS} (hm : ∀ sz, Met l y ws rm (Pc sz) (va_Qv post (fun u t => bW D (va_A W0 sz) (VW dA h ad (w u)) t) (va_A W0 sz)) mc ms (va_A W0 sz)) (hF : ∀ u, post u → F (w u)) (hP : ∀ sz a st, Pc2 sz a st → Pc sz a st) : ∀ sz, Met l y ws rm (Pc2 sz) (va_Qv (fun (u : VS) => F u) (fun (u : VS) t => bW D (va_A W0 sz) (VW dA h ad u) t) (va_A W0 sz)) mc ms (va_A W0 sz) := by
  intro sz
  refine Met_mono (hm sz) (Nat.le_refl _) (Nat.le_refl _) (Nat.le_refl _) (Nat.le_refl _) (Nat.le_refl _) (Nat.le_refl _) (hP sz) ?_ (fun _ q => q)
  rintro a st o t ⟨⟨u, c1, c2, c3⟩, c4⟩
  exact ⟨⟨w u, c1, hF u c2, c3⟩, c4⟩
theorem nf_x0 {E : String} {X : VS} (hm : ∀ sz, mX l y ws rm (Pc sz) E (fun st t => va_F (va_A W0 sz) st t ∧ bW D (va_A W0 sz) (VW dA h ad X) t) mc ms (va_A W0 sz)) (hF : F X) (hP : ∀ sz a st, Pc2 sz a st → Pc sz a st) : ∀ sz, mX l y ws rm (Pc2 sz) E (fun st t => va_F (va_A W0 sz) st t ∧ ∃ u : VS, F u ∧ bW D (va_A W0 sz) (VW dA h ad u) t) mc ms (va_A W0 sz) :=
  fun sz => mX_w (hm sz) (fun st t q => ⟨q.1, X, hF, q.2⟩) (hP sz)
theorem nf_x1 {E : String} {post : S → Prop} {w : S → VS} (hm : ∀ sz, mX l y ws rm (Pc sz) E (fun st t => va_F (va_A W0 sz) st t ∧ ∃ u : S, post u ∧ bW D (va_A W0 sz) (VW dA h ad (w u)) t) mc ms (va_A W0 sz)) (hF : ∀ u, post u → F (w u)) (hP : ∀ sz a st, Pc2 sz a st → Pc sz a st) : ∀ sz, mX l y ws rm (Pc2 sz) E (fun st t => va_F (va_A W0 sz) st t ∧ ∃ u : VS, F u ∧ bW D (va_A W0 sz) (VW dA h ad u) t) mc ms (va_A W0 sz) :=
  fun sz => mX_w (hm sz) (fun st t q => by
    obtain ⟨q1, u, q2, q3⟩ := q
    exact ⟨q1, w u, hF u q2, q3⟩) (hP sz)
/-- the reference's -/
theorem nm_v {mad : Nat → Nat} {M1 : MS} {post : S → Prop} {w : S → MS} (hm : ∀ sz, Met l y ws rm (Pc sz) (va_Qv post (fun u t => bW D (va_A W0 sz) (MW dA h mad (w u)) t) (va_A W0 sz)) mc ms (va_A W0 sz)) (hF : ∀ u, post u → w u = M1) (hP : ∀ sz a st, Pc2 sz a st → Pc sz a st) : ∀ sz, Met l y ws rm (Pc2 sz) (va_Qv (fun (_ : Unit) => True) (fun (_ : Unit) t => bW D (va_A W0 sz) (MW dA h mad M1) t) (va_A W0 sz)) mc ms (va_A W0 sz) := by
  intro sz
  refine Met_mono (hm sz) (Nat.le_refl _) (Nat.le_refl _) (Nat.le_refl _) (Nat.le_refl _) (Nat.le_refl _) (Nat.le_refl _) (hP sz) ?_ (fun _ q => q)
  rintro a st o t ⟨⟨u, c1, c2, c3⟩, c4⟩
  rw [hF u c2] at c3
  exact ⟨⟨(), c1, trivial, c3⟩, c4⟩
theorem nm_i {mad : Nat → Nat} {M1 : MS} {b : Int32} {post : Int32 → S → Prop} {w : S → MS} (hm : ∀ sz, Met l y ws rm (Pc sz) (va_Qi post (fun u t => bW D (va_A W0 sz) (MW dA h mad (w u)) t) (va_A W0 sz)) mc ms (va_A W0 sz)) (hF : ∀ r u, post r u → r = b ∧ w u = M1) (hP : ∀ sz a st, Pc2 sz a st → Pc sz a st) : ∀ sz, Met l y ws rm (Pc2 sz) (va_Qi (fun (r : Int32) (_ : Unit) => r = b) (fun (_ : Unit) t => bW D (va_A W0 sz) (MW dA h mad M1) t) (va_A W0 sz)) mc ms (va_A W0 sz) := by
  intro sz
  refine Met_mono (hm sz) (Nat.le_refl _) (Nat.le_refl _) (Nat.le_refl _) (Nat.le_refl _) (Nat.le_refl _) (Nat.le_refl _) (hP sz) ?_ (fun _ q => q)
  rintro a st o t ⟨⟨r, u, c1, c2, c3⟩, c4⟩
  obtain ⟨d1, d2⟩ := hF r u c2
  rw [d2] at c3
  exact ⟨⟨r, (), c1, d1, c3⟩, c4⟩
theorem nm_l {mad : Nat → Nat} {M1 : MS} {b : Int64} {post : Int64 → S → Prop} {w : S → MS} (hm : ∀ sz, Met l y ws rm (Pc sz) (va_Ql post (fun u t => bW D (va_A W0 sz) (MW dA h mad (w u)) t) (va_A W0 sz)) mc ms (va_A W0 sz)) (hF : ∀ r u, post r u → r = b ∧ w u = M1) (hP : ∀ sz a st, Pc2 sz a st → Pc sz a st) : ∀ sz, Met l y ws rm (Pc2 sz) (va_Ql (fun (r : Int64) (_ : Unit) => r = b) (fun (_ : Unit) t => bW D (va_A W0 sz) (MW dA h mad M1) t) (va_A W0 sz)) mc ms (va_A W0 sz) := by
  intro sz
  refine Met_mono (hm sz) (Nat.le_refl _) (Nat.le_refl _) (Nat.le_refl _) (Nat.le_refl _) (Nat.le_refl _) (Nat.le_refl _) (hP sz) ?_ (fun _ q => q)
  rintro a st o t ⟨⟨r, u, c1, c2, c3⟩, c4⟩
  obtain ⟨d1, d2⟩ := hF r u c2
  rw [d2] at c3
  exact ⟨⟨r, (), c1, d1, c3⟩, c4⟩
end NF
end
section
/-! THE RELATION of the class and the reference, between two calls. -/
/-- tape, fault, disk's size, power -/
def rlT (m : MS) (x : VS) : Prop := (m.tape = x.tape ∧ m.length = x.tapeLength ∧ (∀ i, x.tpN ≤ i → x.tape i = 0) ∧ byteF x.tape) ∧ (x.tapeLength ≤ x.tpN ∧ 256 ≤ x.tpN ∧ x.tpN ≤ 65536) ∧ (m.faultCode = x.faultCode ∧ m.faultPlace = x.faultPlace) ∧ m.blocks = x.diskBlocks ∧ x.diskBlocks ≤ 256 ∧ m.on = x.powered
/-- the series' texts -/
def rlS (dA : Nat → ClassId) (SS : Nat → List LB) (m : MS) (x : VS) : Prop := txR m.texts m.textLengths m.seriesCount SS ∧ (∀ q, q < m.seriesCount → serG (SS q)) ∧ knOk dA x.kn x.nser x.pl SS ∧ byteF m.texts ∧ ∀ q, q < m.seriesCount → m.tOK q ∧ asc (joinT (SS q))
/-- the journal's blocks; the texts' lengths that its records tell -/
def fgX (x : VS) : Prop := ((fgG x.jB x.jU x.jsize).1 = x.jblock ∧ (fgG x.jB x.jU x.jsize).2.1 = x.jfill) ∧ ∀ r, r < x.jsize → x.jB r < x.jlimit ∧ (fgG x.jB x.jU (r + 1)).2.1 ≤ 126
def ftM (m : MS) (x : VS) : Prop := ∀ r, r < x.jsize → x.jK r = 0 → m.firsts r = lN (m.textLengths (m.recordSeries r))
/-- sizes; n calls were made -/
def rlN (dA : Nat → ClassId) (PS : Nat → PT) (m : MS) (x : VS) (n : Nat) : Prop :=
  (x.nser ≤ 256 ∧ x.npc ≤ 32 ∧ x.nsc ≤ 64 ∧ psOk dA x.nP x.npc x.pl PS) ∧ (x.jlimit + 2 + (x.ncat + sumN x.npc (blN PS)) ≤ x.diskBlocks ∧ x.jfill ≤ 126 ∧ x.jblock < x.jlimit) ∧
  (x.jsize ≤ x.jN ∧ 0 < x.jN ∧ x.jN ≤ 4096 ∧ x.hsize ≤ x.hN ∧ 0 < x.hN ∧ x.hN ≤ 4096 ∧ 0 < x.gN ∧ x.gN ≤ 8192) ∧
  (16 * x.jsize + x.tapeLength ≤ 32 * n ∧ 16 * x.hsize + x.tapeLength ≤ 32 * n ∧ 16 * (cnt m.points m.pkd + cnt x.jsize (fun r => decide (x.jK r = 1))) + x.tapeLength ≤ 32 * n ∧ m.points ≤ cnt m.points m.pkd + cnt x.jsize (fun r => decide (x.jK r = 1))) ∧
  (x.writes ≤ 300 * n ∧ m.deletes ≤ 1300 * n ∧ m.parcelNumber ≤ n ∧ ∀ q, q < m.points → m.pointSeries q < 256) ∧ (fgX x ∧ ftM m x) ∧ ∀ q, q < x.jsize → x.jU q ≤ 126 ∧ x.jB q < 65536 ∧ x.jO q < 256
/-- the questions' steps, the tables, the one that is shown -/
def rlA (dA : Nat → ClassId) (ad : Nat → Nat) (e0 : Nat) (m : MS) (x : VS) (gq : LI) (rq : va_W) (la : Nat → Nat) (gk : LI) (AT : Nat → Nat → Nat) (T : Nat → TB) : Prop :=
  (x.ll = LqW dA (ad 23) gq ++ rq ∧ stL e0 x.pl gq ∧ skP dA ad [] (VS.s_ll x rq) la gk AT T ∧ 0 < gk.sz) ∧ shOk (shp (VS.s_adep x 0, gk, AT, T)) ∧ ((∀ tb, tb < gk.sz → rsAll dA x.pl (T tb).rs) ∧ ∀ k, x.bO k < 256) ∧
  (m.isTable = x.hasTable ∧ (x.hasTable = true → ∃ NL RS, shwR m (T 0) NL RS ∧ tbK dA x.pl (T 0).wi (T 0) NL RS)) ∧ m.nmG ∧ ¬ x.nhor < 0
/-- what was used -/
def rlR (x : VS) (gk : LI) (T : Nat → TB) (n cs ss : Nat) : Prop := n ≤ 512 ∧ cs + 17 * x.tapeLength ≤ 2000 + 400 * n + 6 * x.jN + 3 * x.hN + 3 * x.gN + x.tpN ∧ ss + 70 * x.tapeLength ≤ 1177800 + 6000 * n + 12 * x.jN + 6 * x.hN + 6 * x.gN + 2 * x.tpN + (700 * gk.sz + 2 * sumN gk.sz (fun tb => (T tb).cN) + 4 * x.bN)
def Rl (dA : Nat → ClassId) (ad : Nat → Nat) (e0 n : Nat) (x : VS) (m : MS) (cs ss : Nat) : Prop := ∃ (PS : Nat → PT) (SS : Nat → List LB) (dn bn : Nat → Nat) (gq : LI) (rq : va_W) (la : Nat → Nat) (gk : LI) (AT : Nat → Nat → Nat) (T : Nat → TB), coR m x PS dn bn ∧ rlT m x ∧ rlS dA SS m x ∧ rlN dA PS m x n ∧ rlA dA ad e0 m x gq rq la gk AT T ∧ rlR x gk T n cs ss
section RL
variable {dA : Nat → ClassId} {ad : Nat → Nat} {e0 n : Nat} {x : VS} {m : MS} {cs ss cs' ss' : Nat}
theorem rlN_up {PS : Nat → PT} (h : rlN dA PS m x n) : rlN dA PS m x (n + 1) := by
  obtain ⟨h1, h2, h3, ⟨h4, h5, h6, h7⟩, ⟨h8, h9, h10, h11⟩, h12⟩ := h
  exact ⟨h1, h2, h3, ⟨by omega, by omega, by omega, h7⟩, ⟨by omega, by omega, by omega, h11⟩, h12⟩
/-- a call that changes nothing but the number of its fault -/
theorem rl_up (h : Rl dA ad e0 n x m cs ss) (hn : n + 1 ≤ 512) (cd : Int32) (hc : cs' ≤ cs + 100) (hs : ss' ≤ ss + 5000) : Rl dA ad e0 (n + 1) x (MS.s_cod m cd) cs' ss' := by
  obtain ⟨PS, SS, dn, bn, gq, rq, la, gk, AT, T, a1, a2, a3, a4, a5, a6, a7, a8⟩ := h
  exact ⟨PS, SS, dn, bn, gq, rq, la, gk, AT, T, a1, a2, a3, rlN_up a4, a5, hn, by omega, by omega⟩
theorem rl_skip (h : Rl dA ad e0 n x m cs ss) (hn : n + 1 ≤ 512) : Rl dA ad e0 (n + 1) x m cs ss := by
  obtain ⟨PS, SS, dn, bn, gq, rq, la, gk, AT, T, a1, a2, a3, a4, a5, a6, a7, a8⟩ := h
  exact ⟨PS, SS, dn, bn, gq, rq, la, gk, AT, T, a1, a2, a3, rlN_up a4, a5, hn, by omega, by omega⟩
theorem rl_room (h : Rl dA ad e0 n x m cs ss) : cs ≤ 601024 ∧ ss ≤ 7293034 := by
  obtain ⟨PS, SS, dn, bn, gq, rq, la, gk, AT, T, a1, a2, a3, a4, a5, a6, a7, a8⟩ := h
  obtain ⟨-, -, ⟨n1, n2, n3, n4, n5, n6, n7, n8⟩, -⟩ := a4
  obtain ⟨-, ⟨s1, s2, s3, s4, s5⟩, -⟩ := a5
  have t3 := a2.2.1.2.2
  have s2 : gk.sz ≤ 20 := s2
  have s5 : x.bN ≤ 32768 := s5
  have hs : sumN gk.sz (fun tb => (T tb).cN) ≤ 32768 * gk.sz := sum_le (fun k hk => by
    have := (s4 k hk).2
    rw [shp_c (a := (VS.s_adep x 0, gk, AT, T)) hk] at this
    exact this)
  omega
/-- the tape cut -/
theorem rl_end (h : Rl dA ad e0 n x m cs ss) (hn : n + 1 ≤ 512) {j : Nat} (hj : j ≤ x.tapeLength) : Rl dA ad e0 (n + 1) (VS.s_tapeLength x j) (MS.s_length (MS.s_cod m 0) j) cs ss := by
  obtain ⟨PS, SS, dn, bn, gq, rq, la, gk, AT, T, a1, ⟨⟨t1, t2, t3, t4⟩, ⟨t5, t6, t7⟩, t8⟩, a3, a4, a5, a6, a7, a8⟩ := h
  obtain ⟨n1, n2, n3, ⟨n4, n5, n6, n7⟩, ⟨n8, n9, n10, n11⟩, n12⟩ := a4
  refine ⟨PS, SS, dn, bn, gq, rq, la, gk, AT, T, a1, ⟨⟨t1, rfl, t3, t4⟩, ⟨Nat.le_trans hj t5, t6, t7⟩, t8⟩, a3, ⟨n1, n2, n3, ⟨?_, ?_, ?_, n7⟩, ⟨by show x.writes ≤ 300 * (n + 1); omega, by show m.deletes ≤ 1300 * (n + 1); omega, by show m.parcelNumber ≤ n + 1; omega, n11⟩, n12⟩, a5, hn, ?_, ?_⟩
  · show 16 * x.jsize + j ≤ _
    omega
  · show 16 * x.hsize + j ≤ _
    omega
  · show 16 * (cnt m.points m.pkd + cnt x.jsize (fun r => decide (x.jK r = 1))) + j ≤ _
    omega
  · show cs + 17 * j ≤ 2000 + 400 * (n + 1) + 6 * x.jN + 3 * x.hN + 3 * x.gN + x.tpN
    omega
  · show ss + 70 * j ≤ 1177800 + 6000 * (n + 1) + 12 * x.jN + 6 * x.hN + 6 * x.gN + 2 * x.tpN + (700 * gk.sz + 2 * sumN gk.sz (fun tb => (T tb).cN) + 4 * x.bN)
    omega
end RL
end
section
/-! Calls that tell, and calls on the tape and the power. -/
theorem i32_nat {z : Int32} {a : Nat} (ha : a < 2 ^ 31) (h1 : ¬ z < 0) (h2 : ¬ nI a < z) : ∃ j, j ≤ a ∧ z = nI j := by
  have e0 : (0 : Int32).toInt = 0 := by decide
  have ea : (nI a).toInt = a := nI_toInt ha
  rw [Int32.lt_iff_toInt_lt] at h1 h2
  rw [e0] at h1
  rw [ea] at h2
  refine ⟨z.toInt.toNat, by omega, ?_⟩
  apply Int32.toInt_inj.mp
  rw [nI_toInt (by omega)]
  omega
theorem i32_lt {z : Int32} {a : Nat} (ha : a < 2 ^ 31) (h1 : ¬ z < 0) (h2 : ¬ nI a ≤ z) : ∃ j, j < a ∧ z = nI j := by
  have e0 : (0 : Int32).toInt = 0 := by decide
  have ea : (nI a).toInt = a := nI_toInt ha
  rw [Int32.lt_iff_toInt_lt] at h1
  rw [Int32.le_iff_toInt_le] at h2
  rw [e0] at h1
  rw [ea] at h2
  refine ⟨z.toInt.toNat, by omega, ?_⟩
  apply Int32.toInt_inj.mp
  rw [nI_toInt (by omega)]
  omega
theorem i32_01 {n : Int32} (h0 : ¬ n = 0) (h1 : ¬ n = 1) : n < 0 ∨ 1 < n := by
  by_cases h : n < 0
  · exact Or.inl h
  · refine Or.inr ?_
    rw [Int32.lt_iff_toInt_lt] at h ⊢
    have a0 : n.toInt ≠ (0 : Int32).toInt := fun z => h0 (Int32.toInt_inj.mp z)
    have a1 : n.toInt ≠ (1 : Int32).toInt := fun z => h1 (Int32.toInt_inj.mp z)
    have e0 : (0 : Int32).toInt = 0 := by decide
    have e1 : (1 : Int32).toInt = 1 := by decide
    omega
theorem k_n1 : ¬ nI 1 = 0 := by decide
theorem k_n2 : ¬ nI 2 = 0 := by decide
theorem k_n3 : ¬ nI 3 = 0 := by decide
theorem k_n4 : ¬ nI 4 = 0 := by decide
section CA
variable {p : Program} {e : Env} {s : State} {m : MethodId} {below : List Frame} {meth : Method} {c : Code} {b L : Nat} {xs : Nat → Int32} {D : va_G} {dA : Nat → ClassId} {e0 : Nat} {A : Nat → Prop} {h : Nat} {ad : Nat → Nat} {mm : Nat} {mad : Nat → Nat} {o : Nat} {n : Nat} {x : VS} {M : MS} {cs ss : Nat}
theorem lS_tr {l : Launch} (hC : lS p l s m meth c b L xs D dA e0 A) : l.stackTraces = false := hC.2.2.2.2.2.2.2.2.2.2.2.2.2.2.2.2
theorem call_1 (l : Launch) (hC : lS p l s m meth c b L xs D dA e0 A) (hL : L ≤ 3072) (hi : 6 * n + 6 ≤ L) (hR : Rl dA ad e0 n x M cs ss) (cont : ∀ x' M' cs' ss', Rl dA ad e0 (n + 1) x' M' cs' ss' → At9 p l e s m below meth c b D dA A h ad mm mad o 23 (6 * n + 6) x' M' cs' ss') : At9 p l e s m below meth c b D dA A h ad mm mad o (tg9 1) (6 * n) x M cs ss := by
  intro og H locs ls hP hD hS hl
  obtain ⟨rm1, rm2⟩ := rl_room (rl_skip hR (by omega))
  obtain ⟨-, -, -, -, -, -, -, -, -, -, -, ⟨⟨t1, t2, t3, t4⟩, ⟨t5, t6, t7⟩, t8⟩, -⟩ := id hR
  by_cases hv : xs (6 * n + 1) < 0 ∨ nI x.tapeLength < xs (6 * n + 1)
  · have hr2 := rl_up (cs' := cs + 1 + 0 + 0) (ss' := ss + 6 + 0 + 0) hR (by omega) 1 (by omega) (by omega)
    obtain ⟨rn1, rn2⟩ := rl_room hr2
    have W1 := fun sz => k8_end_1 l D dA sz h ad x (xs (6 * n + 1)) (fun u => u = x) _ _ _ _ (nf_x0 (fun sz => v_end_x l (lS_tr hC) D dA sz h ad x (xs (6 * n + 1)) hv) rfl (fun _ _ _ q => q))
    have M1 := fun sz => k_end_x l D dA sz mm mad M (xs (6 * n + 1)) (by rw [t2]; exact hv)
    exact l9_1_x l hC (k9 := 1) hi hL ⟨by omega, by omega, by omega, by omega⟩ ⟨by omega, by omega⟩ rfl k_n1 W1 M1 hP hD hS hl (fun u H1 locs1 ls1 hf hP hD hS hl => cont u _ _ _ (by rw [show u = x from hf]; exact hr2) og H1 locs1 ls1 hP hD hS hl)
  · obtain ⟨j, hj, ej⟩ := i32_nat (a := x.tapeLength) (by omega) (fun z => hv (Or.inl z)) (fun z => hv (Or.inr z))
    have hr2 := rl_end hR (by omega) hj
    have W1 := fun sz => k8_end l D dA sz h ad x (xs (6 * n + 1)) (fun u => u = VS.s_tapeLength x j) _ _ _ _ (nf_v (fun sz => v_end l D dA sz h ad x j hj (by omega)) (fun _ _ => rfl) (fun _ _ _ q => by rw [ej] at q; exact q))
    have M1 := nm_v (M1 := MS.s_length (MS.s_cod M 0) j) (Pc2 := fun sz => pC D dA [.ref mm, .int (xs (6 * n + 1))] (MW dA mm mad M) sz) (fun sz => k_end l D dA sz mm mad M j (by omega) (by omega)) (fun _ _ => rfl) (fun _ _ _ q => by rw [ej] at q; exact q)
    exact l9_1 l hC hi hL ⟨by omega, by omega, by omega, by omega⟩ ⟨by omega, by omega⟩ rfl W1 M1 hP hD hS hl (fun u H1 locs1 ls1 hf hP hD hS hl => cont u _ _ _ (by rw [show u = VS.s_tapeLength x j from hf]; exact hr2) og H1 locs1 ls1 hP hD hS hl)
end CA
end
section
/-! A new disk: both sides. -/
section FM
variable {m : MS} {x : VS} {PS : Nat → PT}
theorem fm_co (hm : m.points = 0 ∧ m.parcelCount = 0 ∧ m.horizon = 0 ∧ m.baseHorizon = 0 ∧ m.seriesCount = 0 ∧ m.baseSeries = 0 ∧ m.catalogBlocks = 0) (hj : m.records = 0 ∧ m.kept = 0 ∧ m.block = 0 ∧ m.used = 0 ∧ m.fresh = false ∧ m.cutLeft = x.cutLeft ∧ m.written = x.writes ∧ m.journal = x.jlimit) (hd : m.deletes ≤ 2 ^ 29 ∧ m.parcelNumber ≤ 2 ^ 29) (hx : x.hsize = 0 ∧ x.npc = 0 ∧ x.nhor = 0 ∧ x.nsc = 0 ∧ x.nser = 0 ∧ x.ncat = 0) (hs : x.spc = 0 ∧ x.shor = 0 ∧ x.ssc = 0 ∧ x.sser = 0 ∧ x.scat = 0) (hk : x.jsize = 0 ∧ x.jkept = 0 ∧ x.junits = 0 ∧ x.jblock = 0 ∧ x.jfill = 0 ∧ x.jch = false) : coR m x PS (fun _ => 0) (fun _ => 0) := by
  obtain ⟨m1, m2, m3, m4, m5, m6, m7⟩ := hm
  obtain ⟨j1, j2, j3, j4, j5, j6, j7, j8⟩ := hj
  obtain ⟨x1, x2, x3, x4, x5, x6⟩ := hx
  obtain ⟨s1, s2, s3, s4, s5⟩ := hs
  obtain ⟨k1, k2, k3, k4, k5, k6⟩ := hk
  have eS : scL x = [] := by unfold scL; rw [x4]; rfl
  have eH : hdL x = [] := by unfold hdL; rw [x1]; rfl
  have eV : svA x = (0, x.slast, [], []) := by
    unfold svA
    rw [s4, s3]
    rfl
  have eR : rpV PS x x.jsize = (0, x.slast, [], []) := by
    unfold rpV
    rw [k1]
    exact eV
  refine ⟨⟨⟨⟨?_, fun q hq => by omega⟩, by rw [m2, x2], by rw [m3, x3], fun k hk => by omega⟩, ⟨fun q hq => by omega, ⟨fun j hj => by omega, fun i j _ hj => by omega⟩, fun j hj => by omega, hd.1⟩, ⟨fun q hq => by omega, fun i j hi => by omega, fun k hk => by omega, hd.2⟩, ⟨fun i j p r _ hj => by omega, fun k p r hk => by omega⟩, ⟨fun q hq => by omega, fun q hq => by omega, fun p r _ hr => by omega⟩, fun q hq => by omega⟩, ⟨⟨fun q hq => by omega, ⟨fun j hj => by omega, fun i j _ hj => by omega⟩, fun j hj => by omega⟩, ⟨by rw [m4, s2], by rw [m4, m3], by omega, fun k hk => by omega⟩, fun q hq => by omega, by omega, fun s hs => by omega, by omega, by omega⟩, ⟨by omega, fun s hs => by omega⟩, ⟨by omega, by omega, by omega, by omega, by rw [j5, k6], j6, j7, j8, by rw [k1, k3]; rfl, fun _ => by omega, fun r hr => by omega⟩, ⟨?_, fun r hr => by omega, fun K h1 h2 => ?_⟩, by omega, by omega⟩
  · rw [x1, m1]
    rfl
  · rw [eR]
    exact ⟨x5.symm, fun s hs => by omega, eH.symm, eS.symm⟩
  · have e : K = x.jsize := by omega
    rw [e, eR]
    exact ⟨fun p hp => absurd hp List.not_mem_nil, fun c hc => absurd hc List.not_mem_nil⟩
end FM
theorem nh_0 : ¬ (0 : Int64) < 0 := by decide
section R0
variable {dA : Nat → ClassId} {e0 tp : Nat} {jA hA gA bA : Nat → Nat} {qt : Nat} {ad : Nat → Nat} {zq : Nat} {ta : Nat → Nat} {cA : Nat}
/-- as both are made -/
theorem rl_0 : Rl dA ad e0 0 (x9 dA e0 tp jA hA gA bA qt ad zq ta cA) m9 92 1177737 := by
  refine ⟨fun _ => mkP 0 (fun _ => 0) (fun _ => 0) (fun _ => 0), fun _ => [], fun _ => 0, fun _ => 0, (0, 0, e0, 0, fun _ => none), LiW dA (fun _ => ad 25) (1, 0 + 1, zq, 10, va_up (fun _ => none) 0 (some (ta 0))) ++ (tbs dA (fun _ => ta) (fun _ => tb0 cA) 1 ++ []), fun _ => ad 25, (1, 0 + 1, zq, 10, va_up (fun _ => none) 0 (some (ta 0))), fun _ => ta, fun _ => tb0 cA, ?_, ?_, ?_, ?_, ?_, ?_⟩
  · exact fm_co ⟨rfl, rfl, rfl, rfl, rfl, rfl, rfl⟩ ⟨rfl, rfl, rfl, rfl, rfl, rfl, rfl, rfl⟩ ⟨Nat.zero_le _, Nat.zero_le _⟩ ⟨rfl, rfl, rfl, rfl, rfl, rfl⟩ ⟨rfl, rfl, rfl, rfl, rfl⟩ ⟨rfl, rfl, rfl, rfl, rfl, rfl⟩
  · exact ⟨⟨rfl, rfl, fun _ _ => rfl, byteF_0⟩, ⟨Nat.zero_le _, Nat.le_refl 256, Nat.le_of_ble_eq_true rfl⟩, ⟨rfl, rfl⟩, rfl, Nat.le_of_ble_eq_true rfl, rfl⟩
  · exact ⟨fun s hs => absurd hs (Nat.not_lt_zero s), fun s hs => absurd hs (Nat.not_lt_zero s), fun s hs => absurd hs (Nat.not_lt_zero s), byteF_0, fun s hs => absurd hs (Nat.not_lt_zero s)⟩
  · exact ⟨⟨Nat.zero_le _, Nat.zero_le _, Nat.zero_le _, fun s hs => absurd hs (Nat.not_lt_zero s)⟩, ⟨Nat.le_of_ble_eq_true rfl, Nat.zero_le _, Nat.le_of_ble_eq_true rfl⟩, ⟨Nat.zero_le _, Nat.le_of_ble_eq_true rfl, Nat.le_of_ble_eq_true rfl, Nat.zero_le _, Nat.le_of_ble_eq_true rfl, Nat.le_of_ble_eq_true rfl, Nat.le_of_ble_eq_true rfl, Nat.le_of_ble_eq_true rfl⟩, ⟨Nat.le_refl 0, Nat.le_refl 0, Nat.le_refl 0, Nat.le_refl 0⟩, ⟨Nat.le_refl 0, Nat.le_refl 0, Nat.le_refl 0, fun s hs => absurd hs (Nat.not_lt_zero s)⟩, ⟨⟨⟨rfl, rfl⟩, fun s hs => absurd hs (Nat.not_lt_zero s)⟩, fun s hs => absurd hs (Nat.not_lt_zero s)⟩, fun s hs => absurd hs (Nat.not_lt_zero s)⟩
  · refine ⟨⟨rfl, ⟨⟨fun _ => ⟨rfl, rfl⟩, Nat.le_refl 0, Nat.zero_le _⟩, fun i hi => absurd hi (Nat.not_lt_zero i)⟩, ⟨List.Perm.refl _, rfl, Nat.le_of_ble_eq_true rfl, Nat.le_of_ble_eq_true rfl, Nat.le_of_ble_eq_true rfl, fun i hi => ?_⟩, Nat.one_pos⟩, ⟨Nat.zero_le _, Nat.le_of_ble_eq_true rfl, Nat.le_of_ble_eq_true rfl, fun tb ht => ?_, Nat.le_of_ble_eq_true rfl⟩, ⟨fun tb _ q a hq => (by cases hq), fun _ => Nat.le_of_ble_eq_true rfl⟩, ⟨rfl, fun h => (by cases h)⟩, ⟨fun q => Nat.zero_le _, fun q => Nat.le_of_ble_eq_true rfl⟩, nh_0⟩
    · have hi : i < 1 := hi
      have e : i = 0 := by omega
      subst e
      show va_up (fun _ => none) 0 (some (ta 0)) 0 = some (ta 0)
      exact va_up_self _ _ _
    · have ht : tb < 1 := ht
      show 64 ≤ (if tb < 1 then 64 else 0) ∧ (if tb < 1 then 64 else 0) ≤ 32768
      rw [if_pos ht]
      omega
  · refine ⟨Nat.zero_le _, Nat.le_of_ble_eq_true rfl, ?_⟩
    show 1177737 + 70 * 0 ≤ 1177800 + 6000 * 0 + 12 * 32 + 6 * 32 + 6 * 32 + 2 * 256 + (700 * 1 + 2 * sumN 1 (fun tb => (tb0 cA).cN) + 4 * 64)
    omega
end R0
end
section
/-! Calls that tell, and calls on the power. -/
section R1
variable {dA : Nat → ClassId} {ad : Nat → Nat} {e0 n : Nat} {x : VS} {m : MS} {cs ss : Nat}
theorem rl_off (h : Rl dA ad e0 n x m cs ss) (hn : n + 1 ≤ 512) : Rl dA ad e0 (n + 1) (VS.s_powered x false) (MS.s_on (MS.s_cod m 0) false) cs ss := by
  obtain ⟨PS, SS, dn, bn, gq, rq, la, gk, AT, T, a1, ⟨t1, t2, t3, t4, t5, t6⟩, a3, a4, a5, a6, a7, a8⟩ := h
  exact ⟨PS, SS, dn, bn, gq, rq, la, gk, AT, T, a1, ⟨t1, t2, t3, t4, t5, rfl⟩, a3, rlN_up a4, a5, hn, by show cs + 17 * x.tapeLength ≤ 2000 + 400 * (n + 1) + 6 * x.jN + 3 * x.hN + 3 * x.gN + x.tpN; omega, by show ss + 70 * x.tapeLength ≤ 1177800 + 6000 * (n + 1) + 12 * x.jN + 6 * x.hN + 6 * x.gN + 2 * x.tpN + (700 * gk.sz + 2 * sumN gk.sz (fun tb => (T tb).cN) + 4 * x.bN); omega⟩
theorem rl_cut (h : Rl dA ad e0 n x m cs ss) (hn : n + 1 ≤ 512) (c : Int32) : Rl dA ad e0 (n + 1) (VS.s_cutLeft x c) (MS.s_cutLeft (MS.s_cod m 0) c) cs ss := by
  obtain ⟨PS, SS, dn, bn, gq, rq, la, gk, AT, T, ⟨p1, p2, p3, ⟨g1, g2, g3, g4, g5, g6, g7, g8, g9, g10, g11⟩, p5, p6, p7⟩, a2, a3, a4, a5, a6, a7, a8⟩ := h
  exact ⟨PS, SS, dn, bn, gq, rq, la, gk, AT, T, ⟨p1, p2, p3, ⟨g1, g2, g3, g4, g5, rfl, g7, g8, g9, g10, g11⟩, p5, p6, p7⟩, a2, a3, rlN_up a4, a5, hn, by show cs + 17 * x.tapeLength ≤ 2000 + 400 * (n + 1) + 6 * x.jN + 3 * x.hN + 3 * x.gN + x.tpN; omega, by show ss + 70 * x.tapeLength ≤ 1177800 + 6000 * (n + 1) + 12 * x.jN + 6 * x.hN + 6 * x.gN + 2 * x.tpN + (700 * gk.sz + 2 * sumN gk.sz (fun tb => (T tb).cN) + 4 * x.bN); omega⟩
end R1
section CB
variable {p : Program} {e : Env} {s : State} {m : MethodId} {below : List Frame} {meth : Method} {c : Code} {b L : Nat} {xs : Nat → Int32} {D : va_G} {dA : Nat → ClassId} {e0 : Nat} {A : Nat → Prop} {h : Nat} {ad : Nat → Nat} {mm : Nat} {mad : Nat → Nat} {o : Nat} {n : Nat} {x : VS} {M : MS} {cs ss : Nat}
theorem call_23 (l : Launch) (hC : lS p l s m meth c b L xs D dA e0 A) (hL : L ≤ 3072) (hi : 6 * n + 6 ≤ L) (hR : Rl dA ad e0 n x M cs ss) (cont : ∀ x' M' cs' ss', Rl dA ad e0 (n + 1) x' M' cs' ss' → At9 p l e s m below meth c b D dA A h ad mm mad o 23 (6 * n + 6) x' M' cs' ss') : At9 p l e s m below meth c b D dA A h ad mm mad o (tg9 23) (6 * n) x M cs ss := by
  intro og H locs ls hP hD hS hl
  obtain ⟨rm1, rm2⟩ := rl_room (rl_skip hR (by omega))
  obtain ⟨PS, SS, dn, bn, gq, rq, la, gk, AT, T, co, ⟨⟨t1, t2, t3, t4⟩, ⟨t5, t6, t7⟩, ⟨t8, t9⟩, t10, t11, t12⟩, sr, nr, ar, rr⟩ := id hR
  obtain ⟨cp, cb, ⟨se1, se2⟩, ⟨g1, g2, g3, g4, g5, g6, g7, g8, g9, g10, g11⟩, cj, ck, cc⟩ := id co
  obtain ⟨⟨n1, n2, n3, n4⟩, ⟨n5, n6, n7⟩, ⟨n8, n9, n10, n11, n12, n13, n14, n15⟩, ⟨n16, n17, n18, n19⟩, ⟨n20, n21, n22, n23⟩, n24⟩ := id nr
  cases hp : x.powered with
  | false =>
    have hr2 := rl_up (cs' := cs + 1 + 0 + 0) (ss' := ss + 6 + 0 + 0) hR (by omega) 1 (by omega) (by omega)
    obtain ⟨rn1, rn2⟩ := rl_room hr2
    have hr3 : Rl dA ad e0 (n + 1) x (MS.s_on (MS.s_cod M 1) false) (cs + 1 + 0 + 0) (ss + 6 + 0 + 0) := by
      have e9 : M.on = false := t12.trans hp
      have e8 : MS.s_on (MS.s_cod M 1) false = MS.s_cod M 1 := by rw [← e9]
      rw [e8]
      exact hr2
    have W1 := fun sz => k8_off_1 l D dA sz h ad x (fun u => u = x) _ _ _ _ (nf_x0 (fun sz => v_off_1 l (lS_tr hC) D dA sz h ad x hp) rfl (fun _ _ _ q => q))
    have M1 := fun sz => k_off_0 l D dA sz mm mad M (by rw [t12]; exact hp)
    exact l9_23_x l hC (k9 := 1) hi hL ⟨by omega, by omega, by omega, by omega⟩ ⟨by omega, by omega⟩ rfl k_n1 W1 M1 hP hD hS hl (fun u H1 locs1 ls1 hf hP hD hS hl => cont u _ _ _ (by rw [show u = x from hf]; exact hr3) og H1 locs1 ls1 hP hD hS hl)
  | true =>
    have hr2 := rl_off hR (by omega)
    have W1 := fun sz => k8_off l D dA sz h ad x (fun u => u = VS.s_powered x false) _ _ _ _ (nf_v (fun sz => v_off l D dA sz h ad x hp) (fun _ _ => rfl) (fun _ _ _ q => q))
    have M1 := fun sz => k_off l D dA sz mm mad M (by rw [t12]; exact hp)
    exact l9_23 l hC hi hL ⟨by omega, by omega, by omega, by omega⟩ ⟨by omega, by omega⟩ rfl W1 M1 hP hD hS hl (fun u H1 locs1 ls1 hf hP hD hS hl => cont u _ _ _ (by rw [show u = VS.s_powered x false from hf]; exact hr2) og H1 locs1 ls1 hP hD hS hl)
theorem call_22 (l : Launch) (hC : lS p l s m meth c b L xs D dA e0 A) (hL : L ≤ 3072) (hi : 6 * n + 6 ≤ L) (hR : Rl dA ad e0 n x M cs ss) (cont : ∀ x' M' cs' ss', Rl dA ad e0 (n + 1) x' M' cs' ss' → At9 p l e s m below meth c b D dA A h ad mm mad o 23 (6 * n + 6) x' M' cs' ss') : At9 p l e s m below meth c b D dA A h ad mm mad o (tg9 22) (6 * n) x M cs ss := by
  intro og H locs ls hP hD hS hl
  obtain ⟨rm1, rm2⟩ := rl_room (rl_skip hR (by omega))
  obtain ⟨PS, SS, dn, bn, gq, rq, la, gk, AT, T, co, ⟨⟨t1, t2, t3, t4⟩, ⟨t5, t6, t7⟩, ⟨t8, t9⟩, t10, t11, t12⟩, sr, nr, ar, rr⟩ := id hR
  obtain ⟨cp, cb, ⟨se1, se2⟩, ⟨g1, g2, g3, g4, g5, g6, g7, g8, g9, g10, g11⟩, cj, ck, cc⟩ := id co
  obtain ⟨⟨n1, n2, n3, n4⟩, ⟨n5, n6, n7⟩, ⟨n8, n9, n10, n11, n12, n13, n14, n15⟩, ⟨n16, n17, n18, n19⟩, ⟨n20, n21, n22, n23⟩, n24⟩ := id nr
  cases hp : x.powered with
  | false =>
    have hr2 := rl_up (cs' := cs + 1 + 0 + 0) (ss' := ss + 6 + 0 + 0) hR (by omega) 1 (by omega) (by omega)
    obtain ⟨rn1, rn2⟩ := rl_room hr2
    have W1 := fun sz => k8_cut_1 l D dA sz h ad x (xs (6 * n + 1)) (fun u => u = x) _ _ _ _ (nf_x0 (fun sz => v_cut_1 l (lS_tr hC) D dA sz h ad x (xs (6 * n + 1)) hp) rfl (fun _ _ _ q => q))
    have M1 := fun sz => k_cut_0 l D dA sz mm mad M (xs (6 * n + 1)) (by rw [t12]; exact hp)
    exact l9_22_x l hC (k9 := 1) hi hL ⟨by omega, by omega, by omega, by omega⟩ ⟨by omega, by omega⟩ rfl k_n1 W1 M1 hP hD hS hl (fun u H1 locs1 ls1 hf hP hD hS hl => cont u _ _ _ (by rw [show u = x from hf]; exact hr2) og H1 locs1 ls1 hP hD hS hl)
  | true =>
    by_cases hv : xs (6 * n + 1) < -1
    · have hr2 := rl_up (cs' := cs + 1 + 0 + 0) (ss' := ss + 6 + 0 + 0) hR (by omega) 2 (by omega) (by omega)
      obtain ⟨rn1, rn2⟩ := rl_room hr2
      have W1 := fun sz => k8_cut_2 l D dA sz h ad x (xs (6 * n + 1)) (fun u => u = x) _ _ _ _ (nf_x0 (fun sz => v_cut_2 l (lS_tr hC) D dA sz h ad x (xs (6 * n + 1)) hp hv) rfl (fun _ _ _ q => q))
      have M1 := fun sz => k_cut_x l D dA sz mm mad M (xs (6 * n + 1)) (by rw [t12]; exact hp) hv
      exact l9_22_x l hC (k9 := 2) hi hL ⟨by omega, by omega, by omega, by omega⟩ ⟨by omega, by omega⟩ rfl k_n2 W1 M1 hP hD hS hl (fun u H1 locs1 ls1 hf hP hD hS hl => cont u _ _ _ (by rw [show u = x from hf]; exact hr2) og H1 locs1 ls1 hP hD hS hl)
    · have hv2 : -1 ≤ xs (6 * n + 1) := Int32.not_lt.mp hv
      have hr2 := rl_cut hR (by omega) (xs (6 * n + 1))
      have W1 := fun sz => k8_cut l D dA sz h ad x (xs (6 * n + 1)) (fun u => u = VS.s_cutLeft x (xs (6 * n + 1))) _ _ _ _ (nf_v (fun sz => v_cut l D dA sz h ad x (xs (6 * n + 1)) hp hv2) (fun _ _ => rfl) (fun _ _ _ q => q))
      have M1 := fun sz => k_cut l D dA sz mm mad M (xs (6 * n + 1)) (by rw [t12]; exact hp) hv2
      exact l9_22 l hC hi hL ⟨by omega, by omega, by omega, by omega⟩ ⟨by omega, by omega⟩ rfl W1 M1 hP hD hS hl (fun u H1 locs1 ls1 hf hP hD hS hl => cont u _ _ _ (by rw [show u = VS.s_cutLeft x (xs (6 * n + 1)) from hf]; exact hr2) og H1 locs1 ls1 hP hD hS hl)
theorem call_21 (l : Launch) (hC : lS p l s m meth c b L xs D dA e0 A) (hL : L ≤ 3072) (hi : 6 * n + 6 ≤ L) (hR : Rl dA ad e0 n x M cs ss) (cont : ∀ x' M' cs' ss', Rl dA ad e0 (n + 1) x' M' cs' ss' → At9 p l e s m below meth c b D dA A h ad mm mad o 23 (6 * n + 6) x' M' cs' ss') : At9 p l e s m below meth c b D dA A h ad mm mad o (tg9 21) (6 * n) x M cs ss := by
  intro og H locs ls hP hD hS hl
  obtain ⟨rm1, rm2⟩ := rl_room (rl_skip hR (by omega))
  obtain ⟨PS, SS, dn, bn, gq, rq, la, gk, AT, T, co, ⟨⟨t1, t2, t3, t4⟩, ⟨t5, t6, t7⟩, ⟨t8, t9⟩, t10, t11, t12⟩, sr, nr, ar, rr⟩ := id hR
  obtain ⟨cp, cb, ⟨se1, se2⟩, ⟨g1, g2, g3, g4, g5, g6, g7, g8, g9, g10, g11⟩, cj, ck, cc⟩ := id co
  obtain ⟨⟨n1, n2, n3, n4⟩, ⟨n5, n6, n7⟩, ⟨n8, n9, n10, n11, n12, n13, n14, n15⟩, ⟨n16, n17, n18, n19⟩, ⟨n20, n21, n22, n23⟩, n24⟩ := id nr
  have hr2 := rl_up (cs' := cs + 0 + 0) (ss' := ss + 0 + 0) hR (by omega) 0 (by omega) (by omega)
  have W1 := nf_i (v := nI M.written) (F := fun u => u = x) (fun sz => v_written l D dA sz h ad x) (fun r u q => ⟨by rw [g7]; exact q, rfl⟩) (fun _ _ _ q => q)
  have M1 := fun sz => k_written l D dA sz mm mad M
  exact l9_21 l hC hi hL ⟨by omega, by omega, by omega, by omega⟩ ⟨by omega, by omega⟩ W1 M1 hP hD hS hl (fun u H1 locs1 ls1 hf hP hD hS hl => cont u _ _ _ (by rw [show u = x from hf]; exact hr2) og H1 locs1 ls1 hP hD hS hl)
theorem call_4 (l : Launch) (hC : lS p l s m meth c b L xs D dA e0 A) (hL : L ≤ 3072) (hi : 6 * n + 6 ≤ L) (hR : Rl dA ad e0 n x M cs ss) (cont : ∀ x' M' cs' ss', Rl dA ad e0 (n + 1) x' M' cs' ss' → At9 p l e s m below meth c b D dA A h ad mm mad o 23 (6 * n + 6) x' M' cs' ss') : At9 p l e s m below meth c b D dA A h ad mm mad o (tg9 4) (6 * n) x M cs ss := by
  intro og H locs ls hP hD hS hl
  obtain ⟨rm1, rm2⟩ := rl_room (rl_skip hR (by omega))
  obtain ⟨PS, SS, dn, bn, gq, rq, la, gk, AT, T, co, ⟨⟨t1, t2, t3, t4⟩, ⟨t5, t6, t7⟩, ⟨t8, t9⟩, t10, t11, t12⟩, sr, nr, ar, rr⟩ := id hR
  obtain ⟨cp, cb, ⟨se1, se2⟩, ⟨g1, g2, g3, g4, g5, g6, g7, g8, g9, g10, g11⟩, cj, ck, cc⟩ := id co
  obtain ⟨⟨n1, n2, n3, n4⟩, ⟨n5, n6, n7⟩, ⟨n8, n9, n10, n11, n12, n13, n14, n15⟩, ⟨n16, n17, n18, n19⟩, ⟨n20, n21, n22, n23⟩, n24⟩ := id nr
  by_cases h0 : xs (6 * n + 1) = 0
  · have hr2 := rl_up (cs' := cs + 0 + 0 + 0) (ss' := ss + 0 + 0 + 0) hR (by omega) 0 (by omega) (by omega)
    have W1 := fun sz => k8_fault l D dA sz h ad o og x (xs (6 * n + 1)) x.faultCode (fun u => u = x) _ _ _ _ (nf_i (fun sz => v_fault_0 l D dA sz h ad x) (fun r u q => ⟨q, rfl⟩) (fun _ _ _ q => by rw [h0] at q; exact q))
    have M1 := nm_i (M1 := MS.s_cod M 0) (b := M.faultCode) (Pc2 := fun sz => pC D dA [.ref mm, .int (xs (6 * n + 1))] (MW dA mm mad M) sz) (fun sz => k_fault_0 l D dA sz mm mad M) (fun r u q => ⟨q, rfl⟩) (fun _ _ _ q => by rw [h0] at q; exact q)
    exact l9_4 l hC hi hL ⟨by omega, by omega, by omega, by omega⟩ ⟨by omega, by omega⟩ rfl (by rw [t8]) W1 M1 hP hD hS hl (fun u H1 locs1 ls1 hf hP hD hS hl => cont u _ _ _ (by rw [show u = x from hf]; exact hr2) _ H1 locs1 ls1 hP hD hS hl)
  · by_cases h1 : xs (6 * n + 1) = 1
    · have hr2 := rl_up (cs' := cs + 0 + 0 + 0) (ss' := ss + 0 + 0 + 0) hR (by omega) 0 (by omega) (by omega)
      have W1 := fun sz => k8_fault l D dA sz h ad o og x (xs (6 * n + 1)) x.faultPlace (fun u => u = x) _ _ _ _ (nf_i (fun sz => v_fault_1 l D dA sz h ad x) (fun r u q => ⟨q, rfl⟩) (fun _ _ _ q => by rw [h1] at q; exact q))
      have M1 := nm_i (M1 := MS.s_cod M 0) (b := M.faultPlace) (Pc2 := fun sz => pC D dA [.ref mm, .int (xs (6 * n + 1))] (MW dA mm mad M) sz) (fun sz => k_fault_1 l D dA sz mm mad M) (fun r u q => ⟨q, rfl⟩) (fun _ _ _ q => by rw [h1] at q; exact q)
      exact l9_4 l hC hi hL ⟨by omega, by omega, by omega, by omega⟩ ⟨by omega, by omega⟩ rfl (by rw [t9]) W1 M1 hP hD hS hl (fun u H1 locs1 ls1 hf hP hD hS hl => cont u _ _ _ (by rw [show u = x from hf]; exact hr2) _ H1 locs1 ls1 hP hD hS hl)
    · have hr2 := rl_up (cs' := cs + 1 + 0 + 0) (ss' := ss + 6 + 0 + 0) hR (by omega) 1 (by omega) (by omega)
      obtain ⟨rn1, rn2⟩ := rl_room hr2
      have W1 := fun sz => k8_fault_1 l D dA sz h ad o og x (xs (6 * n + 1)) (fun u => u = x) _ _ _ _ (nf_x0 (fun sz => v_fault_x l (lS_tr hC) D dA sz h ad x (xs (6 * n + 1)) (i32_01 h0 h1)) rfl (fun _ _ _ q => q))
      have M1 := fun sz => k_fault_x l D dA sz mm mad M (xs (6 * n + 1)) h0 h1
      exact l9_4_x l hC (k9 := 1) hi hL ⟨by omega, by omega, by omega, by omega⟩ ⟨by omega, by omega⟩ rfl k_n1 W1 M1 hP hD hS hl (fun u H1 locs1 ls1 hf hP hD hS hl => cont u _ _ _ (by rw [show u = x from hf]; exact hr2) og H1 locs1 ls1 hP hD hS hl)
theorem call_20 (l : Launch) (hC : lS p l s m meth c b L xs D dA e0 A) (hL : L ≤ 3072) (hi : 6 * n + 6 ≤ L) (hR : Rl dA ad e0 n x M cs ss) (cont : ∀ x' M' cs' ss', Rl dA ad e0 (n + 1) x' M' cs' ss' → At9 p l e s m below meth c b D dA A h ad mm mad o 23 (6 * n + 6) x' M' cs' ss') : At9 p l e s m below meth c b D dA A h ad mm mad o (tg9 20) (6 * n) x M cs ss := by
  intro og H locs ls hP hD hS hl
  obtain ⟨rm1, rm2⟩ := rl_room (rl_skip hR (by omega))
  obtain ⟨PS, SS, dn, bn, gq, rq, la, gk, AT, T, co, ⟨⟨t1, t2, t3, t4⟩, ⟨t5, t6, t7⟩, ⟨t8, t9⟩, t10, t11, t12⟩, sr, nr, ar, rr⟩ := id hR
  obtain ⟨cp, cb, ⟨se1, se2⟩, ⟨g1, g2, g3, g4, g5, g6, g7, g8, g9, g10, g11⟩, cj, ck, cc⟩ := id co
  obtain ⟨⟨n1, n2, n3, n4⟩, ⟨n5, n6, n7⟩, ⟨n8, n9, n10, n11, n12, n13, n14, n15⟩, ⟨n16, n17, n18, n19⟩, ⟨n20, n21, n22, n23⟩, n24⟩ := id nr
  cases hp : x.powered with
  | false =>
    have hr2 := rl_up (cs' := cs + 1 + 0 + 0) (ss' := ss + 6 + 0 + 0) hR (by omega) 1 (by omega) (by omega)
    obtain ⟨rn1, rn2⟩ := rl_room hr2
    have W1 := fun sz => k8_last_1 l D dA sz h ad o og x (xs (6 * n + 1)) (fun u => u = x) _ _ _ _ (nf_x0 (fun sz => v_last_1 l (lS_tr hC) D dA sz h ad x (xs (6 * n + 1)) hp) rfl (fun _ _ _ q => q))
    have M1 := fun sz => k_last_1 l D dA sz mm mad M (xs (6 * n + 1)) (by rw [t12]; exact hp)
    exact l9_20_x l hC (k9 := 1) hi hL ⟨by omega, by omega, by omega, by omega⟩ ⟨by omega, by omega⟩ rfl k_n1 W1 M1 hP hD hS hl (fun u H1 locs1 ls1 hf hP hD hS hl => cont u _ _ _ (by rw [show u = x from hf]; exact hr2) og H1 locs1 ls1 hP hD hS hl)
  | true =>
    by_cases hv : xs (6 * n + 1) < 0 ∨ nI x.nser ≤ xs (6 * n + 1)
    · have hr2 := rl_up (cs' := cs + 1 + 0 + 0) (ss' := ss + 6 + 0 + 0) hR (by omega) 2 (by omega) (by omega)
      obtain ⟨rn1, rn2⟩ := rl_room hr2
      have W1 := fun sz => k8_last_2 l D dA sz h ad o og x (xs (6 * n + 1)) (fun u => u = x) _ _ _ _ (nf_x0 (fun sz => v_last_2 l (lS_tr hC) D dA sz h ad x (xs (6 * n + 1)) hp hv) rfl (fun _ _ _ q => q))
      have M1 := fun sz => k_last_2 l D dA sz mm mad M (xs (6 * n + 1)) (by rw [t12]; exact hp) (by rw [se1]; exact hv)
      exact l9_20_x l hC (k9 := 2) hi hL ⟨by omega, by omega, by omega, by omega⟩ ⟨by omega, by omega⟩ rfl k_n2 W1 M1 hP hD hS hl (fun u H1 locs1 ls1 hf hP hD hS hl => cont u _ _ _ (by rw [show u = x from hf]; exact hr2) og H1 locs1 ls1 hP hD hS hl)
    · obtain ⟨w, hw, ew⟩ := i32_lt (a := x.nser) (by omega) (fun z => hv (Or.inl z)) (fun z => hv (Or.inr z))
      have hr2 := rl_up (cs' := cs + 0 + 0 + 0) (ss' := ss + 0 + 0 + 0) hR (by omega) 0 (by omega) (by omega)
      have W1 := fun sz => k8_last l D dA sz h ad o og x (xs (6 * n + 1)) (x.nlast w) (fun u => u = x) _ _ _ _ (nf_l (fun sz => v_last l D dA sz h ad x w hp hw n1) (fun r u q => ⟨q, rfl⟩) (fun _ _ _ q => by rw [ew] at q; exact q))
      have M1 := nm_l (M1 := MS.s_cod M 0) (b := M.lasts w) (Pc2 := fun sz => pC D dA [.ref mm, .int (xs (6 * n + 1))] (MW dA mm mad M) sz) (fun sz => k_last_0 l D dA sz mm mad M w (by rw [t12]; exact hp) (by omega) (by omega)) (fun r u q => ⟨q, rfl⟩) (fun _ _ _ q => by rw [ew] at q; exact q)
      exact l9_20 l hC hi hL ⟨by omega, by omega, by omega, by omega⟩ ⟨by omega, by omega⟩ rfl (se2 w hw).symm W1 M1 hP hD hS hl (fun u H1 locs1 ls1 hf hP hD hS hl => cont u _ _ _ (by rw [show u = x from hf]; exact hr2) _ H1 locs1 ls1 hP hD hS hl)
end CB
end
section
/-! Bytes fed. -/
theorem fd_20 (a b c d e : Int32) (f : Nat → Int32) (n : Nat) : fdT a b c d e f n 20 = ptT e (ptT d (ptT c (ptT b (ptT a f n) (n + 1 + 1 + 1 + 1)) (n + 1 + 1 + 1 + 1 + 1 + 1 + 1 + 1)) (n + 1 + 1 + 1 + 1 + 1 + 1 + 1 + 1 + 1 + 1 + 1 + 1)) (n + 1 + 1 + 1 + 1 + 1 + 1 + 1 + 1 + 1 + 1 + 1 + 1 + 1 + 1 + 1 + 1) := rfl
theorem fdT_hi {a b c d e : Int32} {f : Nat → Int32} {n q : Nat} : ∀ k, n + k ≤ q → fdT a b c d e f n k q = f q
  | 0, _ => rfl
  | k + 1, h => by
    show va_up (fdT a b c d e f n k) (n + k) _ q = f q
    rw [va_up_ne _ _ (by omega)]
    exact fdT_hi k (by omega)
theorem fdT_b {a b c d e : Int32} {f : Nat → Int32} {n : Nat} (hf : byteF f) : ∀ k, byteF (fdT a b c d e f n k)
  | 0 => hf
  | k + 1 => fun q => by
    show (va_up (fdT a b c d e f n k) (n + k) (fdB a b c d e k) q).toInt8.toInt32 = va_up (fdT a b c d e f n k) (n + k) (fdB a b c d e k) q
    by_cases g : q = n + k
    · rw [g, va_up_self]
      unfold fdB
      rw [Int8.toInt8_toInt32]
    · rw [va_up_ne _ _ g]
      exact fdT_b hf k q
section FD
variable {x : VS} {m : MS} {dA : Nat → ClassId} {ad : Nat → Nat} {e0 n cs ss : Nat}
theorem tg_tape (h : ∀ i, x.tpN ≤ i → x.tape i = 0) (ta : Nat) : (x.tgF ta).tape = x.tape := by
  unfold VS.tgF
  split
  · rfl
  · show va_cpy x.tape (fun _ => 0) 0 0 (min x.tpN (2 * x.tpN)) = x.tape
    funext k
    unfold va_cpy
    by_cases c : k < x.tpN
    · rw [if_pos (by omega), Nat.sub_zero, Nat.zero_add]
    · rw [if_neg (by omega), h k (by omega)]
theorem fdF_e (h : ∀ i, x.tpN ≤ i → x.tape i = 0) (ta : Nat) (a1 a2 a3 a4 a5 : Int32) : ∃ tq, x.fdF ta a1 a2 a3 a4 a5 = VS.s_tapeLength (VS.s_tape (VS.s_tpN (VS.s_tpA x tq) x.tcap) (fdT a1 a2 a3 a4 a5 x.tape x.tapeLength 20)) (x.tapeLength + 20) := by
  have et := tg_tape h ta
  rw [fd_20, ← et]
  by_cases c : x.tapeLength + 20 ≤ x.tpN
  · refine ⟨x.tpA, ?_⟩
    have e1 : x.tgF ta = x := if_pos c
    have e2 : x.tcap = x.tpN := if_pos c
    unfold VS.fdF
    rw [e1, e2]
    rfl
  · refine ⟨ta, ?_⟩
    have e1 : x.tgF ta = x.tgS ta := if_neg c
    have e2 : x.tcap = 2 * x.tpN := if_neg c
    unfold VS.fdF
    rw [e1, e2]
    rfl
set_option maxRecDepth 100000 in
theorem rl_feed (h : Rl dA ad e0 n x m cs ss) (hn : n + 1 ≤ 512) (ta : Nat) (a1 a2 a3 a4 a5 : Int32) : Rl dA ad e0 (n + 1) (x.fdF ta a1 a2 a3 a4 a5) (MS.s_length (MS.s_tape (MS.s_cod m 0) (fdT a1 a2 a3 a4 a5 m.tape m.length 20)) (m.length + 20)) (cs + (x.tcap - x.tpN) + 0 + 0) (ss + 2 * (x.tcap - x.tpN) + 0 + 0) := by
  obtain ⟨PS, SS, dn, bn, gq, rq, la, gk, AT, T, a1', ⟨⟨t1, t2, t3, t4⟩, ⟨t5, t6, t7⟩, t8⟩, a3', a4', a5', a6, a7, a8⟩ := h
  obtain ⟨n1, n2, n3, ⟨n4, n5, n6, n7⟩, ⟨n8, n9, n10, n11⟩, n12⟩ := a4'
  obtain ⟨tq, e⟩ := fdF_e t3 ta a1 a2 a3 a4 a5
  rw [e]
  have hc : x.tpN ≤ x.tcap ∧ x.tapeLength + 20 ≤ x.tcap ∧ x.tcap ≤ 65536 := by
    unfold VS.tcap
    split <;> omega
  refine ⟨PS, SS, dn, bn, gq, rq, la, gk, AT, T, a1', ⟨⟨by rw [t1, t2], by rw [t2], fun i hi => ?_, fdT_b t4 20⟩, ⟨hc.2.1, by show 256 ≤ x.tcap; omega, hc.2.2⟩, t8⟩, a3', ⟨n1, n2, n3, ⟨?_, ?_, ?_, n7⟩, ⟨by show x.writes ≤ 300 * (n + 1); omega, by show m.deletes ≤ 1300 * (n + 1); omega, by show m.parcelNumber ≤ n + 1; omega, n11⟩, n12⟩, a5', hn, ?_, ?_⟩
  · have hi : x.tcap ≤ i := hi
    show fdT a1 a2 a3 a4 a5 x.tape x.tapeLength 20 i = 0
    rw [fdT_hi 20 (by omega)]
    exact t3 i (by omega)
  · show 16 * x.jsize + (x.tapeLength + 20) ≤ _
    omega
  · show 16 * x.hsize + (x.tapeLength + 20) ≤ _
    omega
  · show 16 * (cnt m.points m.pkd + cnt x.jsize (fun r => decide (x.jK r = 1))) + (x.tapeLength + 20) ≤ _
    omega
  · show cs + (x.tcap - x.tpN) + 0 + 0 + 17 * (x.tapeLength + 20) ≤ 2000 + 400 * (n + 1) + 6 * x.jN + 3 * x.hN + 3 * x.gN + x.tcap
    omega
  · show ss + 2 * (x.tcap - x.tpN) + 0 + 0 + 70 * (x.tapeLength + 20) ≤ 1177800 + 6000 * (n + 1) + 12 * x.jN + 6 * x.hN + 6 * x.gN + 2 * x.tcap + (700 * gk.sz + 2 * sumN gk.sz (fun tb => (T tb).cN) + 4 * x.bN)
    omega
end FD
section CC
variable {p : Program} {e : Env} {s : State} {m : MethodId} {below : List Frame} {meth : Method} {c : Code} {b L : Nat} {xs : Nat → Int32} {D : va_G} {dA : Nat → ClassId} {e0 : Nat} {A : Nat → Prop} {h : Nat} {ad : Nat → Nat} {mm : Nat} {mad : Nat → Nat} {o : Nat} {n : Nat} {x : VS} {M : MS} {cs ss : Nat}
theorem call_0 (l : Launch) (hC : lS p l s m meth c b L xs D dA e0 A) (hL : L ≤ 3072) (hi : 6 * n + 6 ≤ L) (hR : Rl dA ad e0 n x M cs ss) (cont : ∀ x' M' cs' ss', Rl dA ad e0 (n + 1) x' M' cs' ss' → At9 p l e s m below meth c b D dA A h ad mm mad o 23 (6 * n + 6) x' M' cs' ss') : At9 p l e s m below meth c b D dA A h ad mm mad o (tg9 0) (6 * n) x M cs ss := by
  intro og H locs ls hP hD hS hl
  obtain ⟨PS, SS, dn, bn, gq, rq, la, gk, AT, T, co, ⟨⟨t1, t2, t3, t4⟩, ⟨t5, t6, t7⟩, ⟨t8, t9⟩, t10, t11, t12⟩, sr, ⟨k1, k2, k3, ⟨k4, k5, k6, k7⟩, k8⟩, ar, rr⟩ := id hR
  have hr2 := rl_feed hR (by omega) 0 (xs (6 * n + 1)) (xs (6 * n + 2)) (xs (6 * n + 3)) (xs (6 * n + 4)) (xs (6 * n + 5))
  obtain ⟨rn1, rn2⟩ := rl_room hr2
  have W1 := fun sz => k8_feed l D dA sz h ad o og x (xs (6 * n + 1)) (xs (6 * n + 2)) (xs (6 * n + 3)) (xs (6 * n + 4)) (xs (6 * n + 5)) (nI (x.tapeLength + 20)) (fun u => ∃ ta, u = x.fdF ta (xs (6 * n + 1)) (xs (6 * n + 2)) (xs (6 * n + 3)) (xs (6 * n + 4)) (xs (6 * n + 5))) _ _ _ _ (nf_i (fun sz => v_feed l D dA sz h ad x (xs (6 * n + 1)) (xs (6 * n + 2)) (xs (6 * n + 3)) (xs (6 * n + 4)) (xs (6 * n + 5)) (by omega) t5 t6 t7 t4) (fun r u q => q) (fun _ _ _ q => q))
  have M1 := fun sz => k_feed l D dA sz mm mad M (xs (6 * n + 1)) (xs (6 * n + 2)) (xs (6 * n + 3)) (xs (6 * n + 4)) (xs (6 * n + 5)) (by omega)
  exact l9_0 l hC hi hL ⟨by omega, by omega, by omega, by omega⟩ ⟨by omega, by omega⟩ rfl (by rw [t2]) W1 M1 hP hD hS hl (fun u H1 locs1 ls1 hf hP hD hS hl => by
    obtain ⟨ta, eu⟩ := hf
    refine cont u _ _ _ ?_ _ H1 locs1 ls1 hP hD hS hl
    rw [eu]
    exact rl_feed hR (by omega) ta (xs (6 * n + 1)) (xs (6 * n + 2)) (xs (6 * n + 3)) (xs (6 * n + 4)) (xs (6 * n + 5)))
end CC
end
section
/-! The table shown: the calls. -/
theorem sk_all {dA : Nat → ClassId} {ad : Nat → Nat} {x : VS} {Q rq : va_W} {la : Nat → Nat} {g : LI} {AT : Nat → Nat → Nat} {T : Nat → TB} (h : skP dA ad [] (VS.s_ll x rq) la g AT T) (e : x.ll = Q ++ rq) : skP dA ad Q x la g AT T := by
  obtain ⟨k1, k2⟩ := h
  refine ⟨?_, k2⟩
  rw [e]
  have k1 : rq.Perm (LiW dA la g ++ (tbs dA AT T g.sz ++ [])) := k1
  rw [List.append_nil] at k1
  refine (List.Perm.append_left Q k1).trans ?_
  refine List.perm_append_comm.trans ?_
  rw [List.append_assoc]
theorem i32_n0 {z : Int32} (h1 : ¬ z < 0) : ∃ j : Nat, j < 2 ^ 31 ∧ z = nI j := by
  have e0 : (0 : Int32).toInt = 0 := by decide
  rw [Int32.lt_iff_toInt_lt, e0] at h1
  have h2 := z.toInt_lt
  have hlt : z.toInt.toNat < 2 ^ 31 := by omega
  refine ⟨z.toInt.toNat, hlt, ?_⟩
  apply Int32.toInt_inj.mp
  rw [nI_toInt hlt]
  omega
theorem nI_le_r {a r : Nat} (ha : a < 2 ^ 31) (hr : r < 2 ^ 31) (h : nI a ≤ nI r) : a ≤ r := by
  rw [Int32.le_iff_toInt_le, nI_toInt ha, nI_toInt hr] at h
  omega
section CD
variable {p : Program} {e : Env} {s : State} {m : MethodId} {below : List Frame} {meth : Method} {c : Code} {b L : Nat} {xs : Nat → Int32} {D : va_G} {dA : Nat → ClassId} {e0 : Nat} {A : Nat → Prop} {h : Nat} {ad : Nat → Nat} {mm : Nat} {mad : Nat → Nat} {o : Nat} {n : Nat} {x : VS} {M : MS} {cs ss : Nat}
theorem call_14 (l : Launch) (hC : lS p l s m meth c b L xs D dA e0 A) (hL : L ≤ 3072) (hi : 6 * n + 6 ≤ L) (hR : Rl dA ad e0 n x M cs ss) (cont : ∀ x' M' cs' ss', Rl dA ad e0 (n + 1) x' M' cs' ss' → At9 p l e s m below meth c b D dA A h ad mm mad o 23 (6 * n + 6) x' M' cs' ss') : At9 p l e s m below meth c b D dA A h ad mm mad o (tg9 14) (6 * n) x M cs ss := by
  intro og H locs ls hP hD hS hl
  obtain ⟨rm1, rm2⟩ := rl_room (rl_skip hR (by omega))
  obtain ⟨PS, SS, dn, bn, gq, rq, la, gk, AT, T, co, ⟨⟨t1, t2, t3, t4⟩, ⟨t5, t6, t7⟩, ⟨t8, t9⟩, t10, t11, t12⟩, ⟨sr1, sr2, sr3, sr4, sr5⟩, nr, ⟨⟨r1, r2, r3, r4⟩, r5, ⟨r6, r7⟩, ⟨r8, r9⟩, r10⟩, rr⟩ := id hR
  obtain ⟨cp, cb, ⟨se1, se2⟩, ⟨g1, g2, g3, g4, g5, g6, g7, g8, g9, g10, g11⟩, cj, ck, cc⟩ := id co
  obtain ⟨⟨n1, n2, n3, n4⟩, ⟨n5, n6, n7⟩, ⟨n8, n9, n10, n11, n12, n13, n14, n15⟩, ⟨n16, n17, n18, n19⟩, ⟨n20, n21, n22, n23⟩, n24⟩ := id nr
  cases ht : x.hasTable with
  | false =>
    have hr2 := rl_up (cs' := cs + 0 + 0) (ss' := ss + 0 + 0) hR (by omega) 0 (by omega) (by omega)
    have W1 := nf_i (v := -1) (F := fun u => u = x) (fun sz => v_names_0 l D dA sz h ad x ht) (fun r u q => ⟨q, rfl⟩) (fun _ _ _ q => q)
    have M1 := fun sz => k_names_0 l D dA sz mm mad M (r8.trans ht)
    exact l9_14 l hC hi hL ⟨by omega, by omega, by omega, by omega⟩ ⟨by omega, by omega⟩ W1 M1 hP hD hS hl (fun u H1 locs1 ls1 hf hP hD hS hl => cont u _ _ _ (by rw [show u = x from hf]; exact hr2) og H1 locs1 ls1 hP hD hS hl)
  | true =>
    obtain ⟨NL, RS, ⟨⟨w1, w2, w3, w4, w5, w6⟩, w7, w8⟩, w9⟩ := r9 ht
    have hk := sk_all r3 r1
    have hr2 := rl_up (cs' := cs + 0 + 0) (ss' := ss + 0 + 0) hR (by omega) 0 (by omega) (by omega)
    have W1 := nf_i (v := nI M.names) (F := fun u => u = x) (fun sz => v_names_1W l D dA sz h ad x la gk AT T _ hk r4 ht) (fun r u q => ⟨by rw [w1]; exact q, rfl⟩) (fun _ _ _ q => q)
    have M1 := fun sz => k_names l D dA sz mm mad M (r8.trans ht)
    exact l9_14 l hC hi hL ⟨by omega, by omega, by omega, by omega⟩ ⟨by omega, by omega⟩ W1 M1 hP hD hS hl (fun u H1 locs1 ls1 hf hP hD hS hl => cont u _ _ _ (by rw [show u = x from hf]; exact hr2) og H1 locs1 ls1 hP hD hS hl)
theorem call_16 (l : Launch) (hC : lS p l s m meth c b L xs D dA e0 A) (hL : L ≤ 3072) (hi : 6 * n + 6 ≤ L) (hR : Rl dA ad e0 n x M cs ss) (cont : ∀ x' M' cs' ss', Rl dA ad e0 (n + 1) x' M' cs' ss' → At9 p l e s m below meth c b D dA A h ad mm mad o 23 (6 * n + 6) x' M' cs' ss') : At9 p l e s m below meth c b D dA A h ad mm mad o (tg9 16) (6 * n) x M cs ss := by
  intro og H locs ls hP hD hS hl
  obtain ⟨rm1, rm2⟩ := rl_room (rl_skip hR (by omega))
  obtain ⟨PS, SS, dn, bn, gq, rq, la, gk, AT, T, co, ⟨⟨t1, t2, t3, t4⟩, ⟨t5, t6, t7⟩, ⟨t8, t9⟩, t10, t11, t12⟩, ⟨sr1, sr2, sr3, sr4, sr5⟩, nr, ⟨⟨r1, r2, r3, r4⟩, r5, ⟨r6, r7⟩, ⟨r8, r9⟩, r10⟩, rr⟩ := id hR
  obtain ⟨cp, cb, ⟨se1, se2⟩, ⟨g1, g2, g3, g4, g5, g6, g7, g8, g9, g10, g11⟩, cj, ck, cc⟩ := id co
  obtain ⟨⟨n1, n2, n3, n4⟩, ⟨n5, n6, n7⟩, ⟨n8, n9, n10, n11, n12, n13, n14, n15⟩, ⟨n16, n17, n18, n19⟩, ⟨n20, n21, n22, n23⟩, n24⟩ := id nr
  cases ht : x.hasTable with
  | false =>
    have hr2 := rl_up (cs' := cs + 1 + 0 + 0) (ss' := ss + 6 + 0 + 0) hR (by omega) 1 (by omega) (by omega)
    obtain ⟨rn1, rn2⟩ := rl_room hr2
    have W1 := fun sz => k8_isThere_1 l D dA sz h ad o og x (xs (6 * n + 1)) (xs (6 * n + 2)) (fun u => u = x) _ _ _ _ (nf_x1 (w := fun _ => x) (fun sz => v_isThere_xa l (lS_tr hC) D dA sz h ad x (xs (6 * n + 1)) (xs (6 * n + 2)) ht) (fun _ _ => rfl) (fun _ _ _ q => q))
    have M1 := fun sz => k_isThere_1 l D dA sz mm mad M (xs (6 * n + 1)) (xs (6 * n + 2)) (Or.inl (r8.trans ht))
    exact l9_16_x l hC (k9 := 1) hi hL ⟨by omega, by omega, by omega, by omega⟩ ⟨by omega, by omega⟩ rfl k_n1 W1 M1 hP hD hS hl (fun u H1 locs1 ls1 hf hP hD hS hl => cont u _ _ _ (by rw [show u = x from hf]; exact hr2) og H1 locs1 ls1 hP hD hS hl)
  | true =>
    obtain ⟨NL, RS, ⟨⟨w1, w2, w3, w4, w5, w6⟩, w7, w8⟩, w9⟩ := r9 ht
    have hk := sk_all r3 r1
    by_cases hv : xs (6 * n + 1) < 0
    · have hr2 := rl_up (cs' := cs + 1 + 0 + 0) (ss' := ss + 6 + 0 + 0) hR (by omega) 1 (by omega) (by omega)
      obtain ⟨rn1, rn2⟩ := rl_room hr2
      have W1 := fun sz => k8_isThere_1 l D dA sz h ad o og x (xs (6 * n + 1)) (xs (6 * n + 2)) (fun u => u = x) _ _ _ _ (nf_x1 (w := fun _ => x) (fun sz => v_isThere_xb l (lS_tr hC) D dA sz h ad x (xs (6 * n + 1)) (xs (6 * n + 2)) ht hv) (fun _ _ => rfl) (fun _ _ _ q => q))
      have M1 := fun sz => k_isThere_1 l D dA sz mm mad M (xs (6 * n + 1)) (xs (6 * n + 2)) (Or.inr (Or.inl hv))
      exact l9_16_x l hC (k9 := 1) hi hL ⟨by omega, by omega, by omega, by omega⟩ ⟨by omega, by omega⟩ rfl k_n1 W1 M1 hP hD hS hl (fun u H1 locs1 ls1 hf hP hD hS hl => cont u _ _ _ (by rw [show u = x from hf]; exact hr2) og H1 locs1 ls1 hP hD hS hl)
    · by_cases hv2 : nI (T 0).rc ≤ xs (6 * n + 1)
      · obtain ⟨r, hr, er⟩ : ∃ r : Nat, r < 2 ^ 31 ∧ xs (6 * n + 1) = nI r := i32_n0 hv
        have hr1 : (T 0).rc ≤ r := nI_le_r (by omega) hr (by rw [← er]; exact hv2)
        have hr2 := rl_up (cs' := cs + 1 + 0 + 0) (ss' := ss + 6 + 0 + 0) hR (by omega) 1 (by omega) (by omega)
        obtain ⟨rn1, rn2⟩ := rl_room hr2
        have W1 := fun sz => k8_isThere_1 l D dA sz h ad o og x (xs (6 * n + 1)) (xs (6 * n + 2)) (fun u => u = x) _ _ _ _ (nf_x1 (w := fun _ => x) (fun sz => v_isThere_xc l (lS_tr hC) D dA sz h ad x la gk AT T _ r (xs (6 * n + 2)) hk r4 ht hr1 w4 hr) (fun _ _ => rfl) (fun _ _ _ q => by rw [er] at q; exact q))
        have M1 := fun sz => k_isThere_1 l D dA sz mm mad M (xs (6 * n + 1)) (xs (6 * n + 2)) (Or.inr (Or.inr (by rw [w3]; exact hv2)))
        exact l9_16_x l hC (k9 := 1) hi hL ⟨by omega, by omega, by omega, by omega⟩ ⟨by omega, by omega⟩ rfl k_n1 W1 M1 hP hD hS hl (fun u H1 locs1 ls1 hf hP hD hS hl => cont u _ _ _ (by rw [show u = x from hf]; exact hr2) og H1 locs1 ls1 hP hD hS hl)
      · obtain ⟨r, hr, er⟩ := i32_lt (a := (T 0).rc) (by omega) hv hv2
        by_cases hu : xs (6 * n + 2) < 0
        · have hr2 := rl_up (cs' := cs + 1 + 0 + 0) (ss' := ss + 6 + 0 + 0) hR (by omega) 1 (by omega) (by omega)
          obtain ⟨rn1, rn2⟩ := rl_room hr2
          have W1 := fun sz => k8_isThere_1 l D dA sz h ad o og x (xs (6 * n + 1)) (xs (6 * n + 2)) (fun u => u = x) _ _ _ _ (nf_x1 (w := fun _ => x) (fun sz => v_isThere_xd l (lS_tr hC) D dA sz h ad x la gk AT T _ r (xs (6 * n + 2)) hk r4 ht hr w4 hu) (fun _ _ => rfl) (fun _ _ _ q => by rw [er] at q; exact q))
          have M1 := nm_i (M1 := MS.s_cod M 1) (b := bI false) (Pc2 := fun sz => pC D dA [.ref mm, .int (xs (6 * n + 1)), .int (xs (6 * n + 2))] (MW dA mm mad M) sz) (fun sz => k_isThere_2 l D dA sz mm mad M r (xs (6 * n + 2)) (r8.trans ht) (by omega) (by omega) (Or.inl hu)) (fun r u q => ⟨q, rfl⟩) (fun _ _ _ q => by rw [er] at q; exact q)
          exact l9_16_x l hC (k9 := 1) hi hL ⟨by omega, by omega, by omega, by omega⟩ ⟨by omega, by omega⟩ rfl k_n1 W1 M1 hP hD hS hl (fun u H1 locs1 ls1 hf hP hD hS hl => cont u _ _ _ (by rw [show u = x from hf]; exact hr2) og H1 locs1 ls1 hP hD hS hl)
        · by_cases hu2 : nI (T 0).wi ≤ xs (6 * n + 2)
          · obtain ⟨w, hw, ew⟩ : ∃ w : Nat, w < 2 ^ 31 ∧ xs (6 * n + 2) = nI w := i32_n0 hu
            have hw1 : (T 0).wi ≤ w := nI_le_r (by omega) hw (by rw [← ew]; exact hu2)
            have hr2 := rl_up (cs' := cs + 1 + 0 + 0) (ss' := ss + 6 + 0 + 0) hR (by omega) 1 (by omega) (by omega)
            obtain ⟨rn1, rn2⟩ := rl_room hr2
            have W1 := fun sz => k8_isThere_1 l D dA sz h ad o og x (xs (6 * n + 1)) (xs (6 * n + 2)) (fun u => u = x) _ _ _ _ (nf_x1 (w := fun _ => x) (fun sz => v_isThere_xe l (lS_tr hC) D dA sz h ad x la gk AT T _ r w hk r4 ht hr w4 hw1 w6 hw) (fun _ _ => rfl) (fun _ _ _ q => by rw [er, ew] at q; exact q))
            have M1 := nm_i (M1 := MS.s_cod M 1) (b := bI false) (Pc2 := fun sz => pC D dA [.ref mm, .int (xs (6 * n + 1)), .int (xs (6 * n + 2))] (MW dA mm mad M) sz) (fun sz => k_isThere_2 l D dA sz mm mad M r (xs (6 * n + 2)) (r8.trans ht) (by omega) (by omega) (Or.inr (by rw [w5]; exact hu2))) (fun r u q => ⟨q, rfl⟩) (fun _ _ _ q => by rw [er] at q; exact q)
            exact l9_16_x l hC (k9 := 1) hi hL ⟨by omega, by omega, by omega, by omega⟩ ⟨by omega, by omega⟩ rfl k_n1 W1 M1 hP hD hS hl (fun u H1 locs1 ls1 hf hP hD hS hl => cont u _ _ _ (by rw [show u = x from hf]; exact hr2) og H1 locs1 ls1 hP hD hS hl)
          · obtain ⟨w, hw, ew⟩ := i32_lt (a := (T 0).wi) (by omega) hu hu2
            obtain ⟨y1, y2⟩ := w7 r w hr hw
            have hr2 := rl_up (cs' := cs + 0 + 0 + 0) (ss' := ss + 0 + 0 + 0) hR (by omega) 0 (by omega) (by omega)
            cases hb : hasB ((T 0).th r) w with
            | true =>
              have W1 := fun sz => k8_isThere_b1 l D dA sz h ad o og x (xs (6 * n + 1)) (xs (6 * n + 2)) (fun u => u = x) _ _ _ _ (nf_i (fun sz => v_isThere_1W l D dA sz h ad x la gk AT T _ r w hk r4 ht hr w4 hw w6) (fun r u q => ⟨by rw [hb] at q; exact q, rfl⟩) (fun _ _ _ q => by rw [er, ew] at q; exact q))
              have M1 := nm_i (M1 := MS.s_cod M 0) (b := 1) (Pc2 := fun sz => pC D dA [.ref mm, .int (xs (6 * n + 1)), .int (xs (6 * n + 2))] (MW dA mm mad M) sz) (fun sz => k_isThere_t l D dA sz mm mad M r w (r8.trans ht) (by omega) (by omega) (by omega) (by omega) (by rw [y1]; exact hb)) (fun r u q => ⟨q, rfl⟩) (fun _ _ _ q => by rw [er, ew] at q; exact q)
              exact l9_16_1 l hC hi hL ⟨by omega, by omega, by omega, by omega⟩ ⟨by omega, by omega⟩ rfl rfl W1 M1 hP hD hS hl (fun u H1 locs1 ls1 hf hP hD hS hl => cont u _ _ _ (by rw [show u = x from hf]; exact hr2) _ H1 locs1 ls1 hP hD hS hl)
            | false =>
              have W1 := fun sz => k8_isThere_b0 l D dA sz h ad o og x (xs (6 * n + 1)) (xs (6 * n + 2)) (fun u => u = x) _ _ _ _ (nf_i (fun sz => v_isThere_1W l D dA sz h ad x la gk AT T _ r w hk r4 ht hr w4 hw w6) (fun r u q => ⟨by rw [hb] at q; exact q, rfl⟩) (fun _ _ _ q => by rw [er, ew] at q; exact q))
              have M1 := nm_i (M1 := MS.s_cod M 0) (b := 0) (Pc2 := fun sz => pC D dA [.ref mm, .int (xs (6 * n + 1)), .int (xs (6 * n + 2))] (MW dA mm mad M) sz) (fun sz => k_isThere_f l D dA sz mm mad M r w (r8.trans ht) (by omega) (by omega) (by omega) (by omega) (by rw [y1]; exact hb)) (fun r u q => ⟨q, rfl⟩) (fun _ _ _ q => by rw [er, ew] at q; exact q)
              exact l9_16_0 l hC hi hL ⟨by omega, by omega, by omega, by omega⟩ ⟨by omega, by omega⟩ rfl rfl W1 M1 hP hD hS hl (fun u H1 locs1 ls1 hf hP hD hS hl => cont u _ _ _ (by rw [show u = x from hf]; exact hr2) _ H1 locs1 ls1 hP hD hS hl)
theorem call_17 (l : Launch) (hC : lS p l s m meth c b L xs D dA e0 A) (hL : L ≤ 3072) (hi : 6 * n + 6 ≤ L) (hR : Rl dA ad e0 n x M cs ss) (cont : ∀ x' M' cs' ss', Rl dA ad e0 (n + 1) x' M' cs' ss' → At9 p l e s m below meth c b D dA A h ad mm mad o 23 (6 * n + 6) x' M' cs' ss') : At9 p l e s m below meth c b D dA A h ad mm mad o (tg9 17) (6 * n) x M cs ss := by
  intro og H locs ls hP hD hS hl
  obtain ⟨rm1, rm2⟩ := rl_room (rl_skip hR (by omega))
  obtain ⟨PS, SS, dn, bn, gq, rq, la, gk, AT, T, co, ⟨⟨t1, t2, t3, t4⟩, ⟨t5, t6, t7⟩, ⟨t8, t9⟩, t10, t11, t12⟩, ⟨sr1, sr2, sr3, sr4, sr5⟩, nr, ⟨⟨r1, r2, r3, r4⟩, r5, ⟨r6, r7⟩, ⟨r8, r9⟩, r10⟩, rr⟩ := id hR
  obtain ⟨cp, cb, ⟨se1, se2⟩, ⟨g1, g2, g3, g4, g5, g6, g7, g8, g9, g10, g11⟩, cj, ck, cc⟩ := id co
  obtain ⟨⟨n1, n2, n3, n4⟩, ⟨n5, n6, n7⟩, ⟨n8, n9, n10, n11, n12, n13, n14, n15⟩, ⟨n16, n17, n18, n19⟩, ⟨n20, n21, n22, n23⟩, n24⟩ := id nr
  cases ht : x.hasTable with
  | false =>
    have hr2 := rl_up (cs' := cs + 1 + 0 + 0) (ss' := ss + 6 + 0 + 0) hR (by omega) 1 (by omega) (by omega)
    obtain ⟨rn1, rn2⟩ := rl_room hr2
    have W1 := fun sz => k8_cell_1 l D dA sz h ad o og x (xs (6 * n + 1)) (xs (6 * n + 2)) (fun u => u = x) _ _ _ _ (nf_x1 (w := fun _ => x) (fun sz => v_cell_xa l (lS_tr hC) D dA sz h ad x (xs (6 * n + 1)) (xs (6 * n + 2)) ht) (fun _ _ => rfl) (fun _ _ _ q => q))
    have M1 := fun sz => k_cell_1 l D dA sz mm mad M (xs (6 * n + 1)) (xs (6 * n + 2)) (Or.inl (r8.trans ht))
    exact l9_17_x l hC (k9 := 1) hi hL ⟨by omega, by omega, by omega, by omega⟩ ⟨by omega, by omega⟩ rfl k_n1 W1 M1 hP hD hS hl (fun u H1 locs1 ls1 hf hP hD hS hl => cont u _ _ _ (by rw [show u = x from hf]; exact hr2) og H1 locs1 ls1 hP hD hS hl)
  | true =>
    obtain ⟨NL, RS, ⟨⟨w1, w2, w3, w4, w5, w6⟩, w7, w8⟩, w9⟩ := r9 ht
    have hk := sk_all r3 r1
    by_cases hv : xs (6 * n + 1) < 0
    · have hr2 := rl_up (cs' := cs + 1 + 0 + 0) (ss' := ss + 6 + 0 + 0) hR (by omega) 1 (by omega) (by omega)
      obtain ⟨rn1, rn2⟩ := rl_room hr2
      have W1 := fun sz => k8_cell_1 l D dA sz h ad o og x (xs (6 * n + 1)) (xs (6 * n + 2)) (fun u => u = x) _ _ _ _ (nf_x1 (w := fun _ => x) (fun sz => v_cell_xb l (lS_tr hC) D dA sz h ad x (xs (6 * n + 1)) (xs (6 * n + 2)) ht hv) (fun _ _ => rfl) (fun _ _ _ q => q))
      have M1 := fun sz => k_cell_1 l D dA sz mm mad M (xs (6 * n + 1)) (xs (6 * n + 2)) (Or.inr (Or.inl hv))
      exact l9_17_x l hC (k9 := 1) hi hL ⟨by omega, by omega, by omega, by omega⟩ ⟨by omega, by omega⟩ rfl k_n1 W1 M1 hP hD hS hl (fun u H1 locs1 ls1 hf hP hD hS hl => cont u _ _ _ (by rw [show u = x from hf]; exact hr2) og H1 locs1 ls1 hP hD hS hl)
    · by_cases hv2 : nI (T 0).rc ≤ xs (6 * n + 1)
      · obtain ⟨r, hr, er⟩ : ∃ r : Nat, r < 2 ^ 31 ∧ xs (6 * n + 1) = nI r := i32_n0 hv
        have hr1 : (T 0).rc ≤ r := nI_le_r (by omega) hr (by rw [← er]; exact hv2)
        have hr2 := rl_up (cs' := cs + 1 + 0 + 0) (ss' := ss + 6 + 0 + 0) hR (by omega) 1 (by omega) (by omega)
        obtain ⟨rn1, rn2⟩ := rl_room hr2
        have W1 := fun sz => k8_cell_1 l D dA sz h ad o og x (xs (6 * n + 1)) (xs (6 * n + 2)) (fun u => u = x) _ _ _ _ (nf_x1 (w := fun _ => x) (fun sz => v_cell_xc l (lS_tr hC) D dA sz h ad x la gk AT T _ r (xs (6 * n + 2)) hk r4 ht hr1 w4 hr) (fun _ _ => rfl) (fun _ _ _ q => by rw [er] at q; exact q))
        have M1 := fun sz => k_cell_1 l D dA sz mm mad M (xs (6 * n + 1)) (xs (6 * n + 2)) (Or.inr (Or.inr (by rw [w3]; exact hv2)))
        exact l9_17_x l hC (k9 := 1) hi hL ⟨by omega, by omega, by omega, by omega⟩ ⟨by omega, by omega⟩ rfl k_n1 W1 M1 hP hD hS hl (fun u H1 locs1 ls1 hf hP hD hS hl => cont u _ _ _ (by rw [show u = x from hf]; exact hr2) og H1 locs1 ls1 hP hD hS hl)
      · obtain ⟨r, hr, er⟩ := i32_lt (a := (T 0).rc) (by omega) hv hv2
        by_cases hu : xs (6 * n + 2) < 0
        · have hr2 := rl_up (cs' := cs + 1 + 0 + 0) (ss' := ss + 6 + 0 + 0) hR (by omega) 1 (by omega) (by omega)
          obtain ⟨rn1, rn2⟩ := rl_room hr2
          have W1 := fun sz => k8_cell_1 l D dA sz h ad o og x (xs (6 * n + 1)) (xs (6 * n + 2)) (fun u => u = x) _ _ _ _ (nf_x1 (w := fun _ => x) (fun sz => v_cell_xd l (lS_tr hC) D dA sz h ad x la gk AT T _ r (xs (6 * n + 2)) hk r4 ht hr w4 hu) (fun _ _ => rfl) (fun _ _ _ q => by rw [er] at q; exact q))
          have M1 := nm_l (M1 := MS.s_cod M 1) (b := 0) (Pc2 := fun sz => pC D dA [.ref mm, .int (xs (6 * n + 1)), .int (xs (6 * n + 2))] (MW dA mm mad M) sz) (fun sz => k_cell_2 l D dA sz mm mad M r (xs (6 * n + 2)) (r8.trans ht) (by omega) (by omega) (Or.inl hu)) (fun r u q => ⟨q, rfl⟩) (fun _ _ _ q => by rw [er] at q; exact q)
          exact l9_17_x l hC (k9 := 1) hi hL ⟨by omega, by omega, by omega, by omega⟩ ⟨by omega, by omega⟩ rfl k_n1 W1 M1 hP hD hS hl (fun u H1 locs1 ls1 hf hP hD hS hl => cont u _ _ _ (by rw [show u = x from hf]; exact hr2) og H1 locs1 ls1 hP hD hS hl)
        · by_cases hu2 : nI (T 0).wi ≤ xs (6 * n + 2)
          · obtain ⟨w, hw, ew⟩ : ∃ w : Nat, w < 2 ^ 31 ∧ xs (6 * n + 2) = nI w := i32_n0 hu
            have hw1 : (T 0).wi ≤ w := nI_le_r (by omega) hw (by rw [← ew]; exact hu2)
            have hr2 := rl_up (cs' := cs + 1 + 0 + 0) (ss' := ss + 6 + 0 + 0) hR (by omega) 1 (by omega) (by omega)
            obtain ⟨rn1, rn2⟩ := rl_room hr2
            have W1 := fun sz => k8_cell_1 l D dA sz h ad o og x (xs (6 * n + 1)) (xs (6 * n + 2)) (fun u => u = x) _ _ _ _ (nf_x1 (w := fun _ => x) (fun sz => v_cell_xe l (lS_tr hC) D dA sz h ad x la gk AT T _ r w hk r4 ht hr w4 hw1 w6 hw) (fun _ _ => rfl) (fun _ _ _ q => by rw [er, ew] at q; exact q))
            have M1 := nm_l (M1 := MS.s_cod M 1) (b := 0) (Pc2 := fun sz => pC D dA [.ref mm, .int (xs (6 * n + 1)), .int (xs (6 * n + 2))] (MW dA mm mad M) sz) (fun sz => k_cell_2 l D dA sz mm mad M r (xs (6 * n + 2)) (r8.trans ht) (by omega) (by omega) (Or.inr (by rw [w5]; exact hu2))) (fun r u q => ⟨q, rfl⟩) (fun _ _ _ q => by rw [er] at q; exact q)
            exact l9_17_x l hC (k9 := 1) hi hL ⟨by omega, by omega, by omega, by omega⟩ ⟨by omega, by omega⟩ rfl k_n1 W1 M1 hP hD hS hl (fun u H1 locs1 ls1 hf hP hD hS hl => cont u _ _ _ (by rw [show u = x from hf]; exact hr2) og H1 locs1 ls1 hP hD hS hl)
          · obtain ⟨w, hw, ew⟩ := i32_lt (a := (T 0).wi) (by omega) hu hu2
            obtain ⟨y1, y2⟩ := w7 r w hr hw
            have hr2 := rl_up (cs' := cs + 0 + 0 + 0) (ss' := ss + 0 + 0 + 0) hR (by omega) 0 (by omega) (by omega)
            cases hb : hasB ((T 0).th r) w with
            | true =>
              have W1 := fun sz => k8_cell l D dA sz h ad o og x (xs (6 * n + 1)) (xs (6 * n + 2)) ((T 0).ce (r * (T 0).wi + w)) (fun u => u = x) _ _ _ _ (nf_l (fun sz => v_cell_1W l D dA sz h ad x la gk AT T _ r w hk r4 ht hr w4 hw w6 w9.2.2.2.2.2.2.2.1 w9.2.2.2.2.2.2.1) (fun r u q => ⟨by rw [hb] at q; exact q, rfl⟩) (fun _ _ _ q => by rw [er, ew] at q; exact q))
              have M1 := nm_l (M1 := MS.s_cod M 0) (b := M.shown (64 * r + w)) (Pc2 := fun sz => pC D dA [.ref mm, .int (xs (6 * n + 1)), .int (xs (6 * n + 2))] (MW dA mm mad M) sz) (fun sz => k_cell_t l D dA sz mm mad M r w (r8.trans ht) (by omega) (by omega) (by omega) (by omega) (by rw [y1]; exact hb)) (fun r u q => ⟨q, rfl⟩) (fun _ _ _ q => by rw [er, ew] at q; exact q)
              exact l9_17 l hC hi hL ⟨by omega, by omega, by omega, by omega⟩ ⟨by omega, by omega⟩ rfl (y2 hb).symm W1 M1 hP hD hS hl (fun u H1 locs1 ls1 hf hP hD hS hl => cont u _ _ _ (by rw [show u = x from hf]; exact hr2) _ H1 locs1 ls1 hP hD hS hl)
            | false =>
              have W1 := fun sz => k8_cell l D dA sz h ad o og x (xs (6 * n + 1)) (xs (6 * n + 2)) (0) (fun u => u = x) _ _ _ _ (nf_l (fun sz => v_cell_1W l D dA sz h ad x la gk AT T _ r w hk r4 ht hr w4 hw w6 w9.2.2.2.2.2.2.2.1 w9.2.2.2.2.2.2.1) (fun r u q => ⟨by rw [hb] at q; exact q, rfl⟩) (fun _ _ _ q => by rw [er, ew] at q; exact q))
              have M1 := nm_l (M1 := MS.s_cod M 0) (b := 0) (Pc2 := fun sz => pC D dA [.ref mm, .int (xs (6 * n + 1)), .int (xs (6 * n + 2))] (MW dA mm mad M) sz) (fun sz => k_cell_f l D dA sz mm mad M r w (r8.trans ht) (by omega) (by omega) (by omega) (by omega) (by rw [y1]; exact hb)) (fun r u q => ⟨q, rfl⟩) (fun _ _ _ q => by rw [er, ew] at q; exact q)
              exact l9_17 l hC hi hL ⟨by omega, by omega, by omega, by omega⟩ ⟨by omega, by omega⟩ rfl rfl W1 M1 hP hD hS hl (fun u H1 locs1 ls1 hf hP hD hS hl => cont u _ _ _ (by rw [show u = x from hf]; exact hr2) _ H1 locs1 ls1 hP hD hS hl)
theorem call_15 (l : Launch) (hC : lS p l s m meth c b L xs D dA e0 A) (hL : L ≤ 3072) (hi : 6 * n + 6 ≤ L) (hR : Rl dA ad e0 n x M cs ss) (cont : ∀ x' M' cs' ss', Rl dA ad e0 (n + 1) x' M' cs' ss' → At9 p l e s m below meth c b D dA A h ad mm mad o 23 (6 * n + 6) x' M' cs' ss') : At9 p l e s m below meth c b D dA A h ad mm mad o (tg9 15) (6 * n) x M cs ss := by
  intro og H locs ls hP hD hS hl
  obtain ⟨rm1, rm2⟩ := rl_room (rl_skip hR (by omega))
  obtain ⟨PS, SS, dn, bn, gq, rq, la, gk, AT, T, co, ⟨⟨t1, t2, t3, t4⟩, ⟨t5, t6, t7⟩, ⟨t8, t9⟩, t10, t11, t12⟩, ⟨sr1, sr2, sr3, sr4, sr5⟩, nr, ⟨⟨r1, r2, r3, r4⟩, r5, ⟨r6, r7⟩, ⟨r8, r9⟩, r10⟩, rr⟩ := id hR
  obtain ⟨cp, cb, ⟨se1, se2⟩, ⟨g1, g2, g3, g4, g5, g6, g7, g8, g9, g10, g11⟩, cj, ck, cc⟩ := id co
  obtain ⟨⟨n1, n2, n3, n4⟩, ⟨n5, n6, n7⟩, ⟨n8, n9, n10, n11, n12, n13, n14, n15⟩, ⟨n16, n17, n18, n19⟩, ⟨n20, n21, n22, n23⟩, n24⟩ := id nr
  cases ht : x.hasTable with
  | false =>
    have hr2 := rl_up (cs' := cs + 1 + 0 + 0) (ss' := ss + 6 + 0 + 0) hR (by omega) 1 (by omega) (by omega)
    obtain ⟨rn1, rn2⟩ := rl_room hr2
    have W1 := fun sz => k8_text_1 l D dA sz h ad o og x (xs (6 * n + 1)) (xs (6 * n + 2)) (xs (6 * n + 3)) (fun u => u = x) _ _ _ _ (nf_x1 (w := fun _ => x) (fun sz => v_text_xa l (lS_tr hC) D dA sz h ad x (xs (6 * n + 1)) (xs (6 * n + 2)) (xs (6 * n + 3)) ht) (fun _ _ => rfl) (fun _ _ _ q => q))
    have M1 := fun sz => k_text_1 l D dA sz mm mad M (xs (6 * n + 1)) (xs (6 * n + 2)) (xs (6 * n + 3)) (Or.inl (r8.trans ht))
    exact l9_15_x l hC (k9 := 1) hi hL ⟨by omega, by omega, by omega, by omega⟩ ⟨by omega, by omega⟩ rfl k_n1 W1 M1 hP hD hS hl (fun u H1 locs1 ls1 hf hP hD hS hl => cont u _ _ _ (by rw [show u = x from hf]; exact hr2) og H1 locs1 ls1 hP hD hS hl)
  | true =>
    obtain ⟨NL, RS, ⟨⟨w1, w2, w3, w4, w5, w6⟩, w7, w8⟩, w9⟩ := r9 ht
    have hk := sk_all r3 r1
    by_cases hv : xs (6 * n + 1) < 0
    · have hr2 := rl_up (cs' := cs + 1 + 0 + 0) (ss' := ss + 6 + 0 + 0) hR (by omega) 1 (by omega) (by omega)
      obtain ⟨rn1, rn2⟩ := rl_room hr2
      have W1 := fun sz => k8_text_1 l D dA sz h ad o og x (xs (6 * n + 1)) (xs (6 * n + 2)) (xs (6 * n + 3)) (fun u => u = x) _ _ _ _ (nf_x1 (w := fun _ => x) (fun sz => v_text_xb l (lS_tr hC) D dA sz h ad x (xs (6 * n + 1)) (xs (6 * n + 2)) (xs (6 * n + 3)) ht hv) (fun _ _ => rfl) (fun _ _ _ q => q))
      have M1 := fun sz => k_text_1 l D dA sz mm mad M (xs (6 * n + 1)) (xs (6 * n + 2)) (xs (6 * n + 3)) (Or.inr (Or.inl hv))
      exact l9_15_x l hC (k9 := 1) hi hL ⟨by omega, by omega, by omega, by omega⟩ ⟨by omega, by omega⟩ rfl k_n1 W1 M1 hP hD hS hl (fun u H1 locs1 ls1 hf hP hD hS hl => cont u _ _ _ (by rw [show u = x from hf]; exact hr2) og H1 locs1 ls1 hP hD hS hl)
    · by_cases hv2 : nI (T 0).rc ≤ xs (6 * n + 1)
      · obtain ⟨r, hr, er⟩ : ∃ r : Nat, r < 2 ^ 31 ∧ xs (6 * n + 1) = nI r := i32_n0 hv
        have hr1 : (T 0).rc ≤ r := nI_le_r (by omega) hr (by rw [← er]; exact hv2)
        have hr2 := rl_up (cs' := cs + 1 + 0 + 0) (ss' := ss + 6 + 0 + 0) hR (by omega) 1 (by omega) (by omega)
        obtain ⟨rn1, rn2⟩ := rl_room hr2
        have W1 := fun sz => k8_text_1 l D dA sz h ad o og x (xs (6 * n + 1)) (xs (6 * n + 2)) (xs (6 * n + 3)) (fun u => u = x) _ _ _ _ (nf_x1 (w := fun _ => x) (fun sz => v_text_xc l (lS_tr hC) D dA sz h ad x la gk AT T _ r (xs (6 * n + 2)) (xs (6 * n + 3)) hk r4 ht hr1 w4 hr) (fun _ _ => rfl) (fun _ _ _ q => by rw [er] at q; exact q))
        have M1 := fun sz => k_text_1 l D dA sz mm mad M (xs (6 * n + 1)) (xs (6 * n + 2)) (xs (6 * n + 3)) (Or.inr (Or.inr (by rw [w3]; exact hv2)))
        exact l9_15_x l hC (k9 := 1) hi hL ⟨by omega, by omega, by omega, by omega⟩ ⟨by omega, by omega⟩ rfl k_n1 W1 M1 hP hD hS hl (fun u H1 locs1 ls1 hf hP hD hS hl => cont u _ _ _ (by rw [show u = x from hf]; exact hr2) og H1 locs1 ls1 hP hD hS hl)
      · obtain ⟨r, hr, er⟩ := i32_lt (a := (T 0).rc) (by omega) hv hv2
        have hr2 := rl_up (cs' := cs + 0 + 0 + 0) (ss' := ss + 0 + 0 + 0) hR (by omega) 0 (by omega) (by omega)
        by_cases hu : xs (6 * n + 2) < 0 ∨ nI (T 0).nc ≤ xs (6 * n + 2)
        · have W1 := fun sz => k8_text l D dA sz h ad o og x (xs (6 * n + 1)) (xs (6 * n + 2)) (xs (6 * n + 3)) (-1) (fun u => u = x) _ _ _ _ (nf_i (fun sz => v_text_nW l D dA sz h ad x la gk AT T _ r (xs (6 * n + 2)) (xs (6 * n + 3)) hk r4 ht hr w4 w2 hu) (fun r u q => ⟨q, rfl⟩) (fun _ _ _ q => by rw [er] at q; exact q))
          have M1 := nm_i (M1 := MS.s_cod M 0) (b := -1) (Pc2 := fun sz => pC D dA [.ref mm, .int (xs (6 * n + 1)), .int (xs (6 * n + 2)), .int (xs (6 * n + 3))] (MW dA mm mad M) sz) (fun sz => k_text_n l D dA sz mm mad M r (xs (6 * n + 2)) (xs (6 * n + 3)) (r8.trans ht) (by omega) (by omega) (by rw [w1]; exact hu)) (fun r u q => ⟨q, rfl⟩) (fun _ _ _ q => by rw [er] at q; exact q)
          exact l9_15 l hC hi hL ⟨by omega, by omega, by omega, by omega⟩ ⟨by omega, by omega⟩ rfl rfl W1 M1 hP hD hS hl (fun u H1 locs1 ls1 hf hP hD hS hl => cont u _ _ _ (by rw [show u = x from hf]; exact hr2) _ H1 locs1 ls1 hP hD hS hl)
        · obtain ⟨k, hkk, ek⟩ := i32_lt (a := (T 0).nc) (by omega) (fun z => hu (Or.inl z)) (fun z => hu (Or.inr z))
          obtain ⟨y1, y2, y3⟩ := w8 r k hr hkk
          have hrs := w9.2.2.1 (by omega)
          by_cases hj : xs (6 * n + 3) < 0 ∨ nI (valS (RS r) (NL k)).length ≤ xs (6 * n + 3)
          · have W1 := fun sz => k8_text l D dA sz h ad o og x (xs (6 * n + 1)) (xs (6 * n + 2)) (xs (6 * n + 3)) (-1) (fun u => u = x) _ _ _ _ (nf_i (fun sz => v_text_0W l D dA sz h ad x la gk AT T _ r NL RS k (xs (6 * n + 3)) hk r4 ht hr w4 w2 w9.1 hrs hkk hj) (fun r u q => ⟨q, rfl⟩) (fun _ _ _ q => by rw [er, ek] at q; exact q))
            have M1 := nm_i (M1 := MS.s_cod M 0) (b := -1) (Pc2 := fun sz => pC D dA [.ref mm, .int (xs (6 * n + 1)), .int (xs (6 * n + 2)), .int (xs (6 * n + 3))] (MW dA mm mad M) sz) (fun sz => k_text_m l D dA sz mm mad M r k (xs (6 * n + 3)) (r8.trans ht) (by omega) (by omega) (by omega) (by omega) (by rw [y1]; exact hj)) (fun r u q => ⟨q, rfl⟩) (fun _ _ _ q => by rw [er, ek] at q; exact q)
            exact l9_15 l hC hi hL ⟨by omega, by omega, by omega, by omega⟩ ⟨by omega, by omega⟩ rfl rfl W1 M1 hP hD hS hl (fun u H1 locs1 ls1 hf hP hD hS hl => cont u _ _ _ (by rw [show u = x from hf]; exact hr2) _ H1 locs1 ls1 hP hD hS hl)
          · obtain ⟨j, hjj, ej⟩ := i32_lt (a := (valS (RS r) (NL k)).length) (by omega) (fun z => hj (Or.inl z)) (fun z => hj (Or.inr z))
            have W1 := fun sz => k8_text l D dA sz h ad o og x (xs (6 * n + 1)) (xs (6 * n + 2)) (xs (6 * n + 3)) ((valS (RS r) (NL k)).getD j 0 &&& 255) (fun u => u = x) _ _ _ _ (nf_i (fun sz => v_text_1W l D dA sz h ad x la gk AT T _ r NL RS k j hk r4 ht hr w4 w2 w9.1 hrs hkk hjj) (fun r u q => ⟨q, rfl⟩) (fun _ _ _ q => by rw [er, ek, ej] at q; exact q))
            have M1 := nm_i (M1 := MS.s_cod M 0) (b := M.rowTexts ((6 * r + k) * 24 + j)) (Pc2 := fun sz => pC D dA [.ref mm, .int (xs (6 * n + 1)), .int (xs (6 * n + 2)), .int (xs (6 * n + 3))] (MW dA mm mad M) sz) (fun sz => k_text_0 l D dA sz mm mad M r k j (r8.trans ht) (by omega) (by omega) (by omega) (by omega) (by omega) (by omega)) (fun r u q => ⟨q, rfl⟩) (fun _ _ _ q => by rw [er, ek, ej] at q; exact q)
            exact l9_15 l hC hi hL ⟨by omega, by omega, by omega, by omega⟩ ⟨by omega, by omega⟩ rfl (by rw [y3 j hjj]) W1 M1 hP hD hS hl (fun u H1 locs1 ls1 hf hP hD hS hl => cont u _ _ _ (by rw [show u = x from hf]; exact hr2) _ H1 locs1 ls1 hP hD hS hl)
theorem call_5 (l : Launch) (hC : lS p l s m meth c b L xs D dA e0 A) (hL : L ≤ 3072) (hi : 6 * n + 6 ≤ L) (hR : Rl dA ad e0 n x M cs ss) (cont : ∀ x' M' cs' ss', Rl dA ad e0 (n + 1) x' M' cs' ss' → At9 p l e s m below meth c b D dA A h ad mm mad o 23 (6 * n + 6) x' M' cs' ss') : At9 p l e s m below meth c b D dA A h ad mm mad o (tg9 5) (6 * n) x M cs ss := by
  intro og H locs ls hP hD hS hl
  obtain ⟨rm1, rm2⟩ := rl_room (rl_skip hR (by omega))
  obtain ⟨PS, SS, dn, bn, gq, rq, la, gk, AT, T, co, ⟨⟨t1, t2, t3, t4⟩, ⟨t5, t6, t7⟩, ⟨t8, t9⟩, t10, t11, t12⟩, ⟨sr1, sr2, sr3, sr4, sr5⟩, nr, ⟨⟨r1, r2, r3, r4⟩, r5, ⟨r6, r7⟩, ⟨r8, r9⟩, r10⟩, rr⟩ := id hR
  obtain ⟨cp, cb, ⟨se1, se2⟩, ⟨g1, g2, g3, g4, g5, g6, g7, g8, g9, g10, g11⟩, cj, ck, cc⟩ := id co
  obtain ⟨⟨n1, n2, n3, n4⟩, ⟨n5, n6, n7⟩, ⟨n8, n9, n10, n11, n12, n13, n14, n15⟩, ⟨n16, n17, n18, n19⟩, ⟨n20, n21, n22, n23⟩, n24⟩ := id nr
  cases hp : x.powered with
  | false =>
    have hr2 := rl_up (cs' := cs + 1 + 0 + 0) (ss' := ss + 6 + 0 + 0) hR (by omega) 1 (by omega) (by omega)
    obtain ⟨rn1, rn2⟩ := rl_room hr2
    have W1 := fun sz => k8_letter_1 l D dA sz h ad o og x (xs (6 * n + 1)) (xs (6 * n + 2)) (fun u => u = x) _ _ _ _ (nf_x0 (fun sz => v_letter_1 l (lS_tr hC) D dA sz h ad x (xs (6 * n + 1)) (xs (6 * n + 2)) hp) rfl (fun _ _ _ q => q))
    have M1 := fun sz => k_letter_1 l D dA sz mm mad M (xs (6 * n + 1)) (xs (6 * n + 2)) (by rw [t12]; exact hp)
    exact l9_5_x l hC (k9 := 1) hi hL ⟨by omega, by omega, by omega, by omega⟩ ⟨by omega, by omega⟩ rfl k_n1 W1 M1 hP hD hS hl (fun u H1 locs1 ls1 hf hP hD hS hl => cont u _ _ _ (by rw [show u = x from hf]; exact hr2) og H1 locs1 ls1 hP hD hS hl)
  | true =>
    by_cases hv : xs (6 * n + 1) < 0 ∨ nI x.nser ≤ xs (6 * n + 1)
    · have hr2 := rl_up (cs' := cs + 1 + 0 + 0) (ss' := ss + 6 + 0 + 0) hR (by omega) 2 (by omega) (by omega)
      obtain ⟨rn1, rn2⟩ := rl_room hr2
      have W1 := fun sz => k8_letter_2 l D dA sz h ad o og x (xs (6 * n + 1)) (xs (6 * n + 2)) (fun u => u = x) _ _ _ _ (nf_x0 (fun sz => v_letter_2 l (lS_tr hC) D dA sz h ad x (xs (6 * n + 1)) (xs (6 * n + 2)) hp hv) rfl (fun _ _ _ q => q))
      have M1 := fun sz => k_letter_2 l D dA sz mm mad M (xs (6 * n + 1)) (xs (6 * n + 2)) (by rw [t12]; exact hp) (by rw [se1]; exact hv)
      exact l9_5_x l hC (k9 := 2) hi hL ⟨by omega, by omega, by omega, by omega⟩ ⟨by omega, by omega⟩ rfl k_n2 W1 M1 hP hD hS hl (fun u H1 locs1 ls1 hf hP hD hS hl => cont u _ _ _ (by rw [show u = x from hf]; exact hr2) og H1 locs1 ls1 hP hD hS hl)
    · obtain ⟨w, hw, ew⟩ := i32_lt (a := x.nser) (by omega) (fun z => hv (Or.inl z)) (fun z => hv (Or.inr z))
      have hr2 := rl_up (cs' := cs + 0 + 0 + 0) (ss' := ss + 0 + 0 + 0) hR (by omega) 0 (by omega) (by omega)
      obtain ⟨x1, x2, x3⟩ := sr1 w (by omega)
      have on : M.on = true := t12.trans hp
      by_cases hu : xs (6 * n + 2) < 0 ∨ nI (joinT (SS w)).length ≤ xs (6 * n + 2)
      · have W1 := fun sz => k8_letter l D dA sz h ad o og x (xs (6 * n + 1)) (xs (6 * n + 2)) (-1) (fun u => u = x) _ _ _ _ (nf_i (fun sz => v_letter_n l D dA sz h ad x SS w (xs (6 * n + 2)) sr3 n1 hp hw hu) (fun r u q => ⟨q, rfl⟩) (fun _ _ _ q => by rw [ew] at q; exact q))
        have M1 := nm_i (M1 := MS.s_cod M 0) (b := -1) (Pc2 := fun sz => pC D dA [.ref mm, .int (xs (6 * n + 1)), .int (xs (6 * n + 2))] (MW dA mm mad M) sz) (fun sz => k_letter_n l D dA sz mm mad M w (xs (6 * n + 2)) on (by omega) (by omega) (by rw [x1]; exact hu)) (fun r u q => ⟨q, rfl⟩) (fun _ _ _ q => by rw [ew] at q; exact q)
        exact l9_5 l hC hi hL ⟨by omega, by omega, by omega, by omega⟩ ⟨by omega, by omega⟩ rfl rfl W1 M1 hP hD hS hl (fun u H1 locs1 ls1 hf hP hD hS hl => cont u _ _ _ (by rw [show u = x from hf]; exact hr2) _ H1 locs1 ls1 hP hD hS hl)
      · obtain ⟨j, hj, ej⟩ := i32_lt (a := (joinT (SS w)).length) (by omega) (fun z => hu (Or.inl z)) (fun z => hu (Or.inr z))
        have ha : (joinT (SS w)).getD j 0 &&& 255 = M.texts (304 * w + j) := by
          rw [x3 j hj]
          exact getD_and (sr5 w (by omega)).2 hj
        have W1 := fun sz => k8_letter l D dA sz h ad o og x (xs (6 * n + 1)) (xs (6 * n + 2)) ((joinT (SS w)).getD j 0 &&& 255) (fun u => u = x) _ _ _ _ (nf_i (fun sz => v_letter_0 l D dA sz h ad x SS w j sr3 n1 hp hw hj) (fun r u q => ⟨q, rfl⟩) (fun _ _ _ q => by rw [ew, ej] at q; exact q))
        have M1 := nm_i (M1 := MS.s_cod M 0) (b := M.texts (304 * w + j)) (Pc2 := fun sz => pC D dA [.ref mm, .int (xs (6 * n + 1)), .int (xs (6 * n + 2))] (MW dA mm mad M) sz) (fun sz => k_letter_0 l D dA sz mm mad M w j on (by omega) (by omega) (by omega) (by omega)) (fun r u q => ⟨q, rfl⟩) (fun _ _ _ q => by rw [ew, ej] at q; exact q)
        exact l9_5 l hC hi hL ⟨by omega, by omega, by omega, by omega⟩ ⟨by omega, by omega⟩ rfl (by rw [ha]) W1 M1 hP hD hS hl (fun u H1 locs1 ls1 hf hP hD hS hl => cont u _ _ _ (by rw [show u = x from hf]; exact hr2) _ H1 locs1 ls1 hP hD hS hl)
end CD
end
