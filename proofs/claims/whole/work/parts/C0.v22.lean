/-! Series: labels, their text. -/
abbrev LB : Type := List Int32 × List Int32
def lab (S : List LB) (i : Nat) : LB := S.getD i ([], [])
def joinP (S : List LB) : Nat → List Int32
  | 0 => []
  | i + 1 => joinP S i ++ ((if i = 0 then [] else [44]) ++ ((lab S i).1 ++ (61 :: (lab S i).2)))
def joinT (S : List LB) : List Int32 := joinP S S.length
theorem jp_len (S : List LB) (i : Nat) : (joinP S (i + 1)).length = (joinP S i).length + ((lab S i).1.length + (lab S i).2.length + (if i = 0 then 1 else 2)) := by
  show (joinP S i ++ ((if i = 0 then [] else [44]) ++ ((lab S i).1 ++ (61 :: (lab S i).2)))).length = _
  rw [List.length_append, List.length_append, List.length_append, List.length_cons]
  split
  · simp; omega
  · simp; omega
theorem jp_mono (S : List LB) {i n : Nat} (h : i ≤ n) : (joinP S i).length ≤ (joinP S n).length := by
  induction n with
  | zero => rw [show i = 0 by omega]; exact Nat.le_refl _
  | succ n ih =>
    by_cases e : i = n + 1
    · rw [e]; exact Nat.le_refl _
    · have := ih (by omega)
      have := jp_len S n
      omega
def serOk (S : List LB) : Prop := S.length ≤ 6 ∧ ∀ i, i < S.length → (lab S i).1.length ≤ 24 ∧ (lab S i).2.length ≤ 24
theorem jp_le {S : List LB} (h : serOk S) : ∀ {i : Nat}, i ≤ S.length → (joinP S i).length ≤ 50 * i
  | 0, _ => Nat.le_refl _
  | i + 1, hi => by
    have h1 := jp_le h (i := i) (by omega)
    have h2 := h.2 i (by omega)
    have h3 := jp_len S i
    have h4 : (if i = 0 then 1 else 2) ≤ 2 := by split <;> omega
    omega
theorem jt_le {S : List LB} (h : serOk S) : (joinT S).length ≤ 300 := by
  have h1 := jp_le h (Nat.le_refl S.length)
  have h2 := h.1
  unfold joinT
  omega
/-- a row begins with these bytes -/
def preF (f : Nat → Int32) (L : List Int32) : Prop := ∀ q, q < L.length → f q = L.getD q 0
theorem getD_l {A B : List Int32} {q : Nat} (h : q < A.length) : (A ++ B).getD q 0 = A.getD q 0 := by
  rw [List.getD_eq_getElem?_getD, List.getD_eq_getElem?_getD, List.getElem?_append_left h]
theorem getD_r {A B : List Int32} {q : Nat} (h : A.length ≤ q) : (A ++ B).getD q 0 = B.getD (q - A.length) 0 := by
  rw [List.getD_eq_getElem?_getD, List.getD_eq_getElem?_getD, List.getElem?_append_right h]
theorem preF_app {f g : Nat → Int32} {A B : List Int32} (h : preF f A) (h1 : ∀ q, q < A.length → g q = f q) (h2 : ∀ j, j < B.length → g (A.length + j) = B.getD j 0) : preF g (A ++ B) := by
  intro q hq
  rw [List.length_append] at hq
  by_cases e : q < A.length
  · rw [getD_l e, h1 q e, h q e]
  · rw [getD_r (by omega), ← h2 (q - A.length) (by omega)]
    congr 1
    omega
theorem preF_up {f : Nat → Int32} {A : List Int32} {v : Int32} {n : Nat} (h : preF f A) (hn : n = A.length) : preF (va_up f n v) (A ++ [v]) := by
  subst hn
  refine preF_app h (fun q hq => va_up_ne _ _ (Nat.ne_of_lt hq)) (fun j hj => ?_)
  have hj : j = 0 := by simp at hj; omega
  subst hj
  exact va_up_self _ _ _
theorem preF_cp {f g : Nat → Int32} {A B : List Int32} {n : Nat} (h : preF f A) (hn : n = A.length) (hg : ∀ q, g q = if n ≤ q ∧ q < n + B.length then B.getD (q - n) 0 else f q) : preF g (A ++ B) := by
  subst hn
  refine preF_app h (fun q hq => ?_) (fun j hj => ?_)
  · rw [hg, if_neg (by omega)]
  · rw [hg, if_pos (by omega)]
    congr 1
    omega
def isSer (dA : Nat → ClassId) (ws : va_W) (a : Nat) (S : List LB) : Prop := ∃ (na va no tx : Nat) (fn fv : Nat → Option Nat), (a, .inr (11, [.ref na, .ref va, .ref no, .ref tx])) ∈ ws ∧ (na, .inl (dA 6, S.length, .inr (.inr (.inr (.inr fn))))) ∈ ws ∧ (va, .inl (dA 6, S.length, .inr (.inr (.inr (.inr fv))))) ∈ ws ∧ isWo dA ws no [] ∧ isWo dA ws tx (joinT S) ∧ ∀ i, i < S.length → ∃ p q : Nat, fn i = some p ∧ isWo dA ws p (lab S i).1 ∧ fv i = some q ∧ isWo dA ws q (lab S i).2
theorem isSer_m {dA : Nat → ClassId} {ws ws' : va_W} {a : Nat} {S : List LB} (hs : ∀ c, c ∈ ws → c ∈ ws') (h : isSer dA ws a S) : isSer dA ws' a S := by
  obtain ⟨na, va, no, tx, fn, fv, h1, h2, h3, h4, h5, h6⟩ := h
  refine ⟨na, va, no, tx, fn, fv, hs _ h1, hs _ h2, hs _ h3, isWo_m hs h4, isWo_m hs h5, fun i hi => ?_⟩
  obtain ⟨p, q, e1, w1, e2, w2⟩ := h6 i hi
  exact ⟨p, q, e1, isWo_m hs w1, e2, isWo_m hs w2⟩
def vsB (S : List LB) (M : List Int32) (i : Nat) : Bool := sameW (lab S i).1 M
def valS (S : List LB) (M : List Int32) : List Int32 := match frst (vsB S M) S.length 0 with
  | none => []
  | some i => (lab S i).2
theorem valS_n {S : List LB} {M : List Int32} (h : frst (vsB S M) S.length 0 = none) : valS S M = [] := by unfold valS; rw [h]
theorem valS_s {S : List LB} {M : List Int32} {i : Nat} (h : frst (vsB S M) S.length 0 = some i) : valS S M = (lab S i).2 := by unfold valS; rw [h]
theorem cpW_at {f g : Nat → Int32} {L : List Int32} {k : Nat} (hf : ∀ i, i < L.length → f i = L.getD i 0) : ∀ q, va_cpy f g 0 k L.length q = if k ≤ q ∧ q < k + L.length then L.getD (q - k) 0 else g q := by
  intro q
  unfold va_cpy
  by_cases e : k ≤ q ∧ q < k + L.length
  · rw [if_pos e, if_pos e, Nat.zero_add]
    exact hf _ (by omega)
  · rw [if_neg e, if_neg e]
theorem d_S_units_0 : decode prog_7_method_4_code 0 = .ok (.iconst 1, 1) := by decide +kernel
theorem d_S_units_1 : decode prog_7_method_4_code 1 = .ok (.aload_n 0, 1) := by decide +kernel
theorem d_S_units_2 : decode prog_7_method_4_code 2 = .ok (.getfield 27, 3) := by decide +kernel
theorem d_S_units_5 : decode prog_7_method_4_code 5 = .ok (.getfield 34, 3) := by decide +kernel
theorem d_S_units_8 : decode prog_7_method_4_code 8 = .ok (.arraylength, 1) := by decide +kernel
theorem d_S_units_9 : decode prog_7_method_4_code 9 = .ok (.bipush 32, 2) := by decide +kernel
theorem d_S_units_11 : decode prog_7_method_4_code 11 = .ok (.iadd, 1) := by decide +kernel
theorem d_S_units_12 : decode prog_7_method_4_code 12 = .ok (.iconst 1, 1) := by decide +kernel
theorem d_S_units_13 : decode prog_7_method_4_code 13 = .ok (.isub, 1) := by decide +kernel
theorem d_S_units_14 : decode prog_7_method_4_code 14 = .ok (.bipush 32, 2) := by decide +kernel
theorem d_S_units_16 : decode prog_7_method_4_code 16 = .ok (.idiv, 1) := by decide +kernel
theorem d_S_units_17 : decode prog_7_method_4_code 17 = .ok (.iadd, 1) := by decide +kernel
theorem d_S_units_18 : decode prog_7_method_4_code 18 = .ok (.ireturn, 1) := by decide +kernel
theorem w1276 : Cond.fieldLink "SeriesVault$Series" 27 "SeriesVault$Series" "text" "LSeriesVault$Word;" ∈ aW := aw_of (tb_5 (List.mem_of_getElem? (i := 7) rfl)) rfl
theorem w1277 : Cond.fieldLinkNest "SeriesVault$Series" 34 "SeriesVault$Word" "bytes" "[B" "SeriesVault" ∈ aW := aw_of (tb_4 (List.mem_of_getElem? (i := 220) rfl)) rfl
set_option maxHeartbeats 4000000 in
set_option maxRecDepth 100000 in
theorem v_Sunits (l : Launch) (D : va_G) (dA : Nat → ClassId) (sz : Nat) (ws : va_W) (a : Nat) (S : List LB) (hsr : isSer dA ws a S) (hso : serOk S) : Met l ⟨"SeriesVault$Series", "units", "()I"⟩ [Cond.code ⟨"SeriesVault$Series", "units", "()I"⟩ prog_7_method_4_code 1 (some FieldType.int)] { frames := 1, cells := 0, slots := 0, locals := 0 } (pC D dA [.ref a] (ws) sz) (va_Qi (fun (r9 : Int32) (u9 : Unit) => r9 = nI (1 + ((joinT S).length + 32 - 1) / 32)) (fun (u9 : Unit) t9 => bW D (va_A (ws) sz) (ws) t9) (va_A (ws) sz)) 0 0 (va_A (ws) sz) := by
  refine mkC (y := ⟨"SeriesVault$Series", "units", "()I"⟩) (cc := prog_7_method_4_code) (maxL := 1) (av := [.ref a]) (ws := ws) (sz := sz) (Qc := fun A => va_Qi (fun (r9 : Int32) (u9 : Unit) => r9 = nI (1 + ((joinT S).length + 32 - 1) / 32)) (fun (u9 : Unit) t9 => bW D A (ws) t9) A) (by decide) (Nat.le_of_ble_eq_true rfl) ?_
  intro A p e s m below meth c ls hsz hB
  obtain ⟨hx, hb, hr, hml, hown, hin, hlk, hE, hK, hP, hD, hS, hA, hN, hl⟩ := hB
  have hown : s.vm.findClass "SeriesVault$Series" = some m.cls := hown
  have hl : lv_has ls 1 [(0, .ref a)] := hl
  obtain ⟨H, hH⟩ : ∃ z, z = s.heap := ⟨_, rfl⟩
  have hP : va_P D vwCl (ws) H := by rw [hH]; exact hP
  have hS : va_S A s.heap H [] := by rw [hH]; exact hS
  rw [← hH]
  obtain ⟨na, va, no, tx, fn, fv, n1, n2, n3, wno, wtx, hel⟩ := hsr
  have so1 := hso.1
  obtain ⟨b_tx, f_tx, m1tx, m2tx, y_tx, hf_tx⟩ := wtx
  have jl := jt_le hso
  refine lv_iconst (v := 1) hx hb d_S_units_0 (by decide) ?_
  refine lv_aload_n hx hb d_S_units_1 rfl (lv_at hl 0 rfl) ?_
  obtain ⟨qp1, ep2⟩ := List.getElem?_of_mem (show ((a, .inr (11, [.ref na, .ref va, .ref no, .ref tx])) : Nat × va_E) ∈ ws from n1)
  refine gF (v := .ref tx) hx hb hown hE hK hP qp1 ep2 rfl layS 3 (by decide) w1276 rfl d_S_units_2 ?_
  obtain ⟨qp3, ep4⟩ := List.getElem?_of_mem (show ((tx, .inr (10, [.ref b_tx])) : Nat × va_E) ∈ ws from m1tx)
  refine gFN (v := .ref b_tx) hx hb hown hE hK hP qp3 ep4 rfl layW 0 (by decide) w1277 rfl d_S_units_5 ?_
  obtain ⟨qp5, ep6⟩ := List.getElem?_of_mem (show ((b_tx, .inl (dA 0, (joinT S).length, .inl f_tx)) : Nat × va_E) ∈ ws from m2tx)
  refine va_alen (v := nI ((joinT S).length)) hx hb hK hP (qp5) 0 ep6 rfl rfl d_S_units_8 ?_
  refine lv_bipush (v := 32) hx hb d_S_units_9 (by decide) ?_
  refine lv_iadd hx hb d_S_units_11 (tpi (y := nI (((joinT S).length) + 32)) (nI_add ((joinT S).length) (32)) ?_)
  refine lv_iconst (v := 1) hx hb d_S_units_12 (by decide) ?_
  refine lv_isub hx hb d_S_units_13 (tpi (y := nI ((((joinT S).length) + 32) - 1)) (pk_sub (a := ((joinT S).length) + 32) (b := 1) (by omega)) ?_)
  refine lv_bipush (v := 32) hx hb d_S_units_14 (by decide) ?_
  refine lv_idiv hx hb d_S_units_16 (by decide) (tpi (y := nI (((((joinT S).length) + 32) - 1) / 32)) (pk_div (a := (((joinT S).length) + 32) - 1) (d := 32) (by omega) (by omega) (by omega)) ?_)
  refine lv_iadd hx hb d_S_units_17 (tpi (y := nI (1 + (((((joinT S).length) + 32) - 1) / 32))) (nI_add (1) (((((joinT S).length) + 32) - 1) / 32)) ?_)
  exact rfI hx hb hr hlk hS () rfl hP hD (Nat.le_of_ble_eq_true rfl) (Nat.le_of_ble_eq_true rfl) d_S_units_18
theorem d_S_valueOf_0 : decode prog_7_method_5_code 0 = .ok (.iconst 0, 1) := by decide +kernel
theorem d_S_valueOf_1 : decode prog_7_method_5_code 1 = .ok (.istore_n 2, 1) := by decide +kernel
theorem d_S_valueOf_2 : decode prog_7_method_5_code 2 = .ok (.iload_n 2, 1) := by decide +kernel
theorem d_S_valueOf_3 : decode prog_7_method_5_code 3 = .ok (.aload_n 0, 1) := by decide +kernel
theorem d_S_valueOf_4 : decode prog_7_method_5_code 4 = .ok (.getfield 9, 3) := by decide +kernel
theorem d_S_valueOf_7 : decode prog_7_method_5_code 7 = .ok (.arraylength, 1) := by decide +kernel
theorem d_S_valueOf_8 : decode prog_7_method_5_code 8 = .ok (.if_icmp .ge 29, 3) := by decide +kernel
theorem d_S_valueOf_37 : decode prog_7_method_5_code 37 = .ok (.aload_n 0, 1) := by decide +kernel
theorem d_S_valueOf_38 : decode prog_7_method_5_code 38 = .ok (.getfield 31, 3) := by decide +kernel
theorem d_S_valueOf_41 : decode prog_7_method_5_code 41 = .ok (.areturn, 1) := by decide +kernel
theorem d_S_valueOf_11 : decode prog_7_method_5_code 11 = .ok (.aload_n 0, 1) := by decide +kernel
theorem d_S_valueOf_12 : decode prog_7_method_5_code 12 = .ok (.getfield 9, 3) := by decide +kernel
theorem d_S_valueOf_15 : decode prog_7_method_5_code 15 = .ok (.iload_n 2, 1) := by decide +kernel
theorem d_S_valueOf_16 : decode prog_7_method_5_code 16 = .ok (.aaload, 1) := by decide +kernel
theorem d_S_valueOf_17 : decode prog_7_method_5_code 17 = .ok (.aload_n 1, 1) := by decide +kernel
theorem d_S_valueOf_18 : decode prog_7_method_5_code 18 = .ok (.invokevirtual 48, 3) := by decide +kernel
theorem d_S_valueOf_21 : decode prog_7_method_5_code 21 = .ok (.ifCond .eq 10, 3) := by decide +kernel
theorem d_S_valueOf_31 : decode prog_7_method_5_code 31 = .ok (.iinc 2 1, 3) := by decide +kernel
theorem d_S_valueOf_34 : decode prog_7_method_5_code 34 = .ok (.goto (-32), 3) := by decide +kernel
theorem d_S_valueOf_24 : decode prog_7_method_5_code 24 = .ok (.aload_n 0, 1) := by decide +kernel
theorem d_S_valueOf_25 : decode prog_7_method_5_code 25 = .ok (.getfield 15, 3) := by decide +kernel
theorem d_S_valueOf_28 : decode prog_7_method_5_code 28 = .ok (.iload_n 2, 1) := by decide +kernel
theorem d_S_valueOf_29 : decode prog_7_method_5_code 29 = .ok (.aaload, 1) := by decide +kernel
theorem d_S_valueOf_30 : decode prog_7_method_5_code 30 = .ok (.areturn, 1) := by decide +kernel
theorem w1278 : Cond.fieldLink "SeriesVault$Series" 9 "SeriesVault$Series" "names" "[LSeriesVault$Word;" ∈ aW := aw_of (tb_5 (List.mem_of_getElem? (i := 4) rfl)) rfl
theorem w1279 : Cond.fieldLink "SeriesVault$Series" 31 "SeriesVault$Series" "nothing" "LSeriesVault$Word;" ∈ aW := aw_of (tb_5 (List.mem_of_getElem? (i := 6) rfl)) rfl
theorem w1280 : Cond.methodLink "SeriesVault$Series" 48 ⟨"SeriesVault$Word", "same", "(LSeriesVault$Word;)Z"⟩ ∈ aW := aw_of (tb_7 (List.mem_of_getElem? (i := 201) rfl)) rfl
theorem w1281 : Cond.initialized "SeriesVault$Word" ∈ aW := aw_of (tb_1 (List.mem_of_getElem? (i := 23) rfl)) rfl
theorem w1282 : Cond.code ⟨"SeriesVault$Word", "same", "(LSeriesVault$Word;)Z"⟩ prog_12_method_4_code 3 (some FieldType.boolean) ∈ aW := aw_of (tb_5 (List.mem_of_getElem? (i := 25) rfl)) rfl
theorem w1283 : Cond.instanceMethod ⟨"SeriesVault$Word", "same", "(LSeriesVault$Word;)Z"⟩ ∈ aW := aw_of (tb_5 (List.mem_of_getElem? (i := 23) rfl)) rfl
theorem w1284 : Cond.selects "SeriesVault$Word" ⟨"SeriesVault$Word", "same", "(LSeriesVault$Word;)Z"⟩ ⟨"SeriesVault$Word", "same", "(LSeriesVault$Word;)Z"⟩ ∈ aW := aw_of (tb_5 (List.mem_of_getElem? (i := 24) rfl)) rfl
theorem w1285 : Cond.fieldLink "SeriesVault$Series" 15 "SeriesVault$Series" "values" "[LSeriesVault$Word;" ∈ aW := aw_of (tb_5 (List.mem_of_getElem? (i := 5) rfl)) rfl
set_option maxHeartbeats 4000000 in
set_option maxRecDepth 100000 in
theorem v_SvalueOf (l : Launch) (D : va_G) (dA : Nat → ClassId) (sz : Nat) (ws : va_W) (a : Nat) (S : List LB) (wb : Nat) (M : List Int32) (hsr : isSer dA ws a S) (hso : serOk S) (hwwb : isWo dA ws wb M) (hlwb : M.length ≤ 65536) : Met l ⟨"SeriesVault$Series", "valueOf", "(LSeriesVault$Word;)LSeriesVault$Word;"⟩ [Cond.code ⟨"SeriesVault$Series", "valueOf", "(LSeriesVault$Word;)LSeriesVault$Word;"⟩ prog_7_method_5_code 3 (some (FieldType.object "SeriesVault$Word"))] { frames := 2, cells := 0, slots := 0, locals := 22 } (pC D dA [.ref a, .ref wb] (ws) sz) (va_Qr (fun (_ : Unit) => True) (fun (u9 : Unit) (r9 : Nat) t9 => (isWo dA ws r9 (valS S M)) ∧ bW D (va_A (ws) sz) (ws) t9) (va_A (ws) sz)) 0 0 (va_A (ws) sz) := by
  refine mkC (y := ⟨"SeriesVault$Series", "valueOf", "(LSeriesVault$Word;)LSeriesVault$Word;"⟩) (cc := prog_7_method_5_code) (maxL := 3) (av := [.ref a, .ref wb]) (ws := ws) (sz := sz) (Qc := fun A => va_Qr (fun (_ : Unit) => True) (fun (u9 : Unit) (r9 : Nat) t9 => (isWo dA ws r9 (valS S M)) ∧ bW D A (ws) t9) A) (by decide) (Nat.le_of_ble_eq_true rfl) ?_
  intro A p e s m below meth c ls hsz hB
  obtain ⟨hx, hb, hr, hml, hown, hin, hlk, hE, hK, hP, hD, hS, hA, hN, hl⟩ := hB
  have hown : s.vm.findClass "SeriesVault$Series" = some m.cls := hown
  have hl : lv_has ls 3 [(0, .ref a), (1, .ref wb)] := hl
  obtain ⟨H, hH⟩ : ∃ z, z = s.heap := ⟨_, rfl⟩
  have hP : va_P D vwCl (ws) H := by rw [hH]; exact hP
  have hS : va_S A s.heap H [] := by rw [hH]; exact hS
  rw [← hH]
  obtain ⟨na, va, no, tx, fn, fv, n1, n2, n3, wno, wtx, hel⟩ := hsr
  have so1 := hso.1
  refine lv_iconst (v := 0) hx hb d_S_valueOf_0 (by decide) ?_
  refine lv_istore_n hx hb d_S_valueOf_1 rfl hl (by decide) rfl (fun ls hl => ?_)
  have hl : lv_has ls 3 [(2, .int 0), (0, .ref a), (1, .ref wb)] := hl
  have L2 : ∀ (k9 : Nat) (i : Nat) (i1 : i ≤ S.length) (i2 : frst (vsB S M) (S.length - i) i = frst (vsB S M) S.length 0) (hk9 : S.length - i = k9), ∀ (H : Heap) (locs : List Loc) (ls : Array Slot) (hP : va_P D vwCl (ws) H) (hD : va_D A (ws)) (hS : va_S A s.heap H locs) (hl : lv_has ls 3 [(2, .int (nI i)), (0, .ref a), (1, .ref wb)]), W p l e ({ frames := 2, cells := 0, slots := 0, locals := 22 } : Room) s m ([.ref a, .ref wb] : List Value).toArray below meth c H locs 0 0 (MQ below (va_Qr (fun (_ : Unit) => True) (fun (u9 : Unit) (r9 : Nat) t9 => (isWo dA ws r9 (valS S M)) ∧ bW D A (ws) t9) A) ([.ref a, .ref wb] : List Value).toArray s 0 0 A) (F0 m 2 ls []) := by
    intro k9
    induction k9 using Nat.strongRecOn with
    | ind k9 ih2 =>
      intro i i1 i2 hk9 H locs ls hP hD hS hl
      refine lv_iload_n hx hb d_S_valueOf_2 rfl (lv_at hl 0 rfl) ?_
      refine lv_aload_n hx hb d_S_valueOf_3 rfl (lv_at hl 1 rfl) ?_
      obtain ⟨qp1, ep2⟩ := List.getElem?_of_mem (show ((a, .inr (11, [.ref na, .ref va, .ref no, .ref tx])) : Nat × va_E) ∈ ws from n1)
      refine gF (v := .ref na) hx hb hown hE hK hP qp1 ep2 rfl layS 0 (by decide) w1278 rfl d_S_valueOf_4 ?_
      obtain ⟨qp3, ep4⟩ := List.getElem?_of_mem (show ((na, .inl (dA 6, S.length, .inr (.inr (.inr (.inr fn))))) : Nat × va_E) ∈ ws from n2)
      refine va_alen (v := nI S.length) hx hb hK hP (qp3) 6 ep4 rfl rfl d_S_valueOf_7 ?_
      refine lv_icmp_ge hx hb d_S_valueOf_8 (tgt := 37) rfl (fun g5 => ?_) (fun g5 => ?_)
      · have g5 := (nI_leI (a := S.length) (b := i) (by omega) (by omega)).mp g5
        refine lv_aload_n hx hb d_S_valueOf_37 rfl (lv_at hl 1 rfl) ?_
        obtain ⟨qp6, ep7⟩ := List.getElem?_of_mem (show ((a, .inr (11, [.ref na, .ref va, .ref no, .ref tx])) : Nat × va_E) ∈ ws from n1)
        refine gF (v := .ref no) hx hb hown hE hK hP qp6 ep7 rfl layS 2 (by decide) w1279 rfl d_S_valueOf_38 ?_
        exact rkR hx hb hr (Or.inl ⟨_, rfl⟩) hlk hS () (by rw [valS_n (by rw [← i2, show S.length - i = 0 by omega]; rfl)]; exact wno) hP hD (Nat.le_of_ble_eq_true rfl) (Nat.le_of_ble_eq_true rfl) d_S_valueOf_41
      · have g5 := mt (nI_leI (a := S.length) (b := i) (by omega) (by omega)).mpr g5
        obtain ⟨p1, q1, e1, w1, e2, w2⟩ := hel i (by omega)
        have so2 := hso.2 i (by omega)
        have w1c := w1
        have w2c := w2
        obtain ⟨b1, f1, k1, k2, y1, hf1⟩ := w1c
        obtain ⟨b2, f2, k3, k4, y2, hf2⟩ := w2c
        refine lv_aload_n hx hb d_S_valueOf_11 rfl (lv_at hl 1 rfl) ?_
        obtain ⟨qp8, ep9⟩ := List.getElem?_of_mem (show ((a, .inr (11, [.ref na, .ref va, .ref no, .ref tx])) : Nat × va_E) ∈ ws from n1)
        refine gF (v := .ref na) hx hb hown hE hK hP qp8 ep9 rfl layS 0 (by decide) w1278 rfl d_S_valueOf_12 ?_
        refine lv_iload_n hx hb d_S_valueOf_15 rfl (lv_at hl 0 rfl) ?_
        obtain ⟨qp10, ep11⟩ := List.getElem?_of_mem (show ((na, .inl (dA 6, S.length, .inr (.inr (.inr (.inr fn))))) : Nat × va_E) ∈ ws from n2)
        refine nqld (f := fn) (n := S.length) hx hb hK hP (qp10) 6 ep11 rfl (i) (by omega) (by omega) e1 d_S_valueOf_16 ?_
        refine lv_aload_n hx hb d_S_valueOf_17 rfl (lv_at hl 2 rfl) ?_
        obtain ⟨qp12, ep13⟩ := List.getElem?_of_mem (show ((p1, .inr (10, [.ref b1])) : Nat × va_E) ∈ ws from k1)
        refine jkI (wr := []) (rnV (As := [.ref wb]) (rest := []) hx hb hml hown hE hK (hN _ _ hS) hP hD (v_Wsame l D dA H.size ws p1 ((lab S i).1) wb M w1 (show (lab S i).1.length ≤ 65536 by omega) hwwb hlwb) (q0 := qp12) ep13 rfl w1282 w1280 w1283 w1284 w1281 rfl rfl ⟨⟨by decide, by decide⟩, rfl⟩ ⟨(Nat.le_of_ble_eq_true rfl), (Nat.le_of_ble_eq_true rfl)⟩ rfl hl.1 rfl (Nat.le_of_ble_eq_true rfl) d_S_valueOf_18 ⟨(Nat.le_of_ble_eq_true rfl), (Nat.le_of_ble_eq_true rfl)⟩) hP hD hS hA (fun r14 u15 H locs hp9 hP hD hS => ?_)
        have hP : va_P D vwCl (ws) H := hP
        have hD : va_D A (ws) := hD
        replace hp9 : bI (sameW ((lab S i).1) M) = r14 := Eq.symm hp9
        subst hp9
        refine lv_if_eq hx hb d_S_valueOf_21 (tgt := 31) rfl (fun g16 => ?_) (fun g16 => ?_)
        · have g16 := bI_0 g16
          refine lv_iinc (k := 0) (v := nI (i + 1)) hx hb d_S_valueOf_31 hl rfl (iincN (i) 1 1 (by decide)) (by decide) rfl (fun ls hl => ?_)
          have hl : lv_has ls 3 [(2, .int (nI (i + 1))), (0, .ref a), (1, .ref wb)] := hl
          refine lv_goto hx hb d_S_valueOf_34 (tgt := 2) rfl ?_
          exact ih2 _ (by omega) (i + 1) (by omega) (by rw [← i2, frst_f (n := S.length - i) (by omega) (show vsB S M i = false from g16), show S.length - i - 1 = S.length - (i + 1) by omega]) rfl H _ ls hP hD hS (lv_sub hl [0, 1, 2] rfl)
        · have g16 := bI_n0 g16
          refine lv_aload_n hx hb d_S_valueOf_24 rfl (lv_at hl 1 rfl) ?_
          obtain ⟨qp17, ep18⟩ := List.getElem?_of_mem (show ((a, .inr (11, [.ref na, .ref va, .ref no, .ref tx])) : Nat × va_E) ∈ ws from n1)
          refine gF (v := .ref va) hx hb hown hE hK hP qp17 ep18 rfl layS 1 (by decide) w1285 rfl d_S_valueOf_25 ?_
          refine lv_iload_n hx hb d_S_valueOf_28 rfl (lv_at hl 0 rfl) ?_
          obtain ⟨qp19, ep20⟩ := List.getElem?_of_mem (show ((va, .inl (dA 6, S.length, .inr (.inr (.inr (.inr fv))))) : Nat × va_E) ∈ ws from n3)
          refine nqld (f := fv) (n := S.length) hx hb hK hP (qp19) 6 ep20 rfl (i) (by omega) (by omega) e2 d_S_valueOf_29 ?_
          exact rkR hx hb hr (Or.inl ⟨_, rfl⟩) hlk hS () (by rw [valS_s (i := i) (by rw [← i2, frst_t (n := S.length - i) (by omega) (show vsB S M i = true from g16)])]; exact w2) hP hD (Nat.le_of_ble_eq_true rfl) (Nat.le_of_ble_eq_true rfl) d_S_valueOf_30
  exact L2 _ 0 (Nat.zero_le _) rfl rfl H _ ls hP hD hS (lv_sub hl [0, 1, 2] rfl)
theorem d_S_copyWord_0 : decode prog_7_method_3_code 0 = .ok (.aload_n 0, 1) := by decide +kernel
theorem d_S_copyWord_1 : decode prog_7_method_3_code 1 = .ok (.getfield 34, 3) := by decide +kernel
theorem d_S_copyWord_4 : decode prog_7_method_3_code 4 = .ok (.iconst 0, 1) := by decide +kernel
theorem d_S_copyWord_5 : decode prog_7_method_3_code 5 = .ok (.aload_n 1, 1) := by decide +kernel
theorem d_S_copyWord_6 : decode prog_7_method_3_code 6 = .ok (.iload_n 2, 1) := by decide +kernel
theorem d_S_copyWord_7 : decode prog_7_method_3_code 7 = .ok (.aload_n 0, 1) := by decide +kernel
theorem d_S_copyWord_8 : decode prog_7_method_3_code 8 = .ok (.getfield 34, 3) := by decide +kernel
theorem d_S_copyWord_11 : decode prog_7_method_3_code 11 = .ok (.arraylength, 1) := by decide +kernel
theorem d_S_copyWord_12 : decode prog_7_method_3_code 12 = .ok (.invokestatic 42, 3) := by decide +kernel
theorem d_S_copyWord_15 : decode prog_7_method_3_code 15 = .ok (.iload_n 2, 1) := by decide +kernel
theorem d_S_copyWord_16 : decode prog_7_method_3_code 16 = .ok (.aload_n 0, 1) := by decide +kernel
theorem d_S_copyWord_17 : decode prog_7_method_3_code 17 = .ok (.getfield 34, 3) := by decide +kernel
theorem d_S_copyWord_20 : decode prog_7_method_3_code 20 = .ok (.arraylength, 1) := by decide +kernel
theorem d_S_copyWord_21 : decode prog_7_method_3_code 21 = .ok (.iadd, 1) := by decide +kernel
theorem d_S_copyWord_22 : decode prog_7_method_3_code 22 = .ok (.ireturn, 1) := by decide +kernel
theorem w1286 : Cond.methodLink "SeriesVault$Series" 42 ⟨"java/lang/System", "arraycopy", "(Ljava/lang/Object;ILjava/lang/Object;II)V"⟩ ∈ aW := aw_of (tb_5 (List.mem_of_getElem? (i := 1) rfl)) rfl
set_option maxHeartbeats 4000000 in
set_option maxRecDepth 100000 in
theorem v_copyWord (l : Launch) (D : va_G) (dA : Nat → ClassId) (sz : Nat) (ws : va_W) (wa : Nat) (L : List Int32) (ra : Nat) (N : Nat) (g : Nat → Int32) (k : Nat) (hwwa : isWo dA ws wa L) (hlwa : L.length ≤ 65536) (h1 : k + L.length ≤ N) (h2 : N ≤ 65536) : Met l ⟨"SeriesVault$Series", "copyWord", "(LSeriesVault$Word;[BI)I"⟩ [Cond.code ⟨"SeriesVault$Series", "copyWord", "(LSeriesVault$Word;[BI)I"⟩ prog_7_method_3_code 3 (some FieldType.int)] { frames := 1, cells := 0, slots := 0, locals := 40 } (pC D dA [.ref wa, .ref ra, .int (nI k)] ([(ra, .inl (dA 0, N, .inl g))] ++ (ws)) sz) (va_Qi (fun (r9 : Int32) (u9 : (Nat → Int32)) => r9 = nI (k + L.length) ∧ (∀ q, u9 q = if k ≤ q ∧ q < k + L.length then L.getD (q - k) 0 else g q) ∧ (byteF g → byteF u9)) (fun (u9 : (Nat → Int32)) t9 => bW D (va_A ([(ra, .inl (dA 0, N, .inl g))] ++ (ws)) sz) ([(ra, .inl (dA 0, N, .inl u9))] ++ (ws)) t9) (va_A ([(ra, .inl (dA 0, N, .inl g))] ++ (ws)) sz)) 0 0 (va_A ([(ra, .inl (dA 0, N, .inl g))] ++ (ws)) sz) := by
  refine mkC (y := ⟨"SeriesVault$Series", "copyWord", "(LSeriesVault$Word;[BI)I"⟩) (cc := prog_7_method_3_code) (maxL := 3) (av := [.ref wa, .ref ra, .int (nI k)]) (ws := [(ra, .inl (dA 0, N, .inl g))] ++ (ws)) (sz := sz) (Qc := fun A => va_Qi (fun (r9 : Int32) (u9 : (Nat → Int32)) => r9 = nI (k + L.length) ∧ (∀ q, u9 q = if k ≤ q ∧ q < k + L.length then L.getD (q - k) 0 else g q) ∧ (byteF g → byteF u9)) (fun (u9 : (Nat → Int32)) t9 => bW D A ([(ra, .inl (dA 0, N, .inl u9))] ++ (ws)) t9) A) (by decide) (Nat.le_of_ble_eq_true rfl) ?_
  intro A p e s m below meth c ls hsz hB
  obtain ⟨hx, hb, hr, hml, hown, hin, hlk, hE, hK, hP, hD, hS, hA, hN, hl⟩ := hB
  have hown : s.vm.findClass "SeriesVault$Series" = some m.cls := hown
  have hl : lv_has ls 3 [(0, .ref wa), (1, .ref ra), (2, .int (nI k))] := hl
  obtain ⟨H, hH⟩ : ∃ z, z = s.heap := ⟨_, rfl⟩
  have hP : va_P D vwCl ([(ra, .inl (dA 0, N, .inl g))] ++ (ws)) H := by rw [hH]; exact hP
  have hS : va_S A s.heap H [] := by rw [hH]; exact hS
  rw [← hH]
  obtain ⟨b_wa, f_wa, m1wa, m2wa, y_wa, hfwa⟩ := hwwa
  refine lv_aload_n hx hb d_S_copyWord_0 rfl (lv_at hl 0 rfl) ?_
  obtain ⟨qp1, ep2⟩ := List.getElem?_of_mem (show ((wa, .inr (10, [.ref b_wa])) : Nat × va_E) ∈ [(ra, .inl (dA 0, N, .inl g))] ++ (ws) from (List.mem_append_right _ m1wa))
  refine gFN (v := .ref b_wa) hx hb hown hE hK hP qp1 ep2 rfl layW 0 (by decide) w1277 rfl d_S_copyWord_1 ?_
  refine lv_iconst (v := 0) hx hb d_S_copyWord_4 (by decide) ?_
  refine lv_aload_n hx hb d_S_copyWord_5 rfl (lv_at hl 1 rfl) ?_
  refine lv_iload_n hx hb d_S_copyWord_6 rfl (lv_at hl 2 rfl) ?_
  refine lv_aload_n hx hb d_S_copyWord_7 rfl (lv_at hl 0 rfl) ?_
  obtain ⟨qp3, ep4⟩ := List.getElem?_of_mem (show ((wa, .inr (10, [.ref b_wa])) : Nat × va_E) ∈ [(ra, .inl (dA 0, N, .inl g))] ++ (ws) from (List.mem_append_right _ m1wa))
  refine gFN (v := .ref b_wa) hx hb hown hE hK hP qp3 ep4 rfl layW 0 (by decide) w1277 rfl d_S_copyWord_8 ?_
  obtain ⟨qp5, ep6⟩ := List.getElem?_of_mem (show ((b_wa, .inl (dA 0, L.length, .inl f_wa)) : Nat × va_E) ∈ [(ra, .inl (dA 0, N, .inl g))] ++ (ws) from (List.mem_append_right _ m2wa))
  refine va_alen (v := nI L.length) hx hb hK hP (qp5) 0 ep6 rfl rfl d_S_copyWord_11 ?_
  obtain ⟨qp7, ep8⟩ := List.getElem?_of_mem (show ((b_wa, .inl (dA 0, L.length, .inl f_wa)) : Nat × va_E) ∈ [(ra, .inl (dA 0, N, .inl g))] ++ (ws) from (List.mem_append_right _ m2wa))
  refine ncpyi (f := f_wa) (g := g) (n0 := L.length) (n1 := N) hx hb (hml.trans hl.1.symm) hown (hE.t w1286 rfl) (hE.t w720 rfl) (hE.t w721 rfl) (hE.t w722 rfl) hK hP hD hS (qp7) (0) 0 ep8 rfl rfl rfl (0) (k) (L.length) (by omega) (by omega) (by omega) (by omega) (by omega) (fun _ _ => byte_fit y_wa _) (Nat.le_of_ble_eq_true rfl) (Nat.le_of_ble_eq_true rfl) d_S_copyWord_12 (fun H locs hP hD hS => ?_)
  have hP : va_P D vwCl ([(ra, .inl (dA 0, N, .inl (va_cpy f_wa g 0 k L.length)))] ++ (ws)) H := hP
  have hD : va_D A ([(ra, .inl (dA 0, N, .inl (va_cpy f_wa g 0 k L.length)))] ++ (ws)) := hD
  refine lv_iload_n hx hb d_S_copyWord_15 rfl (lv_at hl 2 rfl) ?_
  refine lv_aload_n hx hb d_S_copyWord_16 rfl (lv_at hl 0 rfl) ?_
  obtain ⟨qp9, ep10⟩ := List.getElem?_of_mem (show ((wa, .inr (10, [.ref b_wa])) : Nat × va_E) ∈ [(ra, .inl (dA 0, N, .inl (va_cpy f_wa g 0 k L.length)))] ++ (ws) from (List.mem_append_right _ m1wa))
  refine gFN (v := .ref b_wa) hx hb hown hE hK hP qp9 ep10 rfl layW 0 (by decide) w1277 rfl d_S_copyWord_17 ?_
  obtain ⟨qp11, ep12⟩ := List.getElem?_of_mem (show ((b_wa, .inl (dA 0, L.length, .inl f_wa)) : Nat × va_E) ∈ [(ra, .inl (dA 0, N, .inl (va_cpy f_wa g 0 k L.length)))] ++ (ws) from (List.mem_append_right _ m2wa))
  refine va_alen (v := nI L.length) hx hb hK hP (qp11) 0 ep12 rfl rfl d_S_copyWord_20 ?_
  refine lv_iadd hx hb d_S_copyWord_21 (tpi (y := nI (k + L.length)) (nI_add (k) (L.length)) ?_)
  exact rfI hx hb hr hlk hS (va_cpy f_wa g 0 k L.length) ⟨rfl, cpW_at hfwa, fun hg => byteF_cpy y_wa hg⟩ hP hD (Nat.le_of_ble_eq_true rfl) (Nat.le_of_ble_eq_true rfl) d_S_copyWord_22
theorem d_S_joined_0 : decode prog_7_method_2_code 0 = .ok (.iconst 0, 1) := by decide +kernel
theorem d_S_joined_1 : decode prog_7_method_2_code 1 = .ok (.istore_n 2, 1) := by decide +kernel
theorem d_S_joined_2 : decode prog_7_method_2_code 2 = .ok (.iconst 0, 1) := by decide +kernel
theorem d_S_joined_3 : decode prog_7_method_2_code 3 = .ok (.istore_n 3, 1) := by decide +kernel
theorem d_S_joined_4 : decode prog_7_method_2_code 4 = .ok (.iload_n 3, 1) := by decide +kernel
theorem d_S_joined_5 : decode prog_7_method_2_code 5 = .ok (.aload_n 0, 1) := by decide +kernel
theorem d_S_joined_6 : decode prog_7_method_2_code 6 = .ok (.arraylength, 1) := by decide +kernel
theorem d_S_joined_7 : decode prog_7_method_2_code 7 = .ok (.if_icmp .ge 37, 3) := by decide +kernel
theorem d_S_joined_44 : decode prog_7_method_2_code 44 = .ok (.iload_n 2, 1) := by decide +kernel
theorem d_S_joined_45 : decode prog_7_method_2_code 45 = .ok (.newarray .byte, 2) := by decide +kernel
theorem d_S_joined_47 : decode prog_7_method_2_code 47 = .ok (.astore_n 3, 1) := by decide +kernel
theorem d_S_joined_48 : decode prog_7_method_2_code 48 = .ok (.iconst 0, 1) := by decide +kernel
theorem d_S_joined_49 : decode prog_7_method_2_code 49 = .ok (.istore 4, 2) := by decide +kernel
theorem d_S_joined_51 : decode prog_7_method_2_code 51 = .ok (.iconst 0, 1) := by decide +kernel
theorem d_S_joined_52 : decode prog_7_method_2_code 52 = .ok (.istore 5, 2) := by decide +kernel
theorem d_S_joined_54 : decode prog_7_method_2_code 54 = .ok (.iload 5, 2) := by decide +kernel
theorem d_S_joined_56 : decode prog_7_method_2_code 56 = .ok (.aload_n 0, 1) := by decide +kernel
theorem d_S_joined_57 : decode prog_7_method_2_code 57 = .ok (.arraylength, 1) := by decide +kernel
theorem d_S_joined_58 : decode prog_7_method_2_code 58 = .ok (.if_icmp .ge 55, 3) := by decide +kernel
theorem d_S_joined_113 : decode prog_7_method_2_code 113 = .ok (.aload_n 3, 1) := by decide +kernel
theorem d_S_joined_114 : decode prog_7_method_2_code 114 = .ok (.areturn, 1) := by decide +kernel
theorem d_S_joined_61 : decode prog_7_method_2_code 61 = .ok (.iload 5, 2) := by decide +kernel
theorem d_S_joined_63 : decode prog_7_method_2_code 63 = .ok (.ifCond .le 12, 3) := by decide +kernel
theorem d_S_joined_75 : decode prog_7_method_2_code 75 = .ok (.aload_n 0, 1) := by decide +kernel
theorem d_S_joined_76 : decode prog_7_method_2_code 76 = .ok (.iload 5, 2) := by decide +kernel
theorem d_S_joined_78 : decode prog_7_method_2_code 78 = .ok (.aaload, 1) := by decide +kernel
theorem d_S_joined_79 : decode prog_7_method_2_code 79 = .ok (.aload_n 3, 1) := by decide +kernel
theorem d_S_joined_80 : decode prog_7_method_2_code 80 = .ok (.iload 4, 2) := by decide +kernel
theorem d_S_joined_82 : decode prog_7_method_2_code 82 = .ok (.invokestatic 38, 3) := by decide +kernel
theorem d_S_joined_85 : decode prog_7_method_2_code 85 = .ok (.istore 4, 2) := by decide +kernel
theorem d_S_joined_87 : decode prog_7_method_2_code 87 = .ok (.aload_n 3, 1) := by decide +kernel
theorem d_S_joined_88 : decode prog_7_method_2_code 88 = .ok (.iload 4, 2) := by decide +kernel
theorem d_S_joined_90 : decode prog_7_method_2_code 90 = .ok (.bipush 61, 2) := by decide +kernel
theorem d_S_joined_92 : decode prog_7_method_2_code 92 = .ok (.bastore, 1) := by decide +kernel
theorem d_S_joined_93 : decode prog_7_method_2_code 93 = .ok (.aload_n 1, 1) := by decide +kernel
theorem d_S_joined_94 : decode prog_7_method_2_code 94 = .ok (.iload 5, 2) := by decide +kernel
theorem d_S_joined_96 : decode prog_7_method_2_code 96 = .ok (.aaload, 1) := by decide +kernel
theorem d_S_joined_97 : decode prog_7_method_2_code 97 = .ok (.aload_n 3, 1) := by decide +kernel
theorem d_S_joined_98 : decode prog_7_method_2_code 98 = .ok (.iload 4, 2) := by decide +kernel
theorem d_S_joined_100 : decode prog_7_method_2_code 100 = .ok (.iconst 1, 1) := by decide +kernel
theorem d_S_joined_101 : decode prog_7_method_2_code 101 = .ok (.iadd, 1) := by decide +kernel
theorem d_S_joined_102 : decode prog_7_method_2_code 102 = .ok (.invokestatic 38, 3) := by decide +kernel
theorem d_S_joined_105 : decode prog_7_method_2_code 105 = .ok (.istore 4, 2) := by decide +kernel
theorem d_S_joined_107 : decode prog_7_method_2_code 107 = .ok (.iinc 5 1, 3) := by decide +kernel
theorem d_S_joined_110 : decode prog_7_method_2_code 110 = .ok (.goto (-56), 3) := by decide +kernel
theorem d_S_joined_66 : decode prog_7_method_2_code 66 = .ok (.aload_n 3, 1) := by decide +kernel
theorem d_S_joined_67 : decode prog_7_method_2_code 67 = .ok (.iload 4, 2) := by decide +kernel
theorem d_S_joined_69 : decode prog_7_method_2_code 69 = .ok (.bipush 44, 2) := by decide +kernel
theorem d_S_joined_71 : decode prog_7_method_2_code 71 = .ok (.bastore, 1) := by decide +kernel
theorem d_S_joined_72 : decode prog_7_method_2_code 72 = .ok (.iinc 4 1, 3) := by decide +kernel
theorem d_S_joined_10 : decode prog_7_method_2_code 10 = .ok (.iload_n 2, 1) := by decide +kernel
theorem d_S_joined_11 : decode prog_7_method_2_code 11 = .ok (.aload_n 0, 1) := by decide +kernel
theorem d_S_joined_12 : decode prog_7_method_2_code 12 = .ok (.iload_n 3, 1) := by decide +kernel
theorem d_S_joined_13 : decode prog_7_method_2_code 13 = .ok (.aaload, 1) := by decide +kernel
theorem d_S_joined_14 : decode prog_7_method_2_code 14 = .ok (.getfield 34, 3) := by decide +kernel
theorem d_S_joined_17 : decode prog_7_method_2_code 17 = .ok (.arraylength, 1) := by decide +kernel
theorem d_S_joined_18 : decode prog_7_method_2_code 18 = .ok (.aload_n 1, 1) := by decide +kernel
theorem d_S_joined_19 : decode prog_7_method_2_code 19 = .ok (.iload_n 3, 1) := by decide +kernel
theorem d_S_joined_20 : decode prog_7_method_2_code 20 = .ok (.aaload, 1) := by decide +kernel
theorem d_S_joined_21 : decode prog_7_method_2_code 21 = .ok (.getfield 34, 3) := by decide +kernel
theorem d_S_joined_24 : decode prog_7_method_2_code 24 = .ok (.arraylength, 1) := by decide +kernel
theorem d_S_joined_25 : decode prog_7_method_2_code 25 = .ok (.iadd, 1) := by decide +kernel
theorem d_S_joined_26 : decode prog_7_method_2_code 26 = .ok (.iload_n 3, 1) := by decide +kernel
theorem d_S_joined_27 : decode prog_7_method_2_code 27 = .ok (.ifCond .ne 7, 3) := by decide +kernel
theorem d_S_joined_34 : decode prog_7_method_2_code 34 = .ok (.iconst 2, 1) := by decide +kernel
theorem d_S_joined_35 : decode prog_7_method_2_code 35 = .ok (.iadd, 1) := by decide +kernel
theorem d_S_joined_36 : decode prog_7_method_2_code 36 = .ok (.iadd, 1) := by decide +kernel
theorem d_S_joined_37 : decode prog_7_method_2_code 37 = .ok (.istore_n 2, 1) := by decide +kernel
theorem d_S_joined_38 : decode prog_7_method_2_code 38 = .ok (.iinc 3 1, 3) := by decide +kernel
theorem d_S_joined_41 : decode prog_7_method_2_code 41 = .ok (.goto (-37), 3) := by decide +kernel
theorem d_S_joined_30 : decode prog_7_method_2_code 30 = .ok (.iconst 1, 1) := by decide +kernel
theorem d_S_joined_31 : decode prog_7_method_2_code 31 = .ok (.goto 4, 3) := by decide +kernel
theorem w1287 : Cond.methodLink "SeriesVault$Series" 38 ⟨"SeriesVault$Series", "copyWord", "(LSeriesVault$Word;[BI)I"⟩ ∈ aW := aw_of (tb_4 (List.mem_of_getElem? (i := 238) rfl)) rfl
theorem w1288 : Cond.initialized "SeriesVault$Series" ∈ aW := aw_of (tb_1 (List.mem_of_getElem? (i := 31) rfl)) rfl
theorem w1289 : Cond.code ⟨"SeriesVault$Series", "copyWord", "(LSeriesVault$Word;[BI)I"⟩ prog_7_method_3_code 3 (some FieldType.int) ∈ aW := aw_of (tb_5 (List.mem_of_getElem? (i := 0) rfl)) rfl
theorem w1290 : Cond.static ⟨"SeriesVault$Series", "copyWord", "(LSeriesVault$Word;[BI)I"⟩ ∈ aW := aw_of (tb_4 (List.mem_of_getElem? (i := 239) rfl)) rfl
set_option maxHeartbeats 4000000 in
set_option maxRecDepth 100000 in
theorem v_joined (l : Launch) (D : va_G) (dA : Nat → ClassId) (sz : Nat) (ws : va_W) (na : Nat) (va : Nat) (S : List LB) (fn : Nat → Option Nat) (fv : Nat → Option Nat) (n2 : (na, .inl (dA 6, S.length, .inr (.inr (.inr (.inr fn))))) ∈ ws) (n3 : (va, .inl (dA 6, S.length, .inr (.inr (.inr (.inr fv))))) ∈ ws) (hel : ∀ i, i < S.length → ∃ p q : Nat, fn i = some p ∧ isWo dA ws p (lab S i).1 ∧ fv i = some q ∧ isWo dA ws q (lab S i).2) (hso : serOk S) : Met l ⟨"SeriesVault$Series", "joined", "([LSeriesVault$Word;[LSeriesVault$Word;)[B"⟩ [Cond.code ⟨"SeriesVault$Series", "joined", "([LSeriesVault$Word;[LSeriesVault$Word;)[B"⟩ prog_7_method_2_code 6 (some (FieldType.array FieldType.byte))] { frames := 2, cells := 1, slots := (joinT S).length, locals := 62 } (pC D dA [.ref na, .ref va] (ws) sz) (va_Qr (fun (_ : (Nat → Int32)) => True) (fun (u9 : (Nat → Int32)) (r9 : Nat) t9 => (byteF u9 ∧ preF u9 (joinT S)) ∧ bW D (va_A (ws) sz) ([(r9, .inl (dA 0, (joinT S).length, .inl u9))] ++ (ws)) t9) (va_A (ws) sz)) 1 ((joinT S).length) (va_A (ws) sz) := by
  refine mkC (y := ⟨"SeriesVault$Series", "joined", "([LSeriesVault$Word;[LSeriesVault$Word;)[B"⟩) (cc := prog_7_method_2_code) (maxL := 6) (av := [.ref na, .ref va]) (ws := ws) (sz := sz) (Qc := fun A => va_Qr (fun (_ : (Nat → Int32)) => True) (fun (u9 : (Nat → Int32)) (r9 : Nat) t9 => (byteF u9 ∧ preF u9 (joinT S)) ∧ bW D A ([(r9, .inl (dA 0, (joinT S).length, .inl u9))] ++ (ws)) t9) A) (by decide) (Nat.le_of_ble_eq_true rfl) ?_
  intro A p e s m below meth c ls hsz hB
  obtain ⟨hx, hb, hr, hml, hown, hin, hlk, hE, hK, hP, hD, hS, hA, hN, hl⟩ := hB
  have hown : s.vm.findClass "SeriesVault$Series" = some m.cls := hown
  have hl : lv_has ls 6 [(0, .ref na), (1, .ref va)] := hl
  obtain ⟨H, hH⟩ : ∃ z, z = s.heap := ⟨_, rfl⟩
  have hP : va_P D vwCl (ws) H := by rw [hH]; exact hP
  have hS : va_S A s.heap H [] := by rw [hH]; exact hS
  rw [← hH]
  have so1 := hso.1
  have jl := jt_le hso
  refine lv_iconst (v := 0) hx hb d_S_joined_0 (by decide) ?_
  refine lv_istore_n hx hb d_S_joined_1 rfl hl (by decide) rfl (fun ls hl => ?_)
  have hl : lv_has ls 6 [(2, .int 0), (0, .ref na), (1, .ref va)] := hl
  refine lv_iconst (v := 0) hx hb d_S_joined_2 (by decide) ?_
  refine lv_istore_n hx hb d_S_joined_3 rfl hl (by decide) rfl (fun ls hl => ?_)
  have hl : lv_has ls 6 [(3, .int 0), (2, .int 0), (0, .ref na), (1, .ref va)] := hl
  have L4 : ∀ (k9 : Nat) (i : Nat) (n : Nat) (i1 : i ≤ S.length) (i2 : n = (joinP S i).length) (hk9 : S.length - i = k9), ∀ (H : Heap) (locs : List Loc) (ls : Array Slot) (hP : va_P D vwCl (ws) H) (hD : va_D A (ws)) (hS : va_S A s.heap H locs) (hl : lv_has ls 6 [(2, .int (nI n)), (3, .int (nI i)), (0, .ref na), (1, .ref va)]), W p l e ({ frames := 2, cells := 1, slots := (joinT S).length, locals := 62 } : Room) s m ([.ref na, .ref va] : List Value).toArray below meth c H locs 0 0 (MQ below (va_Qr (fun (_ : (Nat → Int32)) => True) (fun (u9 : (Nat → Int32)) (r9 : Nat) t9 => (byteF u9 ∧ preF u9 (joinT S)) ∧ bW D A ([(r9, .inl (dA 0, (joinT S).length, .inl u9))] ++ (ws)) t9) A) ([.ref na, .ref va] : List Value).toArray s 1 ((joinT S).length) A) (F0 m 4 ls []) := by
    intro k9
    induction k9 using Nat.strongRecOn with
    | ind k9 ih4 =>
      intro i n i1 i2 hk9 H locs ls hP hD hS hl
      refine lv_iload_n hx hb d_S_joined_4 rfl (lv_at hl 1 rfl) ?_
      refine lv_aload_n hx hb d_S_joined_5 rfl (lv_at hl 2 rfl) ?_
      obtain ⟨qp1, ep2⟩ := List.getElem?_of_mem (show ((na, .inl (dA 6, S.length, .inr (.inr (.inr (.inr fn))))) : Nat × va_E) ∈ ws from n2)
      refine va_alen (v := nI S.length) hx hb hK hP (qp1) 6 ep2 rfl rfl d_S_joined_6 ?_
      refine lv_icmp_ge hx hb d_S_joined_7 (tgt := 44) rfl (fun g3 => ?_) (fun g3 => ?_)
      · have g3 := (nI_leI (a := S.length) (b := i) (by omega) (by omega)).mp g3
        refine lv_iload_n hx hb d_S_joined_44 rfl (lv_at hl 0 rfl) ?_
        refine tpi (y := nI (joinT S).length) (by rw [i2, show i = S.length by omega]; rfl) ?_
        refine nnA (atype := .byte) (ty := .byte) (N' := (joinT S).length) (a0 := ((joinT S).length, .inl (fun _ => 0))) hx hb hE rfl w496 hK hP hD hS hA 0 rfl (fun _ => rfl) (by omega) (show ((joinT S).length) * 1 ≤ 536870912 by omega) (show 0 + 1 ≤ 1 by omega) (show 0 + ((joinT S).length) ≤ (joinT S).length by omega) d_S_joined_45 (fun rw0 H hP hD hS => ?_)
        have hP : va_P D vwCl ([(rw0, .inl (dA 0, (joinT S).length, .inl (fun _ => 0)))] ++ (ws)) H := hP
        have hD : va_D A ([(rw0, .inl (dA 0, (joinT S).length, .inl (fun _ => 0)))] ++ (ws)) := hD
        refine lv_astore_n hx hb d_S_joined_47 rfl hl (by decide) rfl (fun ls hl => ?_)
        have hl : lv_has ls 6 [(3, .ref rw0), (2, .int (nI n)), (0, .ref na), (1, .ref va)] := hl
        refine lv_iconst (v := 0) hx hb d_S_joined_48 (by decide) ?_
        refine lv_istore hx hb d_S_joined_49 hl (by decide) rfl (fun ls hl => ?_)
        have hl : lv_has ls 6 [(4, .int 0), (3, .ref rw0), (2, .int (nI n)), (0, .ref na), (1, .ref va)] := hl
        refine lv_iconst (v := 0) hx hb d_S_joined_51 (by decide) ?_
        refine lv_istore hx hb d_S_joined_52 hl (by decide) rfl (fun ls hl => ?_)
        have hl : lv_has ls 6 [(5, .int 0), (4, .int 0), (3, .ref rw0), (2, .int (nI n)), (0, .ref na), (1, .ref va)] := hl
        have L54 : ∀ (k9 : Nat) (i : Nat) (f : Nat → Int32) (n : Nat) (i1 : i ≤ S.length) (i2 : n = (joinP S i).length) (yb : byteF f) (pr : preF f (joinP S i)) (hk9 : S.length - i = k9), ∀ (H : Heap) (locs : List Loc) (ls : Array Slot) (hP : va_P D vwCl ([(rw0, .inl (dA 0, (joinT S).length, .inl f))] ++ (ws)) H) (hD : va_D A ([(rw0, .inl (dA 0, (joinT S).length, .inl f))] ++ (ws))) (hS : va_S A s.heap H locs) (hl : lv_has ls 6 [(5, .int (nI i)), (4, .int (nI n)), (0, .ref na), (1, .ref va), (3, .ref rw0)]), W p l e ({ frames := 2, cells := 1, slots := (joinT S).length, locals := 62 } : Room) s m ([.ref na, .ref va] : List Value).toArray below meth c H locs (0 + 1) (0 + ((joinT S).length)) (MQ below (va_Qr (fun (_ : (Nat → Int32)) => True) (fun (u9 : (Nat → Int32)) (r9 : Nat) t9 => (byteF u9 ∧ preF u9 (joinT S)) ∧ bW D A ([(r9, .inl (dA 0, (joinT S).length, .inl u9))] ++ (ws)) t9) A) ([.ref na, .ref va] : List Value).toArray s 1 ((joinT S).length) A) (F0 m 54 ls []) := by
          intro k9
          induction k9 using Nat.strongRecOn with
          | ind k9 ih54 =>
            intro i f n i1 i2 yb pr hk9 H locs ls hP hD hS hl
            refine lv_iload hx hb d_S_joined_54 (lv_at hl 0 rfl) ?_
            refine lv_aload_n hx hb d_S_joined_56 rfl (lv_at hl 2 rfl) ?_
            obtain ⟨qp4, ep5⟩ := List.getElem?_of_mem (show ((na, .inl (dA 6, S.length, .inr (.inr (.inr (.inr fn))))) : Nat × va_E) ∈ [(rw0, .inl (dA 0, (joinT S).length, .inl f))] ++ (ws) from (List.mem_append_right _ n2))
            refine va_alen (v := nI S.length) hx hb hK hP (qp4) 6 ep5 rfl rfl d_S_joined_57 ?_
            refine lv_icmp_ge hx hb d_S_joined_58 (tgt := 113) rfl (fun g6 => ?_) (fun g6 => ?_)
            · have g6 := (nI_leI (a := S.length) (b := i) (by omega) (by omega)).mp g6
              refine lv_aload_n hx hb d_S_joined_113 rfl (lv_at hl 4 rfl) ?_
              exact rkR hx hb hr (Or.inr ⟨_, rfl⟩) hlk hS f ⟨yb, by rw [show i = S.length by omega] at pr; exact pr⟩ hP hD (show 0 + 1 ≤ 1 by omega) (show 0 + ((joinT S).length) ≤ (joinT S).length by omega) d_S_joined_114
            · have g6 := mt (nI_leI (a := S.length) (b := i) (by omega) (by omega)).mpr g6
              obtain ⟨p1, q1, e1, w1, e2, w2⟩ := hel i (by omega)
              have so2 := hso.2 i (by omega)
              have w1c := w1
              have w2c := w2
              obtain ⟨b1, f1, k1, k2, y1, hf1⟩ := w1c
              obtain ⟨b2, f2, k3, k4, y2, hf2⟩ := w2c
              have jq := jp_len S i
              have jm := jp_mono S (show i + 1 ≤ S.length by omega)
              have jt0 : (joinT S).length = (joinP S S.length).length := rfl
              have jq2 : (if i = 0 then 1 else 2) ≤ 2 := by split <;> omega
              have jq1 : 1 ≤ (if i = 0 then 1 else 2) := by split <;> omega
              have jq3 : (if i = 0 then 1 else 2) = if 0 < i then 2 else 1 := by (by_cases z9 : i = 0) <;> simp [z9] <;> omega
              refine lv_iload hx hb d_S_joined_61 (lv_at hl 0 rfl) ?_
              refine lv_if_le hx hb d_S_joined_63 (tgt := 75) rfl (fun g7 => ?_) (fun g7 => ?_)
              · have g7 := (nI_leI (a := i) (b := 0) (by omega) (by decide)).mp g7
                have jr : (if i = 0 then 1 else 2) = 1 := if_pos (by omega)
                have pr1 : preF f (joinP S i) := pr
                have pl1 : n = ((joinP S i)).length := by rw [i2]
                refine lv_aload_n hx hb d_S_joined_75 rfl (lv_at hl 2 rfl) ?_
                refine lv_iload hx hb d_S_joined_76 (lv_at hl 0 rfl) ?_
                obtain ⟨qp8, ep9⟩ := List.getElem?_of_mem (show ((na, .inl (dA 6, S.length, .inr (.inr (.inr (.inr fn))))) : Nat × va_E) ∈ [(rw0, .inl (dA 0, (joinT S).length, .inl f))] ++ (ws) from (List.mem_append_right _ n2))
                refine nqld (f := fn) (n := S.length) hx hb hK hP (qp8) 6 ep9 rfl (i) (by omega) (by omega) e1 d_S_joined_78 ?_
                refine lv_aload_n hx hb d_S_joined_79 rfl (lv_at hl 4 rfl) ?_
                refine lv_iload hx hb d_S_joined_80 (lv_at hl 1 rfl) ?_
                refine jkI (wr := []) (rnS (As := [.ref p1, .ref rw0, .int (nI n)]) (rest := []) hx hb hml hown hE hK (hN _ _ hS) hP hD (v_copyWord l D dA H.size ws p1 ((lab S i).1) rw0 ((joinT S).length) f n (isWo_m (fun _ hm => hm) w1) (show (lab S i).1.length ≤ 65536 by omega) (show n + ((lab S i).1).length ≤ ((joinT S).length) from by omega) (show ((joinT S).length) ≤ 65536 from by omega)) w1289 w1287 w1290 w1288 rfl rfl ⟨⟨by decide, by decide⟩, rfl⟩ ⟨(Nat.le_of_ble_eq_true rfl), (Nat.le_of_ble_eq_true rfl)⟩ rfl hl.1 rfl (Nat.le_of_ble_eq_true rfl) d_S_joined_82 ⟨(show 0 + 1 + 0 ≤ 1 by omega), (show 0 + ((joinT S).length) + 0 ≤ (joinT S).length by omega)⟩) hP hD hS hA (fun r10 u11 H locs hp9 hP hD hS => ?_)
                obtain ⟨g212, h9u⟩ : ∃ z9, z9 = u11 := ⟨_, rfl⟩
                subst h9u
                have hP : va_P D vwCl ([(rw0, .inl (dA 0, (joinT S).length, .inl g212))] ++ (ws)) H := hP
                have hD : va_D A ([(rw0, .inl (dA 0, (joinT S).length, .inl g212))] ++ (ws)) := hD
                obtain ⟨hp9, f_c_13, f_y_14⟩ := hp9
                replace hp9 : nI (n + ((lab S i).1).length) = r10 := Eq.symm hp9
                subst hp9
                have pr2 := preF_cp pr1 pl1 f_c_13
                have pl2 : n + ((lab S i).1).length = ((joinP S i) ++ (lab S i).1).length := by rw [List.length_append, pl1]
                refine lv_istore hx hb d_S_joined_85 hl (by decide) rfl (fun ls hl => ?_)
                have hl : lv_has ls 6 [(4, .int (nI (n + ((lab S i).1).length))), (5, .int (nI i)), (0, .ref na), (1, .ref va), (3, .ref rw0)] := hl
                refine lv_aload_n hx hb d_S_joined_87 rfl (lv_at hl 4 rfl) ?_
                refine lv_iload hx hb d_S_joined_88 (lv_at hl 0 rfl) ?_
                refine lv_bipush (v := 61) hx hb d_S_joined_90 (by decide) ?_
                refine nbst (n := (joinT S).length) hx hb hK hP hD hS (0) 0 rfl rfl (n + ((lab S i).1).length) (by omega) (by omega) 61 (by decide) d_S_joined_92 (fun H locs hP hD hS => ?_)
                have hP : va_P D vwCl ([(rw0, .inl (dA 0, (joinT S).length, .inl (va_up g212 (n + ((lab S i).1).length) 61)))] ++ (ws)) H := hP
                have hD : va_D A ([(rw0, .inl (dA 0, (joinT S).length, .inl (va_up g212 (n + ((lab S i).1).length) 61)))] ++ (ws)) := hD
                have pr3 := preF_up (v := 61) pr2 pl2
                have pl3 : n + ((lab S i).1).length + 1 = (((joinP S i) ++ (lab S i).1) ++ [61]).length := by rw [List.length_append, ← pl2]; rfl
                refine lv_aload_n hx hb d_S_joined_93 rfl (lv_at hl 3 rfl) ?_
                refine lv_iload hx hb d_S_joined_94 (lv_at hl 1 rfl) ?_
                obtain ⟨qp15, ep16⟩ := List.getElem?_of_mem (show ((va, .inl (dA 6, S.length, .inr (.inr (.inr (.inr fv))))) : Nat × va_E) ∈ [(rw0, .inl (dA 0, (joinT S).length, .inl (va_up g212 (n + ((lab S i).1).length) 61)))] ++ (ws) from (List.mem_append_right _ n3))
                refine nqld (f := fv) (n := S.length) hx hb hK hP (qp15) 6 ep16 rfl (i) (by omega) (by omega) e2 d_S_joined_96 ?_
                refine lv_aload_n hx hb d_S_joined_97 rfl (lv_at hl 4 rfl) ?_
                refine lv_iload hx hb d_S_joined_98 (lv_at hl 0 rfl) ?_
                refine lv_iconst (v := 1) hx hb d_S_joined_100 (by decide) ?_
                refine lv_iadd hx hb d_S_joined_101 (tpi (y := nI ((n + ((lab S i).1).length) + 1)) (nI_add (n + ((lab S i).1).length) (1)) ?_)
                refine jkI (wr := []) (rnS (As := [.ref q1, .ref rw0, .int (nI ((n + ((lab S i).1).length) + 1))]) (rest := []) hx hb hml hown hE hK (hN _ _ hS) hP hD (v_copyWord l D dA H.size ws q1 ((lab S i).2) rw0 ((joinT S).length) (va_up g212 (n + ((lab S i).1).length) 61) ((n + ((lab S i).1).length) + 1) (isWo_m (fun _ hm => hm) w2) (show (lab S i).2.length ≤ 65536 by omega) (show ((n + ((lab S i).1).length) + 1) + ((lab S i).2).length ≤ ((joinT S).length) from by omega) (show ((joinT S).length) ≤ 65536 from by omega)) w1289 w1287 w1290 w1288 rfl rfl ⟨⟨by decide, by decide⟩, rfl⟩ ⟨(Nat.le_of_ble_eq_true rfl), (Nat.le_of_ble_eq_true rfl)⟩ rfl hl.1 rfl (Nat.le_of_ble_eq_true rfl) d_S_joined_102 ⟨(show 0 + 1 + 0 + 0 ≤ 1 by omega), (show 0 + ((joinT S).length) + 0 + 0 ≤ (joinT S).length by omega)⟩) hP hD hS hA (fun r17 u18 H locs hp9 hP hD hS => ?_)
                obtain ⟨g219, h9u⟩ : ∃ z9, z9 = u18 := ⟨_, rfl⟩
                subst h9u
                have hP : va_P D vwCl ([(rw0, .inl (dA 0, (joinT S).length, .inl g219))] ++ (ws)) H := hP
                have hD : va_D A ([(rw0, .inl (dA 0, (joinT S).length, .inl g219))] ++ (ws)) := hD
                obtain ⟨hp9, f_c_20, f_y_21⟩ := hp9
                replace hp9 : nI (((n + ((lab S i).1).length) + 1) + ((lab S i).2).length) = r17 := Eq.symm hp9
                subst hp9
                have pr4 := preF_cp pr3 pl3 f_c_20
                refine lv_istore hx hb d_S_joined_105 hl (by decide) rfl (fun ls hl => ?_)
                have hl : lv_has ls 6 [(4, .int (nI (((n + ((lab S i).1).length) + 1) + ((lab S i).2).length))), (5, .int (nI i)), (0, .ref na), (1, .ref va), (3, .ref rw0)] := hl
                refine lv_iinc (k := 1) (v := nI (i + 1)) hx hb d_S_joined_107 hl rfl (iincN (i) 1 1 (by decide)) (by decide) rfl (fun ls hl => ?_)
                have hl : lv_has ls 6 [(5, .int (nI (i + 1))), (4, .int (nI (((n + ((lab S i).1).length) + 1) + ((lab S i).2).length))), (0, .ref na), (1, .ref va), (3, .ref rw0)] := hl
                refine lv_goto hx hb d_S_joined_110 (tgt := 54) rfl ?_
                exact ih54 _ (by omega) (i + 1) g219 (((n + ((lab S i).1).length) + 1) + ((lab S i).2).length) (by omega) (by rw [i2, jp_len, if_pos (by omega)]; omega) (f_y_21 (byteF_up (f_y_14 yb) (by decide))) (by rw [show joinP S (i + 1) = ((joinP S i ++ (lab S i).1) ++ [61]) ++ (lab S i).2 from by show joinP S i ++ _ = _; rw [if_pos (by omega)]; simp [List.append_assoc]]; exact pr4) rfl H _ ls hP hD hS (lv_sub hl [0, 1, 2, 3, 4] rfl)
              · have g7 := mt (nI_leI (a := i) (b := 0) (by omega) (by decide)).mpr g7
                refine lv_aload_n hx hb d_S_joined_66 rfl (lv_at hl 4 rfl) ?_
                refine lv_iload hx hb d_S_joined_67 (lv_at hl 1 rfl) ?_
                refine lv_bipush (v := 44) hx hb d_S_joined_69 (by decide) ?_
                refine nbst (n := (joinT S).length) hx hb hK hP hD hS (0) 0 rfl rfl (n) (by omega) (by omega) 44 (by decide) d_S_joined_71 (fun H locs hP hD hS => ?_)
                have hP : va_P D vwCl ([(rw0, .inl (dA 0, (joinT S).length, .inl (va_up f n 44)))] ++ (ws)) H := hP
                have hD : va_D A ([(rw0, .inl (dA 0, (joinT S).length, .inl (va_up f n 44)))] ++ (ws)) := hD
                refine lv_iinc (k := 1) (v := nI (n + 1)) hx hb d_S_joined_72 hl rfl (iincN (n) 1 1 (by decide)) (by decide) rfl (fun ls hl => ?_)
                have hl : lv_has ls 6 [(4, .int (nI (n + 1))), (5, .int (nI i)), (0, .ref na), (1, .ref va), (3, .ref rw0)] := hl
                have jr : (if i = 0 then 1 else 2) = 2 := if_neg (by omega)
                have pr1 : preF (va_up f n 44) (joinP S i ++ [44]) := preF_up pr i2
                have pl1 : n + 1 = ((joinP S i ++ [44])).length := by rw [i2]; rw [List.length_append]; rfl
                refine lv_aload_n hx hb d_S_joined_75 rfl (lv_at hl 2 rfl) ?_
                refine lv_iload hx hb d_S_joined_76 (lv_at hl 1 rfl) ?_
                obtain ⟨qp22, ep23⟩ := List.getElem?_of_mem (show ((na, .inl (dA 6, S.length, .inr (.inr (.inr (.inr fn))))) : Nat × va_E) ∈ [(rw0, .inl (dA 0, (joinT S).length, .inl (va_up f n 44)))] ++ (ws) from (List.mem_append_right _ n2))
                refine nqld (f := fn) (n := S.length) hx hb hK hP (qp22) 6 ep23 rfl (i) (by omega) (by omega) e1 d_S_joined_78 ?_
                refine lv_aload_n hx hb d_S_joined_79 rfl (lv_at hl 4 rfl) ?_
                refine lv_iload hx hb d_S_joined_80 (lv_at hl 0 rfl) ?_
                refine jkI (wr := []) (rnS (As := [.ref p1, .ref rw0, .int (nI (n + 1))]) (rest := []) hx hb hml hown hE hK (hN _ _ hS) hP hD (v_copyWord l D dA H.size ws p1 ((lab S i).1) rw0 ((joinT S).length) (va_up f n 44) (n + 1) (isWo_m (fun _ hm => hm) w1) (show (lab S i).1.length ≤ 65536 by omega) (show (n + 1) + ((lab S i).1).length ≤ ((joinT S).length) from by omega) (show ((joinT S).length) ≤ 65536 from by omega)) w1289 w1287 w1290 w1288 rfl rfl ⟨⟨by decide, by decide⟩, rfl⟩ ⟨(Nat.le_of_ble_eq_true rfl), (Nat.le_of_ble_eq_true rfl)⟩ rfl hl.1 rfl (Nat.le_of_ble_eq_true rfl) d_S_joined_82 ⟨(show 0 + 1 + 0 ≤ 1 by omega), (show 0 + ((joinT S).length) + 0 ≤ (joinT S).length by omega)⟩) hP hD hS hA (fun r24 u25 H locs hp9 hP hD hS => ?_)
                obtain ⟨g226, h9u⟩ : ∃ z9, z9 = u25 := ⟨_, rfl⟩
                subst h9u
                have hP : va_P D vwCl ([(rw0, .inl (dA 0, (joinT S).length, .inl g226))] ++ (ws)) H := hP
                have hD : va_D A ([(rw0, .inl (dA 0, (joinT S).length, .inl g226))] ++ (ws)) := hD
                obtain ⟨hp9, f_c_27, f_y_28⟩ := hp9
                replace hp9 : nI ((n + 1) + ((lab S i).1).length) = r24 := Eq.symm hp9
                subst hp9
                have pr2 := preF_cp pr1 pl1 f_c_27
                have pl2 : (n + 1) + ((lab S i).1).length = ((joinP S i ++ [44]) ++ (lab S i).1).length := by rw [List.length_append, pl1]
                refine lv_istore hx hb d_S_joined_85 hl (by decide) rfl (fun ls hl => ?_)
                have hl : lv_has ls 6 [(4, .int (nI ((n + 1) + ((lab S i).1).length))), (5, .int (nI i)), (0, .ref na), (1, .ref va), (3, .ref rw0)] := hl
                refine lv_aload_n hx hb d_S_joined_87 rfl (lv_at hl 4 rfl) ?_
                refine lv_iload hx hb d_S_joined_88 (lv_at hl 0 rfl) ?_
                refine lv_bipush (v := 61) hx hb d_S_joined_90 (by decide) ?_
                refine nbst (n := (joinT S).length) hx hb hK hP hD hS (0) 0 rfl rfl ((n + 1) + ((lab S i).1).length) (by omega) (by omega) 61 (by decide) d_S_joined_92 (fun H locs hP hD hS => ?_)
                have hP : va_P D vwCl ([(rw0, .inl (dA 0, (joinT S).length, .inl (va_up g226 ((n + 1) + ((lab S i).1).length) 61)))] ++ (ws)) H := hP
                have hD : va_D A ([(rw0, .inl (dA 0, (joinT S).length, .inl (va_up g226 ((n + 1) + ((lab S i).1).length) 61)))] ++ (ws)) := hD
                have pr3 := preF_up (v := 61) pr2 pl2
                have pl3 : (n + 1) + ((lab S i).1).length + 1 = (((joinP S i ++ [44]) ++ (lab S i).1) ++ [61]).length := by rw [List.length_append, ← pl2]; rfl
                refine lv_aload_n hx hb d_S_joined_93 rfl (lv_at hl 3 rfl) ?_
                refine lv_iload hx hb d_S_joined_94 (lv_at hl 1 rfl) ?_
                obtain ⟨qp29, ep30⟩ := List.getElem?_of_mem (show ((va, .inl (dA 6, S.length, .inr (.inr (.inr (.inr fv))))) : Nat × va_E) ∈ [(rw0, .inl (dA 0, (joinT S).length, .inl (va_up g226 ((n + 1) + ((lab S i).1).length) 61)))] ++ (ws) from (List.mem_append_right _ n3))
                refine nqld (f := fv) (n := S.length) hx hb hK hP (qp29) 6 ep30 rfl (i) (by omega) (by omega) e2 d_S_joined_96 ?_
                refine lv_aload_n hx hb d_S_joined_97 rfl (lv_at hl 4 rfl) ?_
                refine lv_iload hx hb d_S_joined_98 (lv_at hl 0 rfl) ?_
                refine lv_iconst (v := 1) hx hb d_S_joined_100 (by decide) ?_
                refine lv_iadd hx hb d_S_joined_101 (tpi (y := nI (((n + 1) + ((lab S i).1).length) + 1)) (nI_add ((n + 1) + ((lab S i).1).length) (1)) ?_)
                refine jkI (wr := []) (rnS (As := [.ref q1, .ref rw0, .int (nI (((n + 1) + ((lab S i).1).length) + 1))]) (rest := []) hx hb hml hown hE hK (hN _ _ hS) hP hD (v_copyWord l D dA H.size ws q1 ((lab S i).2) rw0 ((joinT S).length) (va_up g226 ((n + 1) + ((lab S i).1).length) 61) (((n + 1) + ((lab S i).1).length) + 1) (isWo_m (fun _ hm => hm) w2) (show (lab S i).2.length ≤ 65536 by omega) (show (((n + 1) + ((lab S i).1).length) + 1) + ((lab S i).2).length ≤ ((joinT S).length) from by omega) (show ((joinT S).length) ≤ 65536 from by omega)) w1289 w1287 w1290 w1288 rfl rfl ⟨⟨by decide, by decide⟩, rfl⟩ ⟨(Nat.le_of_ble_eq_true rfl), (Nat.le_of_ble_eq_true rfl)⟩ rfl hl.1 rfl (Nat.le_of_ble_eq_true rfl) d_S_joined_102 ⟨(show 0 + 1 + 0 + 0 ≤ 1 by omega), (show 0 + ((joinT S).length) + 0 + 0 ≤ (joinT S).length by omega)⟩) hP hD hS hA (fun r31 u32 H locs hp9 hP hD hS => ?_)
                obtain ⟨g233, h9u⟩ : ∃ z9, z9 = u32 := ⟨_, rfl⟩
                subst h9u
                have hP : va_P D vwCl ([(rw0, .inl (dA 0, (joinT S).length, .inl g233))] ++ (ws)) H := hP
                have hD : va_D A ([(rw0, .inl (dA 0, (joinT S).length, .inl g233))] ++ (ws)) := hD
                obtain ⟨hp9, f_c_34, f_y_35⟩ := hp9
                replace hp9 : nI ((((n + 1) + ((lab S i).1).length) + 1) + ((lab S i).2).length) = r31 := Eq.symm hp9
                subst hp9
                have pr4 := preF_cp pr3 pl3 f_c_34
                refine lv_istore hx hb d_S_joined_105 hl (by decide) rfl (fun ls hl => ?_)
                have hl : lv_has ls 6 [(4, .int (nI ((((n + 1) + ((lab S i).1).length) + 1) + ((lab S i).2).length))), (5, .int (nI i)), (0, .ref na), (1, .ref va), (3, .ref rw0)] := hl
                refine lv_iinc (k := 1) (v := nI (i + 1)) hx hb d_S_joined_107 hl rfl (iincN (i) 1 1 (by decide)) (by decide) rfl (fun ls hl => ?_)
                have hl : lv_has ls 6 [(5, .int (nI (i + 1))), (4, .int (nI ((((n + 1) + ((lab S i).1).length) + 1) + ((lab S i).2).length))), (0, .ref na), (1, .ref va), (3, .ref rw0)] := hl
                refine lv_goto hx hb d_S_joined_110 (tgt := 54) rfl ?_
                exact ih54 _ (by omega) (i + 1) g233 ((((n + 1) + ((lab S i).1).length) + 1) + ((lab S i).2).length) (by omega) (by rw [i2, jp_len, if_neg (by omega)]; omega) (f_y_35 (byteF_up (f_y_28 (byteF_up yb (by decide))) (by decide))) (by rw [show joinP S (i + 1) = (((joinP S i ++ [44]) ++ (lab S i).1) ++ [61]) ++ (lab S i).2 from by show joinP S i ++ _ = _; rw [if_neg (by omega)]; simp [List.append_assoc]]; exact pr4) rfl H _ ls hP hD hS (lv_sub hl [0, 1, 2, 3, 4] rfl)
        exact L54 _ 0 (fun _ => 0) 0 (Nat.zero_le _) rfl byteF_0 (fun q hq => absurd hq (Nat.not_lt_zero q)) rfl H _ ls hP hD hS (lv_sub hl [0, 1, 4, 5, 2] rfl)
      · have g3 := mt (nI_leI (a := S.length) (b := i) (by omega) (by omega)).mpr g3
        obtain ⟨p1, q1, e1, w1, e2, w2⟩ := hel i (by omega)
        have so2 := hso.2 i (by omega)
        have w1c := w1
        have w2c := w2
        obtain ⟨b1, f1, k1, k2, y1, hf1⟩ := w1c
        obtain ⟨b2, f2, k3, k4, y2, hf2⟩ := w2c
        have jq := jp_len S i
        have jm := jp_mono S (show i + 1 ≤ S.length by omega)
        refine lv_iload_n hx hb d_S_joined_10 rfl (lv_at hl 0 rfl) ?_
        refine lv_aload_n hx hb d_S_joined_11 rfl (lv_at hl 2 rfl) ?_
        refine lv_iload_n hx hb d_S_joined_12 rfl (lv_at hl 1 rfl) ?_
        obtain ⟨qp36, ep37⟩ := List.getElem?_of_mem (show ((na, .inl (dA 6, S.length, .inr (.inr (.inr (.inr fn))))) : Nat × va_E) ∈ ws from n2)
        refine nqld (f := fn) (n := S.length) hx hb hK hP (qp36) 6 ep37 rfl (i) (by omega) (by omega) e1 d_S_joined_13 ?_
        obtain ⟨qp38, ep39⟩ := List.getElem?_of_mem (show ((p1, .inr (10, [.ref b1])) : Nat × va_E) ∈ ws from k1)
        refine gFN (v := .ref b1) hx hb hown hE hK hP qp38 ep39 rfl layW 0 (by decide) w1277 rfl d_S_joined_14 ?_
        obtain ⟨qp40, ep41⟩ := List.getElem?_of_mem (show ((b1, .inl (dA 0, (lab S i).1.length, .inl f1)) : Nat × va_E) ∈ ws from k2)
        refine va_alen (v := nI ((lab S i).1.length)) hx hb hK hP (qp40) 0 ep41 rfl rfl d_S_joined_17 ?_
        refine lv_aload_n hx hb d_S_joined_18 rfl (lv_at hl 3 rfl) ?_
        refine lv_iload_n hx hb d_S_joined_19 rfl (lv_at hl 1 rfl) ?_
        obtain ⟨qp42, ep43⟩ := List.getElem?_of_mem (show ((va, .inl (dA 6, S.length, .inr (.inr (.inr (.inr fv))))) : Nat × va_E) ∈ ws from n3)
        refine nqld (f := fv) (n := S.length) hx hb hK hP (qp42) 6 ep43 rfl (i) (by omega) (by omega) e2 d_S_joined_20 ?_
        obtain ⟨qp44, ep45⟩ := List.getElem?_of_mem (show ((q1, .inr (10, [.ref b2])) : Nat × va_E) ∈ ws from k3)
        refine gFN (v := .ref b2) hx hb hown hE hK hP qp44 ep45 rfl layW 0 (by decide) w1277 rfl d_S_joined_21 ?_
        obtain ⟨qp46, ep47⟩ := List.getElem?_of_mem (show ((b2, .inl (dA 0, (lab S i).2.length, .inl f2)) : Nat × va_E) ∈ ws from k4)
        refine va_alen (v := nI ((lab S i).2.length)) hx hb hK hP (qp46) 0 ep47 rfl rfl d_S_joined_24 ?_
        refine lv_iadd hx hb d_S_joined_25 (tpi (y := nI (((lab S i).1.length) + ((lab S i).2.length))) (nI_add ((lab S i).1.length) ((lab S i).2.length)) ?_)
        refine lv_iload_n hx hb d_S_joined_26 rfl (lv_at hl 1 rfl) ?_
        refine lv_if_ne hx hb d_S_joined_27 (tgt := 34) rfl (fun g48 => ?_) (fun g48 => ?_)
        · have g48 := mt (nI_eq (a := i) (b := 0) (by omega) (by decide)).mpr g48
          refine lv_iconst (v := 2) hx hb d_S_joined_34 (by decide) ?_
          refine lv_iadd hx hb d_S_joined_35 (tpi (y := nI ((((lab S i).1.length) + ((lab S i).2.length)) + 2)) (nI_add (((lab S i).1.length) + ((lab S i).2.length)) (2)) ?_)
          refine lv_iadd hx hb d_S_joined_36 (tpi (y := nI (n + ((((lab S i).1.length) + ((lab S i).2.length)) + 2))) (nI_add (n) ((((lab S i).1.length) + ((lab S i).2.length)) + 2)) ?_)
          refine lv_istore_n hx hb d_S_joined_37 rfl hl (by decide) rfl (fun ls hl => ?_)
          have hl : lv_has ls 6 [(2, .int (nI (n + ((((lab S i).1.length) + ((lab S i).2.length)) + 2)))), (3, .int (nI i)), (0, .ref na), (1, .ref va)] := hl
          refine lv_iinc (k := 1) (v := nI (i + 1)) hx hb d_S_joined_38 hl rfl (iincN (i) 1 1 (by decide)) (by decide) rfl (fun ls hl => ?_)
          have hl : lv_has ls 6 [(3, .int (nI (i + 1))), (2, .int (nI (n + ((((lab S i).1.length) + ((lab S i).2.length)) + 2)))), (0, .ref na), (1, .ref va)] := hl
          refine lv_goto hx hb d_S_joined_41 (tgt := 4) rfl ?_
          exact ih4 _ (by omega) (i + 1) (n + ((((lab S i).1.length) + ((lab S i).2.length)) + 2)) (by omega) (by rw [i2, jp_len, if_neg (by omega)]) rfl H _ ls hP hD hS (lv_sub hl [1, 0, 2, 3] rfl)
        · have g48 := (nI_eq (a := i) (b := 0) (by omega) (by decide)).mp g48
          refine lv_iconst (v := 1) hx hb d_S_joined_30 (by decide) ?_
          refine lv_goto hx hb d_S_joined_31 (tgt := 35) rfl ?_
          refine lv_iadd hx hb d_S_joined_35 (tpi (y := nI ((((lab S i).1.length) + ((lab S i).2.length)) + 1)) (nI_add (((lab S i).1.length) + ((lab S i).2.length)) (1)) ?_)
          refine lv_iadd hx hb d_S_joined_36 (tpi (y := nI (n + ((((lab S i).1.length) + ((lab S i).2.length)) + 1))) (nI_add (n) ((((lab S i).1.length) + ((lab S i).2.length)) + 1)) ?_)
          refine lv_istore_n hx hb d_S_joined_37 rfl hl (by decide) rfl (fun ls hl => ?_)
          have hl : lv_has ls 6 [(2, .int (nI (n + ((((lab S i).1.length) + ((lab S i).2.length)) + 1)))), (3, .int (nI i)), (0, .ref na), (1, .ref va)] := hl
          refine lv_iinc (k := 1) (v := nI (i + 1)) hx hb d_S_joined_38 hl rfl (iincN (i) 1 1 (by decide)) (by decide) rfl (fun ls hl => ?_)
          have hl : lv_has ls 6 [(3, .int (nI (i + 1))), (2, .int (nI (n + ((((lab S i).1.length) + ((lab S i).2.length)) + 1)))), (0, .ref na), (1, .ref va)] := hl
          refine lv_goto hx hb d_S_joined_41 (tgt := 4) rfl ?_
          exact ih4 _ (by omega) (i + 1) (n + ((((lab S i).1.length) + ((lab S i).2.length)) + 1)) (by omega) (by rw [i2, jp_len, if_pos (by omega)]) rfl H _ ls hP hD hS (lv_sub hl [1, 0, 2, 3] rfl)
  exact L4 _ 0 0 (Nat.zero_le _) rfl rfl H _ ls hP hD hS (lv_sub hl [1, 0, 2, 3] rfl)
