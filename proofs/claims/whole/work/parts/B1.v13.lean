theorem plg {dA : Nat → ClassId} {h : Nat} {ad : Nat → Nat} {x y : VS} {c : Nat × va_E} (fr : va_W) (hm : c ∈ x.pl) : ∃ q : Nat, (fr ++ VWf dA h ad x y)[q]? = some c := List.getElem?_of_mem (List.mem_append_right _ (List.mem_append_right _ (List.mem_append_right _ hm)))
theorem plv {dA : Nat → ClassId} {h : Nat} {ad : Nat → Nat} {x : VS} {c : Nat × va_E} (hm : c ∈ x.pl) : ∃ q : Nat, (VW dA h ad x)[q]? = some c := List.getElem?_of_mem (List.mem_append_right _ (List.mem_append_right _ hm))
section QL
variable {p : Program} {l : Launch} {e : Env} {R : Room} {s : State} {m : MethodId} {args : Array Value} {below : List Frame} {meth : Method} {c : Code} {H : Heap} {locs : List Loc} {cells slots : Nat} {Q : State → Prop}
variable {D : va_G} {dA : Nat → ClassId} {A : Nat → Prop} {cc : ByteArray} {pc : Nat} {ls : Array Slot} {rest st0 : List Value} {ws : va_W} {a : Nat}
theorem nqld (hx : p.tables.exec = Jvm.exec) (hb : c.code = cc) (hK : va_K D vwCl (arT dA) s) (hP : va_P D vwCl ws H) (q0 t0 : Nat) {cA : ClassId} {C : String} {n : Nat} {f : Nat → Option Nat} (ha : ws[q0]? = some (a, .inl (cA, n, .inr (.inr (.inr (.inr f)))))) (ht : (arT dA)[t0]? = some (cA, .object C)) (j : Nat) (hj : j < n) (hn : n < 2 ^ 31) {v : Nat} (hf : f j = some v) (hdg : decode cc pc = .ok (.aaload, 1))
    (kk : W p l e R s m args below meth c H locs cells slots Q (F0 m (pc + 1) ls (.ref v :: rest))) : W p l e R s m args below meth c H locs cells slots Q (F0 m pc ls (.int (nI j) :: .ref a :: rest)) :=
  va_aldq hx hb hK hP q0 t0 ha ht (vp_in_nI hj hn) hdg (by rw [nI_clamp (by omega), hf]; exact kk)
end QL
/-- a parcel: how many points, their series, times, values; chunks, bits, blocks, the newest time -/
abbrev PT : Type := Nat × (Nat → Nat) × (Nat → Int64) × (Nat → Int64) × Nat × Nat × Nat × Int64
abbrev PT.n (P : PT) : Nat := P.1
abbrev PT.o (P : PT) : Nat → Nat := P.2.1
abbrev PT.t (P : PT) : Nat → Int64 := P.2.2.1
abbrev PT.v (P : PT) : Nat → Int64 := P.2.2.2.1
abbrev PT.ch (P : PT) : Nat := P.2.2.2.2.1
abbrev PT.bi (P : PT) : Nat := P.2.2.2.2.2.1
abbrev PT.bl (P : PT) : Nat := P.2.2.2.2.2.2.1
abbrev PT.nw (P : PT) : Int64 := P.2.2.2.2.2.2.2
def isPc (dA : Nat → ClassId) (pl : va_W) (a : Nat) (P : PT) : Prop := ∃ o t v : Nat, (a, .inr (12, [.ref o, .ref t, .ref v, .int (nI P.n), .int (nI P.ch), .int (nI P.bi), .int (nI P.bl), .long P.nw])) ∈ pl ∧ (o, .inl (dA 1, P.n, .inl (fun k => nI (P.o k)))) ∈ pl ∧ (t, .inl (dA 2, P.n, .inr (.inl P.t))) ∈ pl ∧ (v, .inl (dA 2, P.n, .inr (.inl P.v))) ∈ pl
theorem isPc_app {dA : Nat → ClassId} {pl q : va_W} {a : Nat} {P : PT} (h : isPc dA pl a P) : isPc dA (pl ++ q) a P := by
  obtain ⟨o, t, v, h1, h2, h3, h4⟩ := h
  exact ⟨o, t, v, List.mem_append_left _ h1, List.mem_append_left _ h2, List.mem_append_left _ h3, List.mem_append_left _ h4⟩
/-- is point i of a parcel seen -/
def VS.sePc (x : VS) (P : PT) (i : Nat) : Bool := !decide (P.t i < x.nhor) && decide (x.sc1 (P.o i) (P.t i) = none)
/-- no parcel is too large -/
def pcOk (P : PT) : Prop := P.n ≤ 12000 ∧ ∀ i : Nat, i < P.n → P.o i < 256
theorem opI_n {z : Option Nat} (h : opI z = -1) (hz : ∀ k, z = some k → k < 64) : z = none := by
  cases z with
  | none => rfl
  | some k => exact absurd h (nI_nm (by have := hz k rfl; omega))
theorem frst_lt {f : Nat → Bool} : ∀ {n k q : Nat}, frst f n k = some q → q < n + k
  | 0, k, q, h => by cases h
  | n + 1, k, q, h => by
    unfold frst at h
    split at h
    · cases h; omega
    · have := frst_lt h
      omega
theorem d_H_sees_0 : decode prog_9_method_14_code 0 = .ok (.aload_n 1, 1) := by decide +kernel
theorem d_H_sees_1 : decode prog_9_method_14_code 1 = .ok (.getfield 90, 3) := by decide +kernel
theorem d_H_sees_4 : decode prog_9_method_14_code 4 = .ok (.iload_n 2, 1) := by decide +kernel
theorem d_H_sees_5 : decode prog_9_method_14_code 5 = .ok (.laload, 1) := by decide +kernel
theorem d_H_sees_6 : decode prog_9_method_14_code 6 = .ok (.aload_n 0, 1) := by decide +kernel
theorem d_H_sees_7 : decode prog_9_method_14_code 7 = .ok (.getfield 41, 3) := by decide +kernel
theorem d_H_sees_10 : decode prog_9_method_14_code 10 = .ok (.lcmp, 1) := by decide +kernel
theorem d_H_sees_11 : decode prog_9_method_14_code 11 = .ok (.ifCond .lt 27, 3) := by decide +kernel
theorem d_H_sees_38 : decode prog_9_method_14_code 38 = .ok (.iconst 0, 1) := by decide +kernel
theorem d_H_sees_39 : decode prog_9_method_14_code 39 = .ok (.ireturn, 1) := by decide +kernel
theorem d_H_sees_14 : decode prog_9_method_14_code 14 = .ok (.aload_n 0, 1) := by decide +kernel
theorem d_H_sees_15 : decode prog_9_method_14_code 15 = .ok (.aload_n 1, 1) := by decide +kernel
theorem d_H_sees_16 : decode prog_9_method_14_code 16 = .ok (.getfield 87, 3) := by decide +kernel
theorem d_H_sees_19 : decode prog_9_method_14_code 19 = .ok (.iload_n 2, 1) := by decide +kernel
theorem d_H_sees_20 : decode prog_9_method_14_code 20 = .ok (.iaload, 1) := by decide +kernel
theorem d_H_sees_21 : decode prog_9_method_14_code 21 = .ok (.aload_n 1, 1) := by decide +kernel
theorem d_H_sees_22 : decode prog_9_method_14_code 22 = .ok (.getfield 90, 3) := by decide +kernel
theorem d_H_sees_25 : decode prog_9_method_14_code 25 = .ok (.iload_n 2, 1) := by decide +kernel
theorem d_H_sees_26 : decode prog_9_method_14_code 26 = .ok (.laload, 1) := by decide +kernel
theorem d_H_sees_27 : decode prog_9_method_14_code 27 = .ok (.invokevirtual 93, 3) := by decide +kernel
theorem d_H_sees_30 : decode prog_9_method_14_code 30 = .ok (.iconst (-1), 1) := by decide +kernel
theorem d_H_sees_31 : decode prog_9_method_14_code 31 = .ok (.if_icmp .ne 7, 3) := by decide +kernel
theorem d_H_sees_34 : decode prog_9_method_14_code 34 = .ok (.iconst 1, 1) := by decide +kernel
theorem d_H_sees_35 : decode prog_9_method_14_code 35 = .ok (.goto 4, 3) := by decide +kernel
theorem w1170 : Cond.fieldLinkNest "SeriesVault$Shelf" 90 "SeriesVault$Parcel" "times" "[J" "SeriesVault" ∈ aW := aw_of (tb_6 (List.mem_of_getElem? (i := 49) rfl)) rfl
theorem w1171 : Cond.fieldLinkNest "SeriesVault$Shelf" 87 "SeriesVault$Parcel" "owners" "[I" "SeriesVault" ∈ aW := aw_of (tb_6 (List.mem_of_getElem? (i := 46) rfl)) rfl
theorem w1172 : Cond.methodLink "SeriesVault$Shelf" 93 ⟨"SeriesVault$Shelf", "scarOf", "(IJ)I"⟩ ∈ aW := aw_of (tb_5 (List.mem_of_getElem? (i := 193) rfl)) rfl
theorem w1173 : Cond.code ⟨"SeriesVault$Shelf", "scarOf", "(IJ)I"⟩ prog_9_method_11_code 5 (some FieldType.int) ∈ aW := aw_of (tb_5 (List.mem_of_getElem? (i := 196) rfl)) rfl
theorem w1174 : Cond.instanceMethod ⟨"SeriesVault$Shelf", "scarOf", "(IJ)I"⟩ ∈ aW := aw_of (tb_5 (List.mem_of_getElem? (i := 195) rfl)) rfl
theorem w1175 : Cond.selects "SeriesVault$Shelf" ⟨"SeriesVault$Shelf", "scarOf", "(IJ)I"⟩ ⟨"SeriesVault$Shelf", "scarOf", "(IJ)I"⟩ ∈ aW := aw_pr (List.mem_map.mpr ⟨_, pv_2 (List.mem_of_getElem? (i := 8) rfl), rfl⟩) rfl
set_option maxHeartbeats 4000000 in
set_option maxRecDepth 100000 in
theorem v_sees (l : Launch) (D : va_G) (dA : Nat → ClassId) (sz : Nat) (h : Nat) (ad : Nat → Nat) (x : VS) (pp : Nat) (P : PT) (i : Nat) (hpp : isPc dA x.pl pp P) (hpk : pcOk P) (h1 : x.nsc ≤ 64) (h7 : ∀ q : Nat, q < x.nsc → x.nsO q < 2 ^ 31) (hi : i < P.n) : Met l ⟨"SeriesVault$Shelf", "sees", "(LSeriesVault$Parcel;I)Z"⟩ [Cond.code ⟨"SeriesVault$Shelf", "sees", "(LSeriesVault$Parcel;I)Z"⟩ prog_9_method_14_code 3 (some FieldType.boolean)] { frames := 2, cells := 0, slots := 0, locals := 24 } (pC D dA [.ref (ad 3), .ref pp, .int (nI i)] (VW dA h ad x) sz) (va_Qi (fun (r9 : Int32) (u9 : Unit) => r9 = bI (x.sePc P i)) (fun (u9 : Unit) t9 => bW D (va_A (VW dA h ad x) sz) (VW dA h ad x) t9) (va_A (VW dA h ad x) sz)) 0 0 (va_A (VW dA h ad x) sz) := by
  refine mkC (y := ⟨"SeriesVault$Shelf", "sees", "(LSeriesVault$Parcel;I)Z"⟩) (cc := prog_9_method_14_code) (maxL := 3) (av := [.ref (ad 3), .ref pp, .int (nI i)]) (ws := VW dA h ad x) (sz := sz) (Qc := fun A => va_Qi (fun (r9 : Int32) (u9 : Unit) => r9 = bI (x.sePc P i)) (fun (u9 : Unit) t9 => bW D A (VW dA h ad x) t9) A) (by decide) (Nat.le_of_ble_eq_true rfl) ?_
  intro A p e s m below meth c ls hsz hB
  obtain ⟨hx, hb, hr, hml, hown, hin, hlk, hE, hK, hP, hD, hS, hA, hN, hl⟩ := hB
  have hown : s.vm.findClass "SeriesVault$Shelf" = some m.cls := hown
  have hl : lv_has ls 3 [(0, .ref (ad 3)), (1, .ref pp), (2, .int (nI i))] := hl
  obtain ⟨H, hH⟩ : ∃ z, z = s.heap := ⟨_, rfl⟩
  have hP : va_P D vwCl (VW dA h ad x) H := by rw [hH]; exact hP
  have hS : va_S A s.heap H [] := by rw [hH]; exact hS
  rw [← hH]
  obtain ⟨po, pt, pv, m1, m2, m3, m4⟩ := hpp
  have pk1 := hpk.1
  have pk2 := hpk.2
  have pk3 := pk2 i hi
  refine lv_aload_n hx hb d_H_sees_0 rfl (lv_at hl 1 rfl) ?_
  obtain ⟨qp1, ep2⟩ := plv (dA := dA) (h := h) (ad := ad) (x := x) m1
  refine gFN (v := .ref pt) hx hb hown hE hK hP qp1 ep2 rfl layC 1 (by decide) w1170 rfl d_H_sees_1 ?_
  refine lv_iload_n hx hb d_H_sees_4 rfl (lv_at hl 2 rfl) ?_
  obtain ⟨qp3, ep4⟩ := plv (dA := dA) (h := h) (ad := ad) (x := x) m3
  refine nlld (f := P.t) (n := P.n) hx hb hK hP qp3 2 ep4 rfl (i) (by omega) (by omega) d_H_sees_5 ?_
  refine lv_aload_n hx hb d_H_sees_6 rfl (lv_at hl 0 rfl) ?_
  refine gF (v := .long x.nhor) hx hb hown hE hK hP 17 rfl rfl layH 7 (by decide) w568 rfl d_H_sees_7 ?_
  refine W.lcmp hx hb d_H_sees_10 ?_
  refine lv_if_lt hx hb d_H_sees_11 (tgt := 38) rfl (fun g5 => ?_) (fun g5 => ?_)
  · have g5 := (lg_cmp_lt _ _).mp g5
    refine lv_iconst (v := 0) hx hb d_H_sees_38 (by decide) ?_
    exact rfZ hx hb hr (bI_nar false) hlk hS () (by unfold VS.sePc; rw [decide_eq_true g5]; rfl) hP hD (Nat.le_of_ble_eq_true rfl) (Nat.le_of_ble_eq_true rfl) d_H_sees_39
  · have g5 := mt (lg_cmp_lt _ _).mpr g5
    refine lv_aload_n hx hb d_H_sees_14 rfl (lv_at hl 0 rfl) ?_
    refine lv_aload_n hx hb d_H_sees_15 rfl (lv_at hl 1 rfl) ?_
    obtain ⟨qp6, ep7⟩ := plv (dA := dA) (h := h) (ad := ad) (x := x) m1
    refine gFN (v := .ref po) hx hb hown hE hK hP qp6 ep7 rfl layC 0 (by decide) w1171 rfl d_H_sees_16 ?_
    refine lv_iload_n hx hb d_H_sees_19 rfl (lv_at hl 2 rfl) ?_
    obtain ⟨qp8, ep9⟩ := plv (dA := dA) (h := h) (ad := ad) (x := x) m2
    refine nild (f := (fun k => nI (P.o k))) (n := P.n) hx hb hK hP qp8 1 ep9 rfl (i) (by omega) (by omega) d_H_sees_20 ?_
    refine lv_aload_n hx hb d_H_sees_21 rfl (lv_at hl 1 rfl) ?_
    obtain ⟨qp10, ep11⟩ := plv (dA := dA) (h := h) (ad := ad) (x := x) m1
    refine gFN (v := .ref pt) hx hb hown hE hK hP qp10 ep11 rfl layC 1 (by decide) w1170 rfl d_H_sees_22 ?_
    refine lv_iload_n hx hb d_H_sees_25 rfl (lv_at hl 2 rfl) ?_
    obtain ⟨qp12, ep13⟩ := plv (dA := dA) (h := h) (ad := ad) (x := x) m3
    refine nlld (f := P.t) (n := P.n) hx hb hK hP qp12 2 ep13 rfl (i) (by omega) (by omega) d_H_sees_26 ?_
    refine jfI (rnV (As := [.int (nI (P.o i)), .long (P.t i)]) (rest := []) hx hb hml hown hE hK (hN _ _ hS) hP hD (v_scarOf l D dA H.size h ad x (P.o i) (P.t i) (show x.nsc ≤ 64 from by omega) (show (P.o i) < 2 ^ 31 from by omega) h7) (q0 := 17) rfl rfl w1173 w1172 w1174 w1175 w583 rfl rfl ⟨⟨by decide, by decide⟩, rfl⟩ ⟨(Nat.le_of_ble_eq_true rfl), (Nat.le_of_ble_eq_true rfl)⟩ rfl hl.1 rfl (Nat.le_of_ble_eq_true rfl) d_H_sees_27 ⟨(Nat.le_of_ble_eq_true rfl), (Nat.le_of_ble_eq_true rfl)⟩) hP hD hS hA (fun r14 u15 H locs hp9 hP hD hS => ?_)
    have hP : va_P D vwCl (VW dA h ad x) H := hP
    have hD : va_D A (VW dA h ad x) := hD
    replace hp9 : opI (x.sc1 (P.o i) (P.t i)) = r14 := Eq.symm hp9
    subst hp9
    refine lv_iconst (v := (-1)) hx hb d_H_sees_30 (by decide) ?_
    refine lv_icmp_ne hx hb d_H_sees_31 (tgt := 38) rfl (fun g16 => ?_) (fun g16 => ?_)
    · have g16 := g16
      refine lv_iconst (v := 0) hx hb d_H_sees_38 (by decide) ?_
      exact rfZ hx hb hr (bI_nar false) hlk hS () (by unfold VS.sePc; rw [decide_eq_false g5, decide_eq_false (fun z9 => g16 (by rw [z9]; rfl))]; rfl) hP hD (Nat.le_of_ble_eq_true rfl) (Nat.le_of_ble_eq_true rfl) d_H_sees_39
    · have g16 := g16
      refine lv_iconst (v := 1) hx hb d_H_sees_34 (by decide) ?_
      refine lv_goto hx hb d_H_sees_35 (tgt := 39) rfl ?_
      exact rfZ hx hb hr (bI_nar true) hlk hS () (by unfold VS.sePc; rw [decide_eq_false g5, decide_eq_true (opI_n g16 (fun k hk => by have := frst_lt hk; omega))]; rfl) hP hD (Nat.le_of_ble_eq_true rfl) (Nat.le_of_ble_eq_true rfl) d_H_sees_39
