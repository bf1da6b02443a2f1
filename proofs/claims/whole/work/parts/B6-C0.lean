section
theorem cpE_s {o f : Nat → Nat} {i : Nat} (h : ∀ z, f z = cnt i (cpE o z)) : ∀ z, va_up f (o i + 1) (f (o i + 1) + 1) z = cnt (i + 1) (cpE o z) := by
  intro z
  unfold va_up
  by_cases e : z = o i + 1
  · subst e
    rw [if_pos rfl, h, cnt_t (show cpE o (o i + 1) i = true from decide_eq_true rfl)]
  · rw [if_neg e, h, cnt_f (show cpE o z i = false from decide_eq_false (fun q => e q.symm))]
theorem cp_j1 {o f : Nat → Nat} {n : Nat} (h : ∀ z, f z = cnt n (cpE o z)) : ∀ z, z ≤ 0 → f z = cnt n (cpL o z) := by
  intro z hz
  have hz : z = 0 := by omega
  subst hz
  rw [h, cnt_0 (f := cpE o 0) (fun j _ => decide_eq_false (Nat.succ_ne_zero _)), cnt_0 (f := cpL o 0) (fun j _ => decide_eq_false (Nat.not_lt_zero _))]
theorem cp_j2 {o f : Nat → Nat} {n k : Nat} (h1 : ∀ z, z ≤ k → f z = cnt n (cpL o z)) (h2 : ∀ z, k < z → f z = cnt n (cpE o z)) : (∀ z, z ≤ k + 1 → va_up f (k + 1) (f (k + 1) + f k) z = cnt n (cpL o z)) ∧ ∀ z, k + 1 < z → va_up f (k + 1) (f (k + 1) + f k) z = cnt n (cpE o z) := by
  unfold va_up
  refine ⟨fun z hz => ?_, fun z hz => ?_⟩
  · by_cases e : z = k + 1
    · subst e
      rw [if_pos rfl, h2 _ (by omega), h1 k (Nat.le_refl _), cp_s]
      omega
    · rw [if_neg e, h1 z (by omega)]
  · rw [if_neg (by omega), h2 z (by omega)]
theorem upA {α : Type} {P : α → Prop} {f : Nat → α} {k : Nat} {v : α} (h : ∀ q, P (f q)) (hv : P v) : ∀ q, P (va_up f k v q) := by
  intro q
  unfold va_up
  split
  · exact hv
  · exact h q
/-- the parcel of n points that are laid so -/
def mkP (n : Nat) (O : Nat → Nat) (T V : Nat → Int64) : PT := (n, O, T, V, cnt n (chB O), 64 * cnt n (chB O) + (bcG O T V n).1, (64 * cnt n (chB O) + (bcG O T V n).1 + 32256 - 1) / 32256, grG T n)
theorem d_C_chunkPlaces_0 : decode prog_4_method_2_code 0 = .ok (.iload_n 1, 1) := by decide +kernel
theorem d_C_chunkPlaces_1 : decode prog_4_method_2_code 1 = .ok (.iconst 1, 1) := by decide +kernel
theorem d_C_chunkPlaces_2 : decode prog_4_method_2_code 2 = .ok (.iadd, 1) := by decide +kernel
theorem d_C_chunkPlaces_3 : decode prog_4_method_2_code 3 = .ok (.newarray .int, 2) := by decide +kernel
theorem d_C_chunkPlaces_5 : decode prog_4_method_2_code 5 = .ok (.astore_n 2, 1) := by decide +kernel
theorem d_C_chunkPlaces_6 : decode prog_4_method_2_code 6 = .ok (.iconst 0, 1) := by decide +kernel
theorem d_C_chunkPlaces_7 : decode prog_4_method_2_code 7 = .ok (.istore_n 3, 1) := by decide +kernel
theorem d_C_chunkPlaces_8 : decode prog_4_method_2_code 8 = .ok (.iload_n 3, 1) := by decide +kernel
theorem d_C_chunkPlaces_9 : decode prog_4_method_2_code 9 = .ok (.aload_n 0, 1) := by decide +kernel
theorem d_C_chunkPlaces_10 : decode prog_4_method_2_code 10 = .ok (.getfield 9, 3) := by decide +kernel
theorem d_C_chunkPlaces_13 : decode prog_4_method_2_code 13 = .ok (.if_icmp .ge 23, 3) := by decide +kernel
theorem d_C_chunkPlaces_36 : decode prog_4_method_2_code 36 = .ok (.iconst 0, 1) := by decide +kernel
theorem d_C_chunkPlaces_37 : decode prog_4_method_2_code 37 = .ok (.istore_n 3, 1) := by decide +kernel
theorem d_C_chunkPlaces_38 : decode prog_4_method_2_code 38 = .ok (.iload_n 3, 1) := by decide +kernel
theorem d_C_chunkPlaces_39 : decode prog_4_method_2_code 39 = .ok (.iload_n 1, 1) := by decide +kernel
theorem d_C_chunkPlaces_40 : decode prog_4_method_2_code 40 = .ok (.if_icmp .ge 20, 3) := by decide +kernel
theorem d_C_chunkPlaces_60 : decode prog_4_method_2_code 60 = .ok (.aload_n 2, 1) := by decide +kernel
theorem d_C_chunkPlaces_61 : decode prog_4_method_2_code 61 = .ok (.areturn, 1) := by decide +kernel
theorem d_C_chunkPlaces_43 : decode prog_4_method_2_code 43 = .ok (.aload_n 2, 1) := by decide +kernel
theorem d_C_chunkPlaces_44 : decode prog_4_method_2_code 44 = .ok (.iload_n 3, 1) := by decide +kernel
theorem d_C_chunkPlaces_45 : decode prog_4_method_2_code 45 = .ok (.iconst 1, 1) := by decide +kernel
theorem d_C_chunkPlaces_46 : decode prog_4_method_2_code 46 = .ok (.iadd, 1) := by decide +kernel
theorem d_C_chunkPlaces_47 : decode prog_4_method_2_code 47 = .ok (.dup2, 1) := by decide +kernel
theorem d_C_chunkPlaces_48 : decode prog_4_method_2_code 48 = .ok (.iaload, 1) := by decide +kernel
theorem d_C_chunkPlaces_49 : decode prog_4_method_2_code 49 = .ok (.aload_n 2, 1) := by decide +kernel
theorem d_C_chunkPlaces_50 : decode prog_4_method_2_code 50 = .ok (.iload_n 3, 1) := by decide +kernel
theorem d_C_chunkPlaces_51 : decode prog_4_method_2_code 51 = .ok (.iaload, 1) := by decide +kernel
theorem d_C_chunkPlaces_52 : decode prog_4_method_2_code 52 = .ok (.iadd, 1) := by decide +kernel
theorem d_C_chunkPlaces_53 : decode prog_4_method_2_code 53 = .ok (.iastore, 1) := by decide +kernel
theorem d_C_chunkPlaces_54 : decode prog_4_method_2_code 54 = .ok (.iinc 3 1, 3) := by decide +kernel
theorem d_C_chunkPlaces_57 : decode prog_4_method_2_code 57 = .ok (.goto (-19), 3) := by decide +kernel
theorem d_C_chunkPlaces_16 : decode prog_4_method_2_code 16 = .ok (.aload_n 2, 1) := by decide +kernel
theorem d_C_chunkPlaces_17 : decode prog_4_method_2_code 17 = .ok (.aload_n 0, 1) := by decide +kernel
theorem d_C_chunkPlaces_18 : decode prog_4_method_2_code 18 = .ok (.getfield 33, 3) := by decide +kernel
theorem d_C_chunkPlaces_21 : decode prog_4_method_2_code 21 = .ok (.iload_n 3, 1) := by decide +kernel
theorem d_C_chunkPlaces_22 : decode prog_4_method_2_code 22 = .ok (.iaload, 1) := by decide +kernel
theorem d_C_chunkPlaces_23 : decode prog_4_method_2_code 23 = .ok (.iconst 1, 1) := by decide +kernel
theorem d_C_chunkPlaces_24 : decode prog_4_method_2_code 24 = .ok (.iadd, 1) := by decide +kernel
theorem d_C_chunkPlaces_25 : decode prog_4_method_2_code 25 = .ok (.dup2, 1) := by decide +kernel
theorem d_C_chunkPlaces_26 : decode prog_4_method_2_code 26 = .ok (.iaload, 1) := by decide +kernel
theorem d_C_chunkPlaces_27 : decode prog_4_method_2_code 27 = .ok (.iconst 1, 1) := by decide +kernel
theorem d_C_chunkPlaces_28 : decode prog_4_method_2_code 28 = .ok (.iadd, 1) := by decide +kernel
theorem d_C_chunkPlaces_29 : decode prog_4_method_2_code 29 = .ok (.iastore, 1) := by decide +kernel
theorem d_C_chunkPlaces_30 : decode prog_4_method_2_code 30 = .ok (.iinc 3 1, 3) := by decide +kernel
theorem d_C_chunkPlaces_33 : decode prog_4_method_2_code 33 = .ok (.goto (-25), 3) := by decide +kernel
theorem w1224 : Cond.fieldLinkNest "SeriesVault$Parcel" 9 "SeriesVault$Points" "size" "I" "SeriesVault" ∈ aW := aw_of (tb_1 (List.mem_of_getElem? (i := 119) rfl)) rfl
theorem w1225 : Cond.fieldLinkNest "SeriesVault$Parcel" 33 "SeriesVault$Points" "owners" "[I" "SeriesVault" ∈ aW := aw_of (tb_1 (List.mem_of_getElem? (i := 111) rfl)) rfl
set_option maxHeartbeats 4000000 in
set_option maxRecDepth 100000 in
theorem v_chunkPlaces (l : Launch) (D : va_G) (dA : Nat → ClassId) (sz : Nat) (ws : va_W) (pa : Nat) (oa : Nat) (ta : Nat) (va : Nat) (N : Nat) (n : Nat) (o : Nat → Nat) (t : Nat → Int64) (v : Nat → Int64) (w : Nat) (m1 : (pa, .inr (2, [.ref oa, .ref ta, .ref va, .int (nI n)])) ∈ ws) (m2 : (oa, .inl (dA 1, N, .inl (fun z9 => nI (o z9)))) ∈ ws) (m3 : (ta, .inl (dA 2, N, .inr (.inl t))) ∈ ws) (m4 : (va, .inl (dA 2, N, .inr (.inl v))) ∈ ws) (hn : n ≤ 12000) (hN : n ≤ N) (hN2 : N ≤ 65536) (hw : w ≤ 256) (ho : ∀ i : Nat, i < n → o i < w) : Met l ⟨"SeriesVault$Parcel", "chunkPlaces", "(LSeriesVault$Points;I)[I"⟩ [Cond.code ⟨"SeriesVault$Parcel", "chunkPlaces", "(LSeriesVault$Points;I)[I"⟩ prog_4_method_2_code 4 (some (FieldType.array FieldType.int))] { frames := 1, cells := 1, slots := w + 1, locals := 0 } (pC D dA [.ref pa, .int (nI w)] (ws) sz) (va_Qr (fun (_ : (Nat → Nat)) => True) (fun (u9 : (Nat → Nat)) (r9 : Nat) t9 => (∀ z, z ≤ w → u9 z = cnt n (cpL o z)) ∧ bW D (va_A (ws) sz) ([(r9, .inl (dA 1, w + 1, .inl (fun z9 => nI (u9 z9))))] ++ (ws)) t9) (va_A (ws) sz)) 1 (w + 1) (va_A (ws) sz) := by
  refine mkC (y := ⟨"SeriesVault$Parcel", "chunkPlaces", "(LSeriesVault$Points;I)[I"⟩) (cc := prog_4_method_2_code) (maxL := 4) (av := [.ref pa, .int (nI w)]) (ws := ws) (sz := sz) (Qc := fun A => va_Qr (fun (_ : (Nat → Nat)) => True) (fun (u9 : (Nat → Nat)) (r9 : Nat) t9 => (∀ z, z ≤ w → u9 z = cnt n (cpL o z)) ∧ bW D A ([(r9, .inl (dA 1, w + 1, .inl (fun z9 => nI (u9 z9))))] ++ (ws)) t9) A) (by decide) (Nat.le_of_ble_eq_true rfl) ?_
  intro A p e s m below meth c ls hsz hB
  obtain ⟨hx, hb, hr, hml, hown, hin, hlk, hE, hK, hP, hD, hS, hA, hN, hl⟩ := hB
  have hown : s.vm.findClass "SeriesVault$Parcel" = some m.cls := hown
  have hl : lv_has ls 4 [(0, .ref pa), (1, .int (nI w))] := hl
  obtain ⟨H, hH⟩ : ∃ z, z = s.heap := ⟨_, rfl⟩
  have hP : va_P D vwCl (ws) H := by rw [hH]; exact hP
  have hS : va_S A s.heap H [] := by rw [hH]; exact hS
  rw [← hH]
  refine lv_iload_n hx hb d_C_chunkPlaces_0 rfl (lv_at hl 1 rfl) ?_
  refine lv_iconst (v := 1) hx hb d_C_chunkPlaces_1 (by decide) ?_
  refine lv_iadd hx hb d_C_chunkPlaces_2 (tpi (y := nI (w + 1)) (nI_add (w) (1)) ?_)
  refine nnA (atype := .int) (ty := .int) (N' := w + 1) (a0 := (w + 1, .inl (fun z9 => nI ((fun _ => 0) z9)))) hx hb hE rfl w184 hK hP hD hS hA 1 rfl (fun _ => rfl) (by omega) (show (w + 1) * 4 ≤ 536870912 by omega) (show 0 + 1 ≤ 1 by omega) (show 0 + (w + 1) ≤ w + 1 by omega) d_C_chunkPlaces_3 (fun qq H hP hD hS => ?_)
  have hP : va_P D vwCl ([(qq, .inl (dA 1, w + 1, .inl (fun z9 => nI ((fun _ => 0) z9))))] ++ (ws)) H := hP
  have hD : va_D A ([(qq, .inl (dA 1, w + 1, .inl (fun z9 => nI ((fun _ => 0) z9))))] ++ (ws)) := hD
  refine lv_astore_n hx hb d_C_chunkPlaces_5 rfl hl (by decide) rfl (fun ls hl => ?_)
  have hl : lv_has ls 4 [(2, .ref qq), (0, .ref pa), (1, .int (nI w))] := hl
  refine lv_iconst (v := 0) hx hb d_C_chunkPlaces_6 (by decide) ?_
  refine lv_istore_n hx hb d_C_chunkPlaces_7 rfl hl (by decide) rfl (fun ls hl => ?_)
  have hl : lv_has ls 4 [(3, .int 0), (2, .ref qq), (0, .ref pa), (1, .int (nI w))] := hl
  have L8 : ∀ (k9 : Nat) (i : Nat) (f : Nat → Nat) (i1 : i ≤ n) (i2 : ∀ z, f z = cnt i (cpE o z)) (hk9 : n - i = k9), ∀ (H : Heap) (locs : List Loc) (ls : Array Slot) (hP : va_P D vwCl ([(qq, .inl (dA 1, w + 1, .inl (fun z9 => nI (f z9))))] ++ (ws)) H) (hD : va_D A ([(qq, .inl (dA 1, w + 1, .inl (fun z9 => nI (f z9))))] ++ (ws))) (hS : va_S A s.heap H locs) (hl : lv_has ls 4 [(3, .int (nI i)), (0, .ref pa), (1, .int (nI w)), (2, .ref qq)]), W p l e ({ frames := 1, cells := 1, slots := w + 1, locals := 0 } : Room) s m ([.ref pa, .int (nI w)] : List Value).toArray below meth c H locs (0 + 1) (0 + (w + 1)) (MQ below (va_Qr (fun (_ : (Nat → Nat)) => True) (fun (u9 : (Nat → Nat)) (r9 : Nat) t9 => (∀ z, z ≤ w → u9 z = cnt n (cpL o z)) ∧ bW D A ([(r9, .inl (dA 1, w + 1, .inl (fun z9 => nI (u9 z9))))] ++ (ws)) t9) A) ([.ref pa, .int (nI w)] : List Value).toArray s 1 (w + 1) A) (F0 m 8 ls []) := by
    intro k9
    induction k9 using Nat.strongRecOn with
    | ind k9 ih8 =>
      intro i f i1 i2 hk9 H locs ls hP hD hS hl
      refine lv_iload_n hx hb d_C_chunkPlaces_8 rfl (lv_at hl 0 rfl) ?_
      refine lv_aload_n hx hb d_C_chunkPlaces_9 rfl (lv_at hl 1 rfl) ?_
      obtain ⟨qp1, ep2⟩ := List.getElem?_of_mem (show ((pa, .inr (2, [.ref oa, .ref ta, .ref va, .int (nI n)])) : Nat × va_E) ∈ [(qq, .inl (dA 1, w + 1, .inl (fun z9 => nI (f z9))))] ++ (ws) from (List.mem_append_right _ m1))
      refine gFN (v := .int (nI n)) hx hb hown hE hK hP qp1 ep2 rfl layP 3 (by decide) w1224 rfl d_C_chunkPlaces_10 ?_
      refine lv_icmp_ge hx hb d_C_chunkPlaces_13 (tgt := 36) rfl (fun g3 => ?_) (fun g3 => ?_)
      · have g3 := (nI_leI (a := n) (b := i) (by omega) (by omega)).mp g3
        refine lv_iconst (v := 0) hx hb d_C_chunkPlaces_36 (by decide) ?_
        refine lv_istore_n hx hb d_C_chunkPlaces_37 rfl hl (by decide) rfl (fun ls hl => ?_)
        have hl : lv_has ls 4 [(3, .int 0), (0, .ref pa), (1, .int (nI w)), (2, .ref qq)] := hl
        have L38 : ∀ (k9 : Nat) (k : Nat) (f : Nat → Nat) (j0 : k ≤ w) (j1 : ∀ z, z ≤ k → f z = cnt n (cpL o z)) (j2 : ∀ z, k < z → f z = cnt n (cpE o z)) (hk9 : w - k = k9), ∀ (H : Heap) (locs : List Loc) (ls : Array Slot) (hP : va_P D vwCl ([(qq, .inl (dA 1, w + 1, .inl (fun z9 => nI (f z9))))] ++ (ws)) H) (hD : va_D A ([(qq, .inl (dA 1, w + 1, .inl (fun z9 => nI (f z9))))] ++ (ws))) (hS : va_S A s.heap H locs) (hl : lv_has ls 4 [(3, .int (nI k)), (0, .ref pa), (1, .int (nI w)), (2, .ref qq)]), W p l e ({ frames := 1, cells := 1, slots := w + 1, locals := 0 } : Room) s m ([.ref pa, .int (nI w)] : List Value).toArray below meth c H locs (0 + 1) (0 + (w + 1)) (MQ below (va_Qr (fun (_ : (Nat → Nat)) => True) (fun (u9 : (Nat → Nat)) (r9 : Nat) t9 => (∀ z, z ≤ w → u9 z = cnt n (cpL o z)) ∧ bW D A ([(r9, .inl (dA 1, w + 1, .inl (fun z9 => nI (u9 z9))))] ++ (ws)) t9) A) ([.ref pa, .int (nI w)] : List Value).toArray s 1 (w + 1) A) (F0 m 38 ls []) := by
          intro k9
          induction k9 using Nat.strongRecOn with
          | ind k9 ih38 =>
            intro k f j0 j1 j2 hk9 H locs ls hP hD hS hl
            refine lv_iload_n hx hb d_C_chunkPlaces_38 rfl (lv_at hl 0 rfl) ?_
            refine lv_iload_n hx hb d_C_chunkPlaces_39 rfl (lv_at hl 2 rfl) ?_
            refine lv_icmp_ge hx hb d_C_chunkPlaces_40 (tgt := 60) rfl (fun g4 => ?_) (fun g4 => ?_)
            · have g4 := (nI_leI (a := w) (b := k) (by omega) (by omega)).mp g4
              refine lv_aload_n hx hb d_C_chunkPlaces_60 rfl (lv_at hl 3 rfl) ?_
              exact rkR hx hb hr (Or.inr ⟨_, rfl⟩) hlk hS f (fun z hz => j1 z (by omega)) hP hD (show 0 + 1 ≤ 1 by omega) (show 0 + (w + 1) ≤ w + 1 by omega) d_C_chunkPlaces_61
            · have g4 := mt (nI_leI (a := w) (b := k) (by omega) (by omega)).mpr g4
              refine lv_aload_n hx hb d_C_chunkPlaces_43 rfl (lv_at hl 3 rfl) ?_
              refine lv_iload_n hx hb d_C_chunkPlaces_44 rfl (lv_at hl 0 rfl) ?_
              refine lv_iconst (v := 1) hx hb d_C_chunkPlaces_45 (by decide) ?_
              refine lv_iadd hx hb d_C_chunkPlaces_46 (tpi (y := nI (k + 1)) (nI_add (k) (1)) ?_)
              refine lv_dup2_11 hx hb d_C_chunkPlaces_47 rfl rfl ?_
              refine nild (f := (fun z9 => nI (f z9))) (n := w + 1) hx hb hK hP (0) 1 rfl rfl (k + 1) (by omega) (by omega) d_C_chunkPlaces_48 ?_
              refine lv_aload_n hx hb d_C_chunkPlaces_49 rfl (lv_at hl 3 rfl) ?_
              refine lv_iload_n hx hb d_C_chunkPlaces_50 rfl (lv_at hl 0 rfl) ?_
              refine nild (f := (fun z9 => nI (f z9))) (n := w + 1) hx hb hK hP (0) 1 rfl rfl (k) (by omega) (by omega) d_C_chunkPlaces_51 ?_
              refine lv_iadd hx hb d_C_chunkPlaces_52 (tpi (y := nI ((f (k + 1)) + (f k))) (nI_add (f (k + 1)) (f k)) ?_)
              refine nistN (v := (f (k + 1)) + (f k)) (n := w + 1) hx hb hK hP hD hS (0) 1 rfl rfl (k + 1) (by omega) (by omega) d_C_chunkPlaces_53 (fun H locs hP hD hS => ?_)
              have hP : va_P D vwCl ([(qq, .inl (dA 1, w + 1, .inl (fun z9 => nI ((va_up f (k + 1) ((f (k + 1)) + (f k))) z9))))] ++ (ws)) H := hP
              have hD : va_D A ([(qq, .inl (dA 1, w + 1, .inl (fun z9 => nI ((va_up f (k + 1) ((f (k + 1)) + (f k))) z9))))] ++ (ws)) := hD
              refine lv_iinc (k := 0) (v := nI (k + 1)) hx hb d_C_chunkPlaces_54 hl rfl (iincN (k) 1 1 (by decide)) (by decide) rfl (fun ls hl => ?_)
              have hl : lv_has ls 4 [(3, .int (nI (k + 1))), (0, .ref pa), (1, .int (nI w)), (2, .ref qq)] := hl
              refine lv_goto hx hb d_C_chunkPlaces_57 (tgt := 38) rfl ?_
              exact ih38 _ (by omega) (k + 1) (va_up f (k + 1) ((f (k + 1)) + (f k))) (by omega) (cp_j2 j1 j2).1 (cp_j2 j1 j2).2 rfl H _ ls hP hD hS (lv_sub hl [0, 1, 2, 3] rfl)
        exact L38 _ 0 f (Nat.zero_le _) (cp_j1 (by rw [← show i = n by omega]; exact i2)) (fun z _ => by rw [← show i = n by omega]; exact i2 z) rfl H _ ls hP hD hS (lv_sub hl [0, 1, 2, 3] rfl)
      · have g3 := mt (nI_leI (a := n) (b := i) (by omega) (by omega)).mpr g3
        refine lv_aload_n hx hb d_C_chunkPlaces_16 rfl (lv_at hl 3 rfl) ?_
        refine lv_aload_n hx hb d_C_chunkPlaces_17 rfl (lv_at hl 1 rfl) ?_
        obtain ⟨qp5, ep6⟩ := List.getElem?_of_mem (show ((pa, .inr (2, [.ref oa, .ref ta, .ref va, .int (nI n)])) : Nat × va_E) ∈ [(qq, .inl (dA 1, w + 1, .inl (fun z9 => nI (f z9))))] ++ (ws) from (List.mem_append_right _ m1))
        refine gFN (v := .ref oa) hx hb hown hE hK hP qp5 ep6 rfl layP 0 (by decide) w1225 rfl d_C_chunkPlaces_18 ?_
        refine lv_iload_n hx hb d_C_chunkPlaces_21 rfl (lv_at hl 0 rfl) ?_
        have c7 := ho i (by omega)
        obtain ⟨qp7, ep8⟩ := List.getElem?_of_mem (show ((oa, .inl (dA 1, N, .inl (fun z9 => nI (o z9)))) : Nat × va_E) ∈ [(qq, .inl (dA 1, w + 1, .inl (fun z9 => nI (f z9))))] ++ (ws) from (List.mem_append_right _ m2))
        refine nild (f := (fun z9 => nI (o z9))) (n := N) hx hb hK hP (qp7) 1 ep8 rfl (i) (by omega) (by omega) d_C_chunkPlaces_22 ?_
        refine lv_iconst (v := 1) hx hb d_C_chunkPlaces_23 (by decide) ?_
        refine lv_iadd hx hb d_C_chunkPlaces_24 (tpi (y := nI (o i + 1)) (nI_add (o i) (1)) ?_)
        refine lv_dup2_11 hx hb d_C_chunkPlaces_25 rfl rfl ?_
        refine nild (f := (fun z9 => nI (f z9))) (n := w + 1) hx hb hK hP (0) 1 rfl rfl (o i + 1) (by omega) (by omega) d_C_chunkPlaces_26 ?_
        refine lv_iconst (v := 1) hx hb d_C_chunkPlaces_27 (by decide) ?_
        refine lv_iadd hx hb d_C_chunkPlaces_28 (tpi (y := nI ((f (o i + 1)) + 1)) (nI_add (f (o i + 1)) (1)) ?_)
        refine nistN (v := (f (o i + 1)) + 1) (n := w + 1) hx hb hK hP hD hS (0) 1 rfl rfl (o i + 1) (by omega) (by omega) d_C_chunkPlaces_29 (fun H locs hP hD hS => ?_)
        have hP : va_P D vwCl ([(qq, .inl (dA 1, w + 1, .inl (fun z9 => nI ((va_up f (o i + 1) ((f (o i + 1)) + 1)) z9))))] ++ (ws)) H := hP
        have hD : va_D A ([(qq, .inl (dA 1, w + 1, .inl (fun z9 => nI ((va_up f (o i + 1) ((f (o i + 1)) + 1)) z9))))] ++ (ws)) := hD
        refine lv_iinc (k := 0) (v := nI (i + 1)) hx hb d_C_chunkPlaces_30 hl rfl (iincN (i) 1 1 (by decide)) (by decide) rfl (fun ls hl => ?_)
        have hl : lv_has ls 4 [(3, .int (nI (i + 1))), (0, .ref pa), (1, .int (nI w)), (2, .ref qq)] := hl
        refine lv_goto hx hb d_C_chunkPlaces_33 (tgt := 8) rfl ?_
        exact ih8 _ (by omega) (i + 1) (va_up f (o i + 1) ((f (o i + 1)) + 1)) (by omega) (cpE_s i2) rfl H _ ls hP hD hS (lv_sub hl [0, 1, 2, 3] rfl)
  exact L8 _ 0 (fun _ => 0) (Nat.zero_le _) (fun _ => rfl) rfl H _ ls hP hD hS (lv_sub hl [0, 2, 3, 1] rfl)
theorem d_C_init_0 : decode prog_4_method_1_code 0 = .ok (.aload_n 0, 1) := by decide +kernel
theorem d_C_init_1 : decode prog_4_method_1_code 1 = .ok (.invokespecial 3, 3) := by decide +kernel
theorem d_C_init_4 : decode prog_4_method_1_code 4 = .ok (.aload_n 0, 1) := by decide +kernel
theorem d_C_init_5 : decode prog_4_method_1_code 5 = .ok (.aload_n 1, 1) := by decide +kernel
theorem d_C_init_6 : decode prog_4_method_1_code 6 = .ok (.getfield 9, 3) := by decide +kernel
theorem d_C_init_9 : decode prog_4_method_1_code 9 = .ok (.putfield 15, 3) := by decide +kernel
theorem d_C_init_12 : decode prog_4_method_1_code 12 = .ok (.aload_n 0, 1) := by decide +kernel
theorem d_C_init_13 : decode prog_4_method_1_code 13 = .ok (.aload_n 0, 1) := by decide +kernel
theorem d_C_init_14 : decode prog_4_method_1_code 14 = .ok (.getfield 15, 3) := by decide +kernel
theorem d_C_init_17 : decode prog_4_method_1_code 17 = .ok (.newarray .int, 2) := by decide +kernel
theorem d_C_init_19 : decode prog_4_method_1_code 19 = .ok (.putfield 18, 3) := by decide +kernel
theorem d_C_init_22 : decode prog_4_method_1_code 22 = .ok (.aload_n 0, 1) := by decide +kernel
theorem d_C_init_23 : decode prog_4_method_1_code 23 = .ok (.aload_n 0, 1) := by decide +kernel
theorem d_C_init_24 : decode prog_4_method_1_code 24 = .ok (.getfield 15, 3) := by decide +kernel
theorem d_C_init_27 : decode prog_4_method_1_code 27 = .ok (.newarray .long, 2) := by decide +kernel
theorem d_C_init_29 : decode prog_4_method_1_code 29 = .ok (.putfield 22, 3) := by decide +kernel
theorem d_C_init_32 : decode prog_4_method_1_code 32 = .ok (.aload_n 0, 1) := by decide +kernel
theorem d_C_init_33 : decode prog_4_method_1_code 33 = .ok (.aload_n 0, 1) := by decide +kernel
theorem d_C_init_34 : decode prog_4_method_1_code 34 = .ok (.getfield 15, 3) := by decide +kernel
theorem d_C_init_37 : decode prog_4_method_1_code 37 = .ok (.newarray .long, 2) := by decide +kernel
theorem d_C_init_39 : decode prog_4_method_1_code 39 = .ok (.putfield 26, 3) := by decide +kernel
theorem d_C_init_42 : decode prog_4_method_1_code 42 = .ok (.aload_n 1, 1) := by decide +kernel
theorem d_C_init_43 : decode prog_4_method_1_code 43 = .ok (.iload_n 2, 1) := by decide +kernel
theorem d_C_init_44 : decode prog_4_method_1_code 44 = .ok (.invokestatic 29, 3) := by decide +kernel
theorem d_C_init_47 : decode prog_4_method_1_code 47 = .ok (.astore_n 3, 1) := by decide +kernel
theorem d_C_init_48 : decode prog_4_method_1_code 48 = .ok (.iconst 0, 1) := by decide +kernel
theorem d_C_init_49 : decode prog_4_method_1_code 49 = .ok (.istore 4, 2) := by decide +kernel
theorem d_C_init_51 : decode prog_4_method_1_code 51 = .ok (.iload 4, 2) := by decide +kernel
theorem d_C_init_53 : decode prog_4_method_1_code 53 = .ok (.aload_n 0, 1) := by decide +kernel
theorem d_C_init_54 : decode prog_4_method_1_code 54 = .ok (.getfield 15, 3) := by decide +kernel
theorem d_C_init_57 : decode prog_4_method_1_code 57 = .ok (.if_icmp .ge 69, 3) := by decide +kernel
theorem d_C_init_126 : decode prog_4_method_1_code 126 = .ok (.aload_n 0, 1) := by decide +kernel
theorem d_C_init_127 : decode prog_4_method_1_code 127 = .ok (.aload_n 0, 1) := by decide +kernel
theorem d_C_init_128 : decode prog_4_method_1_code 128 = .ok (.getfield 18, 3) := by decide +kernel
theorem d_C_init_131 : decode prog_4_method_1_code 131 = .ok (.invokestatic 36, 3) := by decide +kernel
theorem d_C_init_134 : decode prog_4_method_1_code 134 = .ok (.putfield 40, 3) := by decide +kernel
theorem d_C_init_137 : decode prog_4_method_1_code 137 = .ok (.aload_n 0, 1) := by decide +kernel
theorem d_C_init_138 : decode prog_4_method_1_code 138 = .ok (.bipush 64, 2) := by decide +kernel
theorem d_C_init_140 : decode prog_4_method_1_code 140 = .ok (.aload_n 0, 1) := by decide +kernel
theorem d_C_init_141 : decode prog_4_method_1_code 141 = .ok (.getfield 40, 3) := by decide +kernel
theorem d_C_init_144 : decode prog_4_method_1_code 144 = .ok (.imul, 1) := by decide +kernel
theorem d_C_init_145 : decode prog_4_method_1_code 145 = .ok (.aload_n 0, 1) := by decide +kernel
theorem d_C_init_146 : decode prog_4_method_1_code 146 = .ok (.getfield 18, 3) := by decide +kernel
theorem d_C_init_149 : decode prog_4_method_1_code 149 = .ok (.aload_n 0, 1) := by decide +kernel
theorem d_C_init_150 : decode prog_4_method_1_code 150 = .ok (.getfield 22, 3) := by decide +kernel
theorem d_C_init_153 : decode prog_4_method_1_code 153 = .ok (.aload_n 0, 1) := by decide +kernel
theorem d_C_init_154 : decode prog_4_method_1_code 154 = .ok (.getfield 26, 3) := by decide +kernel
theorem d_C_init_157 : decode prog_4_method_1_code 157 = .ok (.invokestatic 43, 3) := by decide +kernel
theorem d_C_init_160 : decode prog_4_method_1_code 160 = .ok (.iadd, 1) := by decide +kernel
theorem d_C_init_161 : decode prog_4_method_1_code 161 = .ok (.putfield 47, 3) := by decide +kernel
theorem d_C_init_164 : decode prog_4_method_1_code 164 = .ok (.aload_n 0, 1) := by decide +kernel
theorem d_C_init_165 : decode prog_4_method_1_code 165 = .ok (.aload_n 0, 1) := by decide +kernel
theorem d_C_init_166 : decode prog_4_method_1_code 166 = .ok (.getfield 47, 3) := by decide +kernel
theorem d_C_init_169 : decode prog_4_method_1_code 169 = .ok (.sipush 32256, 3) := by decide +kernel
theorem d_C_init_172 : decode prog_4_method_1_code 172 = .ok (.iadd, 1) := by decide +kernel
theorem d_C_init_173 : decode prog_4_method_1_code 173 = .ok (.iconst 1, 1) := by decide +kernel
theorem d_C_init_174 : decode prog_4_method_1_code 174 = .ok (.isub, 1) := by decide +kernel
theorem d_C_init_175 : decode prog_4_method_1_code 175 = .ok (.sipush 32256, 3) := by decide +kernel
theorem d_C_init_178 : decode prog_4_method_1_code 178 = .ok (.idiv, 1) := by decide +kernel
theorem d_C_init_179 : decode prog_4_method_1_code 179 = .ok (.putfield 50, 3) := by decide +kernel
theorem d_C_init_182 : decode prog_4_method_1_code 182 = .ok (.aload_n 0, 1) := by decide +kernel
theorem d_C_init_183 : decode prog_4_method_1_code 183 = .ok (.aload_n 0, 1) := by decide +kernel
theorem d_C_init_184 : decode prog_4_method_1_code 184 = .ok (.getfield 22, 3) := by decide +kernel
theorem d_C_init_187 : decode prog_4_method_1_code 187 = .ok (.invokestatic 53, 3) := by decide +kernel
theorem d_C_init_190 : decode prog_4_method_1_code 190 = .ok (.putfield 57, 3) := by decide +kernel
theorem d_C_init_193 : decode prog_4_method_1_code 193 = .ok (.return_, 1) := by decide +kernel
theorem d_C_init_60 : decode prog_4_method_1_code 60 = .ok (.aload_n 1, 1) := by decide +kernel
theorem d_C_init_61 : decode prog_4_method_1_code 61 = .ok (.getfield 33, 3) := by decide +kernel
theorem d_C_init_64 : decode prog_4_method_1_code 64 = .ok (.iload 4, 2) := by decide +kernel
theorem d_C_init_66 : decode prog_4_method_1_code 66 = .ok (.iaload, 1) := by decide +kernel
theorem d_C_init_67 : decode prog_4_method_1_code 67 = .ok (.istore 5, 2) := by decide +kernel
theorem d_C_init_69 : decode prog_4_method_1_code 69 = .ok (.aload_n 3, 1) := by decide +kernel
theorem d_C_init_70 : decode prog_4_method_1_code 70 = .ok (.iload 5, 2) := by decide +kernel
theorem d_C_init_72 : decode prog_4_method_1_code 72 = .ok (.iaload, 1) := by decide +kernel
theorem d_C_init_73 : decode prog_4_method_1_code 73 = .ok (.istore 6, 2) := by decide +kernel
theorem d_C_init_75 : decode prog_4_method_1_code 75 = .ok (.aload_n 0, 1) := by decide +kernel
theorem d_C_init_76 : decode prog_4_method_1_code 76 = .ok (.getfield 18, 3) := by decide +kernel
theorem d_C_init_79 : decode prog_4_method_1_code 79 = .ok (.iload 6, 2) := by decide +kernel
theorem d_C_init_81 : decode prog_4_method_1_code 81 = .ok (.iload 5, 2) := by decide +kernel
theorem d_C_init_83 : decode prog_4_method_1_code 83 = .ok (.iastore, 1) := by decide +kernel
theorem d_C_init_84 : decode prog_4_method_1_code 84 = .ok (.aload_n 0, 1) := by decide +kernel
theorem d_C_init_85 : decode prog_4_method_1_code 85 = .ok (.getfield 22, 3) := by decide +kernel
theorem d_C_init_88 : decode prog_4_method_1_code 88 = .ok (.iload 6, 2) := by decide +kernel
theorem d_C_init_90 : decode prog_4_method_1_code 90 = .ok (.aload_n 1, 1) := by decide +kernel
theorem d_C_init_91 : decode prog_4_method_1_code 91 = .ok (.getfield 34, 3) := by decide +kernel
theorem d_C_init_94 : decode prog_4_method_1_code 94 = .ok (.iload 4, 2) := by decide +kernel
theorem d_C_init_96 : decode prog_4_method_1_code 96 = .ok (.laload, 1) := by decide +kernel
theorem d_C_init_97 : decode prog_4_method_1_code 97 = .ok (.lastore, 1) := by decide +kernel
theorem d_C_init_98 : decode prog_4_method_1_code 98 = .ok (.aload_n 0, 1) := by decide +kernel
theorem d_C_init_99 : decode prog_4_method_1_code 99 = .ok (.getfield 26, 3) := by decide +kernel
theorem d_C_init_102 : decode prog_4_method_1_code 102 = .ok (.iload 6, 2) := by decide +kernel
theorem d_C_init_104 : decode prog_4_method_1_code 104 = .ok (.aload_n 1, 1) := by decide +kernel
theorem d_C_init_105 : decode prog_4_method_1_code 105 = .ok (.getfield 35, 3) := by decide +kernel
theorem d_C_init_108 : decode prog_4_method_1_code 108 = .ok (.iload 4, 2) := by decide +kernel
theorem d_C_init_110 : decode prog_4_method_1_code 110 = .ok (.laload, 1) := by decide +kernel
theorem d_C_init_111 : decode prog_4_method_1_code 111 = .ok (.lastore, 1) := by decide +kernel
theorem d_C_init_112 : decode prog_4_method_1_code 112 = .ok (.aload_n 3, 1) := by decide +kernel
theorem d_C_init_113 : decode prog_4_method_1_code 113 = .ok (.iload 5, 2) := by decide +kernel
theorem d_C_init_115 : decode prog_4_method_1_code 115 = .ok (.dup2, 1) := by decide +kernel
theorem d_C_init_116 : decode prog_4_method_1_code 116 = .ok (.iaload, 1) := by decide +kernel
theorem d_C_init_117 : decode prog_4_method_1_code 117 = .ok (.iconst 1, 1) := by decide +kernel
theorem d_C_init_118 : decode prog_4_method_1_code 118 = .ok (.iadd, 1) := by decide +kernel
theorem d_C_init_119 : decode prog_4_method_1_code 119 = .ok (.iastore, 1) := by decide +kernel
theorem d_C_init_120 : decode prog_4_method_1_code 120 = .ok (.iinc 4 1, 3) := by decide +kernel
theorem d_C_init_123 : decode prog_4_method_1_code 123 = .ok (.goto (-72), 3) := by decide +kernel
theorem w1226 : Cond.methodLink "SeriesVault$Parcel" 3 ⟨"java/lang/Object", "<init>", "()V"⟩ ∈ aW := aw_of (tb_6 (List.mem_of_getElem? (i := 6) rfl)) rfl
theorem w1227 : Cond.fieldLink "SeriesVault$Parcel" 15 "SeriesVault$Parcel" "size" "I" ∈ aW := aw_of (tb_6 (List.mem_of_getElem? (i := 53) rfl)) rfl
theorem w1228 : Cond.fieldLink "SeriesVault$Parcel" 18 "SeriesVault$Parcel" "owners" "[I" ∈ aW := aw_of (tb_6 (List.mem_of_getElem? (i := 44) rfl)) rfl
theorem w1229 : Cond.fieldLink "SeriesVault$Parcel" 22 "SeriesVault$Parcel" "times" "[J" ∈ aW := aw_of (tb_6 (List.mem_of_getElem? (i := 47) rfl)) rfl
theorem w1230 : Cond.fieldLink "SeriesVault$Parcel" 26 "SeriesVault$Parcel" "values" "[J" ∈ aW := aw_of (tb_6 (List.mem_of_getElem? (i := 50) rfl)) rfl
theorem w1231 : Cond.methodLink "SeriesVault$Parcel" 29 ⟨"SeriesVault$Parcel", "chunkPlaces", "(LSeriesVault$Points;I)[I"⟩ ∈ aW := aw_of (tb_6 (List.mem_of_getElem? (i := 7) rfl)) rfl
theorem w1232 : Cond.code ⟨"SeriesVault$Parcel", "chunkPlaces", "(LSeriesVault$Points;I)[I"⟩ prog_4_method_2_code 4 (some (FieldType.array FieldType.int)) ∈ aW := aw_of (tb_6 (List.mem_of_getElem? (i := 9) rfl)) rfl
theorem w1233 : Cond.static ⟨"SeriesVault$Parcel", "chunkPlaces", "(LSeriesVault$Points;I)[I"⟩ ∈ aW := aw_of (tb_6 (List.mem_of_getElem? (i := 8) rfl)) rfl
theorem w1234 : Cond.methodLink "SeriesVault$Parcel" 36 ⟨"SeriesVault$Parcel", "countChunks", "([I)I"⟩ ∈ aW := aw_of (tb_6 (List.mem_of_getElem? (i := 10) rfl)) rfl
theorem w1235 : Cond.code ⟨"SeriesVault$Parcel", "countChunks", "([I)I"⟩ prog_4_method_3_code 3 (some FieldType.int) ∈ aW := aw_of (tb_6 (List.mem_of_getElem? (i := 12) rfl)) rfl
theorem w1236 : Cond.static ⟨"SeriesVault$Parcel", "countChunks", "([I)I"⟩ ∈ aW := aw_of (tb_6 (List.mem_of_getElem? (i := 11) rfl)) rfl
theorem w1237 : Cond.fieldLink "SeriesVault$Parcel" 40 "SeriesVault$Parcel" "chunks" "I" ∈ aW := aw_of (tb_6 (List.mem_of_getElem? (i := 57) rfl)) rfl
theorem w1238 : Cond.methodLink "SeriesVault$Parcel" 43 ⟨"SeriesVault$Parcel", "bitsOfChunks", "([I[J[J)I"⟩ ∈ aW := aw_of (tb_6 (List.mem_of_getElem? (i := 13) rfl)) rfl
theorem w1239 : Cond.code ⟨"SeriesVault$Parcel", "bitsOfChunks", "([I[J[J)I"⟩ prog_4_method_5_code 15 (some FieldType.int) ∈ aW := aw_of (tb_6 (List.mem_of_getElem? (i := 15) rfl)) rfl
theorem w1240 : Cond.static ⟨"SeriesVault$Parcel", "bitsOfChunks", "([I[J[J)I"⟩ ∈ aW := aw_of (tb_6 (List.mem_of_getElem? (i := 14) rfl)) rfl
theorem w1241 : Cond.fieldLink "SeriesVault$Parcel" 47 "SeriesVault$Parcel" "bits" "I" ∈ aW := aw_of (tb_6 (List.mem_of_getElem? (i := 59) rfl)) rfl
theorem w1242 : Cond.fieldLink "SeriesVault$Parcel" 50 "SeriesVault$Parcel" "blocks" "I" ∈ aW := aw_of (tb_6 (List.mem_of_getElem? (i := 61) rfl)) rfl
theorem w1243 : Cond.methodLink "SeriesVault$Parcel" 53 ⟨"SeriesVault$Parcel", "greatest", "([J)J"⟩ ∈ aW := aw_of (tb_6 (List.mem_of_getElem? (i := 39) rfl)) rfl
theorem w1244 : Cond.code ⟨"SeriesVault$Parcel", "greatest", "([J)J"⟩ prog_4_method_4_code 4 (some FieldType.long) ∈ aW := aw_of (tb_6 (List.mem_of_getElem? (i := 41) rfl)) rfl
theorem w1245 : Cond.static ⟨"SeriesVault$Parcel", "greatest", "([J)J"⟩ ∈ aW := aw_of (tb_6 (List.mem_of_getElem? (i := 40) rfl)) rfl
theorem w1246 : Cond.fieldLink "SeriesVault$Parcel" 57 "SeriesVault$Parcel" "newest" "J" ∈ aW := aw_of (tb_6 (List.mem_of_getElem? (i := 64) rfl)) rfl
theorem w1247 : Cond.fieldLinkNest "SeriesVault$Parcel" 34 "SeriesVault$Points" "times" "[J" "SeriesVault" ∈ aW := aw_of (tb_1 (List.mem_of_getElem? (i := 114) rfl)) rfl
theorem w1248 : Cond.fieldLinkNest "SeriesVault$Parcel" 35 "SeriesVault$Points" "values" "[J" "SeriesVault" ∈ aW := aw_of (tb_1 (List.mem_of_getElem? (i := 117) rfl)) rfl
set_option maxHeartbeats 4000000 in
set_option maxRecDepth 100000 in
theorem v_Cinit (l : Launch) (D : va_G) (dA : Nat → ClassId) (sz : Nat) (ws : va_W) (pp : Nat) (pa : Nat) (oa : Nat) (ta : Nat) (va : Nat) (N : Nat) (n : Nat) (o : Nat → Nat) (t : Nat → Int64) (v : Nat → Int64) (w : Nat) (m1 : (pa, .inr (2, [.ref oa, .ref ta, .ref va, .int (nI n)])) ∈ ws) (m2 : (oa, .inl (dA 1, N, .inl (fun z9 => nI (o z9)))) ∈ ws) (m3 : (ta, .inl (dA 2, N, .inr (.inl t))) ∈ ws) (m4 : (va, .inl (dA 2, N, .inr (.inl v))) ∈ ws) (hn : n ≤ 12000) (hN : n ≤ N) (hN2 : N ≤ 65536) (hw : w ≤ 256) (ho : ∀ i : Nat, i < n → o i < w) : Met l ⟨"SeriesVault$Parcel", "<init>", "(LSeriesVault$Points;I)V"⟩ [Cond.code ⟨"SeriesVault$Parcel", "<init>", "(LSeriesVault$Points;I)V"⟩ prog_4_method_1_code 7 none] { frames := 4, cells := 4, slots := 3 * n + w + 1, locals := 77 } (pC D dA [.ref pp, .ref pa, .int (nI w)] ([(pp, .inr (12, [.null, .null, .null, .int 0, .int 0, .int 0, .int 0, .long 0]))] ++ (ws)) sz) (va_Qv (fun (u9 : Nat × Nat × Nat × (Nat → Nat) × (Nat → Int64) × (Nat → Int64)) => laid o n n o u9.2.2.2.1 ∧ laid o n n t u9.2.2.2.2.1 ∧ laid o n n v u9.2.2.2.2.2 ∧ ∀ q, u9.2.2.2.1 q < 256) (fun (u9 : Nat × Nat × Nat × (Nat → Nat) × (Nat → Int64) × (Nat → Int64)) t9 => bW D (va_A ([(pp, .inr (12, [.null, .null, .null, .int 0, .int 0, .int 0, .int 0, .long 0]))] ++ (ws)) sz) ([(u9.1, .inl (dA 1, n, .inl (fun z9 => nI (u9.2.2.2.1 z9))))] ++ ([(u9.2.1, .inl (dA 2, n, .inr (.inl u9.2.2.2.2.1)))] ++ ([(u9.2.2.1, .inl (dA 2, n, .inr (.inl u9.2.2.2.2.2)))] ++ ([(pp, .inr (12, [.ref u9.1, .ref u9.2.1, .ref u9.2.2.1, .int (nI n), .int (nI (cnt n (chB u9.2.2.2.1))), .int (nI (64 * cnt n (chB u9.2.2.2.1) + (bcG u9.2.2.2.1 u9.2.2.2.2.1 u9.2.2.2.2.2 n).1)), .int (nI ((64 * cnt n (chB u9.2.2.2.1) + (bcG u9.2.2.2.1 u9.2.2.2.2.1 u9.2.2.2.2.2 n).1 + 32256 - 1) / 32256)), .long (grG u9.2.2.2.2.1 n)]))] ++ (ws))))) t9) (va_A ([(pp, .inr (12, [.null, .null, .null, .int 0, .int 0, .int 0, .int 0, .long 0]))] ++ (ws)) sz)) 4 (3 * n + w + 1) (va_A ([(pp, .inr (12, [.null, .null, .null, .int 0, .int 0, .int 0, .int 0, .long 0]))] ++ (ws)) sz) := by
  refine mkC (y := ⟨"SeriesVault$Parcel", "<init>", "(LSeriesVault$Points;I)V"⟩) (cc := prog_4_method_1_code) (maxL := 7) (av := [.ref pp, .ref pa, .int (nI w)]) (ws := [(pp, .inr (12, [.null, .null, .null, .int 0, .int 0, .int 0, .int 0, .long 0]))] ++ (ws)) (sz := sz) (Qc := fun A => va_Qv (fun (u9 : Nat × Nat × Nat × (Nat → Nat) × (Nat → Int64) × (Nat → Int64)) => laid o n n o u9.2.2.2.1 ∧ laid o n n t u9.2.2.2.2.1 ∧ laid o n n v u9.2.2.2.2.2 ∧ ∀ q, u9.2.2.2.1 q < 256) (fun (u9 : Nat × Nat × Nat × (Nat → Nat) × (Nat → Int64) × (Nat → Int64)) t9 => bW D A ([(u9.1, .inl (dA 1, n, .inl (fun z9 => nI (u9.2.2.2.1 z9))))] ++ ([(u9.2.1, .inl (dA 2, n, .inr (.inl u9.2.2.2.2.1)))] ++ ([(u9.2.2.1, .inl (dA 2, n, .inr (.inl u9.2.2.2.2.2)))] ++ ([(pp, .inr (12, [.ref u9.1, .ref u9.2.1, .ref u9.2.2.1, .int (nI n), .int (nI (cnt n (chB u9.2.2.2.1))), .int (nI (64 * cnt n (chB u9.2.2.2.1) + (bcG u9.2.2.2.1 u9.2.2.2.2.1 u9.2.2.2.2.2 n).1)), .int (nI ((64 * cnt n (chB u9.2.2.2.1) + (bcG u9.2.2.2.1 u9.2.2.2.2.1 u9.2.2.2.2.2 n).1 + 32256 - 1) / 32256)), .long (grG u9.2.2.2.2.1 n)]))] ++ (ws))))) t9) A) (by decide) (Nat.le_of_ble_eq_true rfl) ?_
  intro A p e s m below meth c ls hsz hB
  obtain ⟨hx, hb, hr, hml, hown, hin, hlk, hE, hK, hP, hD, hS, hA, hN, hl⟩ := hB
  have hown : s.vm.findClass "SeriesVault$Parcel" = some m.cls := hown
  have hl : lv_has ls 7 [(0, .ref pp), (1, .ref pa), (2, .int (nI w))] := hl
  obtain ⟨H, hH⟩ : ∃ z, z = s.heap := ⟨_, rfl⟩
  have hP : va_P D vwCl ([(pp, .inr (12, [.null, .null, .null, .int 0, .int 0, .int 0, .int 0, .long 0]))] ++ (ws)) H := by rw [hH]; exact hP
  have hS : va_S A s.heap H [] := by rw [hH]; exact hS
  rw [← hH]
  refine lv_aload_n hx hb d_C_init_0 rfl (lv_at hl 0 rfl) ?_
  refine oI hx hb hown hE w1226 w182 w183 (hl.1.trans hml.symm) d_C_init_1 (Nat.le_of_ble_eq_true rfl) (Nat.le_of_ble_eq_true rfl) ?_
  refine lv_aload_n hx hb d_C_init_4 rfl (lv_at hl 0 rfl) ?_
  refine lv_aload_n hx hb d_C_init_5 rfl (lv_at hl 1 rfl) ?_
  obtain ⟨qp1, ep2⟩ := List.getElem?_of_mem (show ((pa, .inr (2, [.ref oa, .ref ta, .ref va, .int (nI n)])) : Nat × va_E) ∈ [(pp, .inr (12, [.null, .null, .null, .int 0, .int 0, .int 0, .int 0, .long 0]))] ++ (ws) from (List.mem_append_right _ m1))
  refine gFN (v := .int (nI n)) hx hb hown hE hK hP qp1 ep2 rfl layP 3 (by decide) w1224 rfl d_C_init_6 ?_
  refine pFF (v := .int (nI n)) hx hb hown hE hK hP hD hS 0 rfl rfl layC tyC tokC nmC 3 (by decide) w1227 rfl hin rfl rfl rfl (Nat.le_of_ble_eq_true rfl) d_C_init_9 (fun H locs hP hD hS => ?_)
  have hP : va_P D vwCl ([(pp, .inr (12, [.null, .null, .null, .int (nI n), .int 0, .int 0, .int 0, .long 0]))] ++ (ws)) H := hP
  have hD : va_D A ([(pp, .inr (12, [.null, .null, .null, .int (nI n), .int 0, .int 0, .int 0, .long 0]))] ++ (ws)) := hD
  refine lv_aload_n hx hb d_C_init_12 rfl (lv_at hl 0 rfl) ?_
  refine lv_aload_n hx hb d_C_init_13 rfl (lv_at hl 0 rfl) ?_
  refine gF (v := .int (nI n)) hx hb hown hE hK hP 0 rfl rfl layC 3 (by decide) w1227 rfl d_C_init_14 ?_
  refine nnA (atype := .int) (ty := .int) (N' := n) (a0 := (n, .inl (fun z9 => nI ((fun _ => 0) z9)))) hx hb hE rfl w184 hK hP hD hS hA 1 rfl (fun _ => rfl) (by omega) (show n * 4 ≤ 536870912 by omega) (show 0 + 1 ≤ 4 by omega) (show 0 + n ≤ 3 * n + w + 1 by omega) d_C_init_17 (fun oq H hP hD hS => ?_)
  have hP : va_P D vwCl ([(oq, .inl (dA 1, n, .inl (fun z9 => nI ((fun _ => 0) z9))))] ++ ([(pp, .inr (12, [.null, .null, .null, .int (nI n), .int 0, .int 0, .int 0, .long 0]))] ++ (ws))) H := hP
  have hD : va_D A ([(oq, .inl (dA 1, n, .inl (fun z9 => nI ((fun _ => 0) z9))))] ++ ([(pp, .inr (12, [.null, .null, .null, .int (nI n), .int 0, .int 0, .int 0, .long 0]))] ++ (ws))) := hD
  refine pFF (v := .ref oq) hx hb hown hE hK hP hD hS 1 rfl rfl layC tyC tokC nmC 0 (by decide) w1228 rfl hin rfl rfl rfl (Nat.le_of_ble_eq_true rfl) d_C_init_19 (fun H locs hP hD hS => ?_)
  have hP : va_P D vwCl ([(oq, .inl (dA 1, n, .inl (fun z9 => nI ((fun _ => 0) z9))))] ++ ([(pp, .inr (12, [.ref oq, .null, .null, .int (nI n), .int 0, .int 0, .int 0, .long 0]))] ++ (ws))) H := hP
  have hD : va_D A ([(oq, .inl (dA 1, n, .inl (fun z9 => nI ((fun _ => 0) z9))))] ++ ([(pp, .inr (12, [.ref oq, .null, .null, .int (nI n), .int 0, .int 0, .int 0, .long 0]))] ++ (ws))) := hD
  refine lv_aload_n hx hb d_C_init_22 rfl (lv_at hl 0 rfl) ?_
  refine lv_aload_n hx hb d_C_init_23 rfl (lv_at hl 0 rfl) ?_
  refine gF (v := .int (nI n)) hx hb hown hE hK hP 1 rfl rfl layC 3 (by decide) w1227 rfl d_C_init_24 ?_
  refine nnA (atype := .long) (ty := .long) (N' := n) (a0 := (n, .inr (.inl (fun _ => 0)))) hx hb hE rfl w186 hK hP hD hS hA 2 rfl (fun _ => rfl) (by omega) (show n * 8 ≤ 536870912 by omega) (show (0 + 1) + 1 ≤ 4 by omega) (show (0 + n) + n ≤ 3 * n + w + 1 by omega) d_C_init_27 (fun tq H hP hD hS => ?_)
  have hP : va_P D vwCl ([(tq, .inl (dA 2, n, .inr (.inl (fun _ => 0))))] ++ ([(oq, .inl (dA 1, n, .inl (fun z9 => nI ((fun _ => 0) z9))))] ++ ([(pp, .inr (12, [.ref oq, .null, .null, .int (nI n), .int 0, .int 0, .int 0, .long 0]))] ++ (ws)))) H := hP
  have hD : va_D A ([(tq, .inl (dA 2, n, .inr (.inl (fun _ => 0))))] ++ ([(oq, .inl (dA 1, n, .inl (fun z9 => nI ((fun _ => 0) z9))))] ++ ([(pp, .inr (12, [.ref oq, .null, .null, .int (nI n), .int 0, .int 0, .int 0, .long 0]))] ++ (ws)))) := hD
  refine pFF (v := .ref tq) hx hb hown hE hK hP hD hS 2 rfl rfl layC tyC tokC nmC 1 (by decide) w1229 rfl hin rfl rfl rfl (Nat.le_of_ble_eq_true rfl) d_C_init_29 (fun H locs hP hD hS => ?_)
  have hP : va_P D vwCl ([(tq, .inl (dA 2, n, .inr (.inl (fun _ => 0))))] ++ ([(oq, .inl (dA 1, n, .inl (fun z9 => nI ((fun _ => 0) z9))))] ++ ([(pp, .inr (12, [.ref oq, .ref tq, .null, .int (nI n), .int 0, .int 0, .int 0, .long 0]))] ++ (ws)))) H := hP
  have hD : va_D A ([(tq, .inl (dA 2, n, .inr (.inl (fun _ => 0))))] ++ ([(oq, .inl (dA 1, n, .inl (fun z9 => nI ((fun _ => 0) z9))))] ++ ([(pp, .inr (12, [.ref oq, .ref tq, .null, .int (nI n), .int 0, .int 0, .int 0, .long 0]))] ++ (ws)))) := hD
  refine lv_aload_n hx hb d_C_init_32 rfl (lv_at hl 0 rfl) ?_
  refine lv_aload_n hx hb d_C_init_33 rfl (lv_at hl 0 rfl) ?_
  refine gF (v := .int (nI n)) hx hb hown hE hK hP 2 rfl rfl layC 3 (by decide) w1227 rfl d_C_init_34 ?_
  refine nnA (atype := .long) (ty := .long) (N' := n) (a0 := (n, .inr (.inl (fun _ => 0)))) hx hb hE rfl w186 hK hP hD hS hA 2 rfl (fun _ => rfl) (by omega) (show n * 8 ≤ 536870912 by omega) (show (0 + 1 + 1) + 1 ≤ 4 by omega) (show (0 + n + n) + n ≤ 3 * n + w + 1 by omega) d_C_init_37 (fun vq H hP hD hS => ?_)
  have hP : va_P D vwCl ([(vq, .inl (dA 2, n, .inr (.inl (fun _ => 0))))] ++ ([(tq, .inl (dA 2, n, .inr (.inl (fun _ => 0))))] ++ ([(oq, .inl (dA 1, n, .inl (fun z9 => nI ((fun _ => 0) z9))))] ++ ([(pp, .inr (12, [.ref oq, .ref tq, .null, .int (nI n), .int 0, .int 0, .int 0, .long 0]))] ++ (ws))))) H := hP
  have hD : va_D A ([(vq, .inl (dA 2, n, .inr (.inl (fun _ => 0))))] ++ ([(tq, .inl (dA 2, n, .inr (.inl (fun _ => 0))))] ++ ([(oq, .inl (dA 1, n, .inl (fun z9 => nI ((fun _ => 0) z9))))] ++ ([(pp, .inr (12, [.ref oq, .ref tq, .null, .int (nI n), .int 0, .int 0, .int 0, .long 0]))] ++ (ws))))) := hD
  refine pFF (v := .ref vq) hx hb hown hE hK hP hD hS 3 rfl rfl layC tyC tokC nmC 2 (by decide) w1230 rfl hin rfl rfl rfl (Nat.le_of_ble_eq_true rfl) d_C_init_39 (fun H locs hP hD hS => ?_)
  have hP : va_P D vwCl ([(vq, .inl (dA 2, n, .inr (.inl (fun _ => 0))))] ++ ([(tq, .inl (dA 2, n, .inr (.inl (fun _ => 0))))] ++ ([(oq, .inl (dA 1, n, .inl (fun z9 => nI ((fun _ => 0) z9))))] ++ ([(pp, .inr (12, [.ref oq, .ref tq, .ref vq, .int (nI n), .int 0, .int 0, .int 0, .long 0]))] ++ (ws))))) H := hP
  have hD : va_D A ([(vq, .inl (dA 2, n, .inr (.inl (fun _ => 0))))] ++ ([(tq, .inl (dA 2, n, .inr (.inl (fun _ => 0))))] ++ ([(oq, .inl (dA 1, n, .inl (fun z9 => nI ((fun _ => 0) z9))))] ++ ([(pp, .inr (12, [.ref oq, .ref tq, .ref vq, .int (nI n), .int 0, .int 0, .int 0, .long 0]))] ++ (ws))))) := hD
  refine lv_aload_n hx hb d_C_init_42 rfl (lv_at hl 1 rfl) ?_
  refine lv_iload_n hx hb d_C_init_43 rfl (lv_at hl 2 rfl) ?_
  refine jkR (wr := []) (rnS (As := [.ref pa, .int (nI w)]) (rest := []) hx hb hml hown hE hK (hN _ _ hS) hP hD (v_chunkPlaces l D dA H.size ([(vq, .inl (dA 2, n, .inr (.inl (fun _ => 0))))] ++ ([(tq, .inl (dA 2, n, .inr (.inl (fun _ => 0))))] ++ ([(oq, .inl (dA 1, n, .inl (fun z9 => nI ((fun _ => 0) z9))))] ++ ([(pp, .inr (12, [.ref oq, .ref tq, .ref vq, .int (nI n), .int 0, .int 0, .int 0, .long 0]))] ++ (ws))))) pa oa ta va N n o t v w (List.mem_append_right _ (List.mem_append_right _ (List.mem_append_right _ (List.mem_append_right _ m1)))) (List.mem_append_right _ (List.mem_append_right _ (List.mem_append_right _ (List.mem_append_right _ m2)))) (List.mem_append_right _ (List.mem_append_right _ (List.mem_append_right _ (List.mem_append_right _ m3)))) (List.mem_append_right _ (List.mem_append_right _ (List.mem_append_right _ (List.mem_append_right _ m4)))) (show n ≤ 12000 from by omega) (show n ≤ N from by omega) (show N ≤ 65536 from by omega) (show w ≤ 256 from by omega) ho) w1232 w1231 w1233 w1213 rfl rfl ⟨⟨by decide, by decide⟩, rfl⟩ ⟨(Nat.le_of_ble_eq_true rfl), (Nat.le_of_ble_eq_true rfl)⟩ rfl hl.1 rfl (Nat.le_of_ble_eq_true rfl) d_C_init_44 ⟨(show 0 + 1 + 1 + 1 + 1 ≤ 4 by omega), (show 0 + n + n + n + (w + 1) ≤ 3 * n + w + 1 by omega)⟩) hP hD hS hA (fun u3 pq H locs hp9 hP hD hS => ?_)
  obtain ⟨fp0, h9u⟩ : ∃ z9, z9 = u3 := ⟨_, rfl⟩
  subst h9u
  have hP : va_P D vwCl ([(pq, .inl (dA 1, w + 1, .inl (fun z9 => nI (fp0 z9))))] ++ ([(vq, .inl (dA 2, n, .inr (.inl (fun _ => 0))))] ++ ([(tq, .inl (dA 2, n, .inr (.inl (fun _ => 0))))] ++ ([(oq, .inl (dA 1, n, .inl (fun z9 => nI ((fun _ => 0) z9))))] ++ ([(pp, .inr (12, [.ref oq, .ref tq, .ref vq, .int (nI n), .int 0, .int 0, .int 0, .long 0]))] ++ (ws)))))) H := hP
  have hD : va_D A ([(pq, .inl (dA 1, w + 1, .inl (fun z9 => nI (fp0 z9))))] ++ ([(vq, .inl (dA 2, n, .inr (.inl (fun _ => 0))))] ++ ([(tq, .inl (dA 2, n, .inr (.inl (fun _ => 0))))] ++ ([(oq, .inl (dA 1, n, .inl (fun z9 => nI ((fun _ => 0) z9))))] ++ ([(pp, .inr (12, [.ref oq, .ref tq, .ref vq, .int (nI n), .int 0, .int 0, .int 0, .long 0]))] ++ (ws)))))) := hD
  have f_hf_4 := hp9
  refine lv_astore_n hx hb d_C_init_47 rfl hl (by decide) rfl (fun ls hl => ?_)
  have hl : lv_has ls 7 [(3, .ref pq), (0, .ref pp), (1, .ref pa), (2, .int (nI w))] := hl
  refine lv_iconst (v := 0) hx hb d_C_init_48 (by decide) ?_
  refine lv_istore hx hb d_C_init_49 hl (by decide) rfl (fun ls hl => ?_)
  have hl : lv_has ls 7 [(4, .int 0), (3, .ref pq), (0, .ref pp), (1, .ref pa), (2, .int (nI w))] := hl
  have L51 : ∀ (k9 : Nat) (i : Nat) (fp : Nat → Nat) (V : Nat → Int64) (T : Nat → Int64) (O : Nat → Nat) (i1 : i ≤ n) (hpl : plcs o n i w fp) (l1 : laid o n i o O) (l2 : laid o n i t T) (l3 : laid o n i v V) (l4 : ∀ q, O q < 256) (hk9 : n - i = k9), ∀ (H : Heap) (locs : List Loc) (ls : Array Slot) (hP : va_P D vwCl ([(pq, .inl (dA 1, w + 1, .inl (fun z9 => nI (fp z9))))] ++ ([(vq, .inl (dA 2, n, .inr (.inl V)))] ++ ([(tq, .inl (dA 2, n, .inr (.inl T)))] ++ ([(oq, .inl (dA 1, n, .inl (fun z9 => nI (O z9))))] ++ ([(pp, .inr (12, [.ref oq, .ref tq, .ref vq, .int (nI n), .int 0, .int 0, .int 0, .long 0]))] ++ (ws)))))) H) (hD : va_D A ([(pq, .inl (dA 1, w + 1, .inl (fun z9 => nI (fp z9))))] ++ ([(vq, .inl (dA 2, n, .inr (.inl V)))] ++ ([(tq, .inl (dA 2, n, .inr (.inl T)))] ++ ([(oq, .inl (dA 1, n, .inl (fun z9 => nI (O z9))))] ++ ([(pp, .inr (12, [.ref oq, .ref tq, .ref vq, .int (nI n), .int 0, .int 0, .int 0, .long 0]))] ++ (ws))))))) (hS : va_S A s.heap H locs) (hl : lv_has ls 7 [(4, .int (nI i)), (0, .ref pp), (1, .ref pa), (2, .int (nI w)), (3, .ref pq)]), W p l e ({ frames := 4, cells := 4, slots := 3 * n + w + 1, locals := 77 } : Room) s m ([.ref pp, .ref pa, .int (nI w)] : List Value).toArray below meth c H locs (0 + 1 + 1 + 1 + 1) (0 + n + n + n + (w + 1)) (MQ below (va_Qv (fun (u9 : Nat × Nat × Nat × (Nat → Nat) × (Nat → Int64) × (Nat → Int64)) => laid o n n o u9.2.2.2.1 ∧ laid o n n t u9.2.2.2.2.1 ∧ laid o n n v u9.2.2.2.2.2 ∧ ∀ q, u9.2.2.2.1 q < 256) (fun (u9 : Nat × Nat × Nat × (Nat → Nat) × (Nat → Int64) × (Nat → Int64)) t9 => bW D A ([(u9.1, .inl (dA 1, n, .inl (fun z9 => nI (u9.2.2.2.1 z9))))] ++ ([(u9.2.1, .inl (dA 2, n, .inr (.inl u9.2.2.2.2.1)))] ++ ([(u9.2.2.1, .inl (dA 2, n, .inr (.inl u9.2.2.2.2.2)))] ++ ([(pp, .inr (12, [.ref u9.1, .ref u9.2.1, .ref u9.2.2.1, .int (nI n), .int (nI (cnt n (chB u9.2.2.2.1))), .int (nI (64 * cnt n (chB u9.2.2.2.1) + (bcG u9.2.2.2.1 u9.2.2.2.2.1 u9.2.2.2.2.2 n).1)), .int (nI ((64 * cnt n (chB u9.2.2.2.1) + (bcG u9.2.2.2.1 u9.2.2.2.2.1 u9.2.2.2.2.2 n).1 + 32256 - 1) / 32256)), .long (grG u9.2.2.2.2.1 n)]))] ++ (ws))))) t9) A) ([.ref pp, .ref pa, .int (nI w)] : List Value).toArray s 4 (3 * n + w + 1) A) (F0 m 51 ls []) := by
    intro k9
    induction k9 using Nat.strongRecOn with
    | ind k9 ih51 =>
      intro i fp V T O i1 hpl l1 l2 l3 l4 hk9 H locs ls hP hD hS hl
      refine lv_iload hx hb d_C_init_51 (lv_at hl 0 rfl) ?_
      refine lv_aload_n hx hb d_C_init_53 rfl (lv_at hl 1 rfl) ?_
      refine gF (v := .int (nI n)) hx hb hown hE hK hP 4 rfl rfl layC 3 (by decide) w1227 rfl d_C_init_54 ?_
      refine lv_icmp_ge hx hb d_C_init_57 (tgt := 126) rfl (fun g5 => ?_) (fun g5 => ?_)
      · have g5 := (nI_leI (a := n) (b := i) (by omega) (by omega)).mp g5
        refine lv_aload_n hx hb d_C_init_126 rfl (lv_at hl 1 rfl) ?_
        refine lv_aload_n hx hb d_C_init_127 rfl (lv_at hl 1 rfl) ?_
        refine gF (v := .ref oq) hx hb hown hE hK hP 4 rfl rfl layC 0 (by decide) w1228 rfl d_C_init_128 ?_
        refine jkI (wr := []) (rnS (As := [.ref oq]) (rest := [.ref pp]) hx hb hml hown hE hK (hN _ _ hS) hP hD (v_countChunks l D dA H.size ([(pq, .inl (dA 1, w + 1, .inl (fun z9 => nI (fp z9))))] ++ ([(vq, .inl (dA 2, n, .inr (.inl V)))] ++ ([(tq, .inl (dA 2, n, .inr (.inl T)))] ++ ([(oq, .inl (dA 1, n, .inl (fun z9 => nI (O z9))))] ++ ([(pp, .inr (12, [.ref oq, .ref tq, .ref vq, .int (nI n), .int 0, .int 0, .int 0, .long 0]))] ++ (ws)))))) oq n O (List.mem_of_getElem? (i := 3) rfl) (show n ≤ 12000 from by omega) (fun i _ => l4 i)) w1235 w1234 w1236 w1213 rfl rfl ⟨⟨by decide, by decide⟩, rfl⟩ ⟨(Nat.le_of_ble_eq_true rfl), (Nat.le_of_ble_eq_true rfl)⟩ rfl hl.1 rfl (Nat.le_of_ble_eq_true rfl) d_C_init_131 ⟨(show 0 + 1 + 1 + 1 + 1 + 0 ≤ 4 by omega), (show 0 + n + n + n + (w + 1) + 0 ≤ 3 * n + w + 1 by omega)⟩) hP hD hS hA (fun r6 u7 H locs hp9 hP hD hS => ?_)
        have hP : va_P D vwCl ([(pq, .inl (dA 1, w + 1, .inl (fun z9 => nI (fp z9))))] ++ ([(vq, .inl (dA 2, n, .inr (.inl V)))] ++ ([(tq, .inl (dA 2, n, .inr (.inl T)))] ++ ([(oq, .inl (dA 1, n, .inl (fun z9 => nI (O z9))))] ++ ([(pp, .inr (12, [.ref oq, .ref tq, .ref vq, .int (nI n), .int 0, .int 0, .int 0, .long 0]))] ++ (ws)))))) H := hP
        have hD : va_D A ([(pq, .inl (dA 1, w + 1, .inl (fun z9 => nI (fp z9))))] ++ ([(vq, .inl (dA 2, n, .inr (.inl V)))] ++ ([(tq, .inl (dA 2, n, .inr (.inl T)))] ++ ([(oq, .inl (dA 1, n, .inl (fun z9 => nI (O z9))))] ++ ([(pp, .inr (12, [.ref oq, .ref tq, .ref vq, .int (nI n), .int 0, .int 0, .int 0, .long 0]))] ++ (ws)))))) := hD
        replace hp9 : nI (cnt n (chB O)) = r6 := Eq.symm hp9
        subst hp9
        refine pFF (v := .int (nI (cnt n (chB O)))) hx hb hown hE hK hP hD hS 4 rfl rfl layC tyC tokC nmC 4 (by decide) w1237 rfl hin rfl rfl rfl (Nat.le_of_ble_eq_true rfl) d_C_init_134 (fun H locs hP hD hS => ?_)
        have hP : va_P D vwCl ([(pq, .inl (dA 1, w + 1, .inl (fun z9 => nI (fp z9))))] ++ ([(vq, .inl (dA 2, n, .inr (.inl V)))] ++ ([(tq, .inl (dA 2, n, .inr (.inl T)))] ++ ([(oq, .inl (dA 1, n, .inl (fun z9 => nI (O z9))))] ++ ([(pp, .inr (12, [.ref oq, .ref tq, .ref vq, .int (nI n), .int (nI (cnt n (chB O))), .int 0, .int 0, .long 0]))] ++ (ws)))))) H := hP
        have hD : va_D A ([(pq, .inl (dA 1, w + 1, .inl (fun z9 => nI (fp z9))))] ++ ([(vq, .inl (dA 2, n, .inr (.inl V)))] ++ ([(tq, .inl (dA 2, n, .inr (.inl T)))] ++ ([(oq, .inl (dA 1, n, .inl (fun z9 => nI (O z9))))] ++ ([(pp, .inr (12, [.ref oq, .ref tq, .ref vq, .int (nI n), .int (nI (cnt n (chB O))), .int 0, .int 0, .long 0]))] ++ (ws)))))) := hD
        refine lv_aload_n hx hb d_C_init_137 rfl (lv_at hl 1 rfl) ?_
        refine lv_bipush (v := 64) hx hb d_C_init_138 (by decide) ?_
        refine lv_aload_n hx hb d_C_init_140 rfl (lv_at hl 1 rfl) ?_
        refine gF (v := .int (nI (cnt n (chB O)))) hx hb hown hE hK hP 4 rfl rfl layC 4 (by decide) w1237 rfl d_C_init_141 ?_
        refine lv_imul hx hb d_C_init_144 (tpi (y := nI (64 * (cnt n (chB O)))) (pk_mul (64) (cnt n (chB O))) ?_)
        refine lv_aload_n hx hb d_C_init_145 rfl (lv_at hl 1 rfl) ?_
        refine gF (v := .ref oq) hx hb hown hE hK hP 4 rfl rfl layC 0 (by decide) w1228 rfl d_C_init_146 ?_
        refine lv_aload_n hx hb d_C_init_149 rfl (lv_at hl 1 rfl) ?_
        refine gF (v := .ref tq) hx hb hown hE hK hP 4 rfl rfl layC 1 (by decide) w1229 rfl d_C_init_150 ?_
        refine lv_aload_n hx hb d_C_init_153 rfl (lv_at hl 1 rfl) ?_
        refine gF (v := .ref vq) hx hb hown hE hK hP 4 rfl rfl layC 2 (by decide) w1230 rfl d_C_init_154 ?_
        refine jkI (wr := []) (rnS (As := [.ref oq, .ref tq, .ref vq]) (rest := [.int (nI (64 * (cnt n (chB O)))), .ref pp]) hx hb hml hown hE hK (hN _ _ hS) hP hD (v_bitsOfChunks l D dA H.size ([(pq, .inl (dA 1, w + 1, .inl (fun z9 => nI (fp z9))))] ++ ([(vq, .inl (dA 2, n, .inr (.inl V)))] ++ ([(tq, .inl (dA 2, n, .inr (.inl T)))] ++ ([(oq, .inl (dA 1, n, .inl (fun z9 => nI (O z9))))] ++ ([(pp, .inr (12, [.ref oq, .ref tq, .ref vq, .int (nI n), .int (nI (cnt n (chB O))), .int 0, .int 0, .long 0]))] ++ (ws)))))) oq tq vq n O T V (List.mem_of_getElem? (i := 3) rfl) (List.mem_of_getElem? (i := 2) rfl) (List.mem_of_getElem? (i := 1) rfl) (show n ≤ 12000 from by omega) (fun i _ => l4 i)) w1239 w1238 w1240 w1213 rfl rfl ⟨⟨by decide, by decide⟩, rfl⟩ ⟨(Nat.le_of_ble_eq_true rfl), (Nat.le_of_ble_eq_true rfl)⟩ rfl hl.1 rfl (Nat.le_of_ble_eq_true rfl) d_C_init_157 ⟨(show 0 + 1 + 1 + 1 + 1 + 0 + 0 ≤ 4 by omega), (show 0 + n + n + n + (w + 1) + 0 + 0 ≤ 3 * n + w + 1 by omega)⟩) hP hD hS hA (fun r8 u9 H locs hp9 hP hD hS => ?_)
        have hP : va_P D vwCl ([(pq, .inl (dA 1, w + 1, .inl (fun z9 => nI (fp z9))))] ++ ([(vq, .inl (dA 2, n, .inr (.inl V)))] ++ ([(tq, .inl (dA 2, n, .inr (.inl T)))] ++ ([(oq, .inl (dA 1, n, .inl (fun z9 => nI (O z9))))] ++ ([(pp, .inr (12, [.ref oq, .ref tq, .ref vq, .int (nI n), .int (nI (cnt n (chB O))), .int 0, .int 0, .long 0]))] ++ (ws)))))) H := hP
        have hD : va_D A ([(pq, .inl (dA 1, w + 1, .inl (fun z9 => nI (fp z9))))] ++ ([(vq, .inl (dA 2, n, .inr (.inl V)))] ++ ([(tq, .inl (dA 2, n, .inr (.inl T)))] ++ ([(oq, .inl (dA 1, n, .inl (fun z9 => nI (O z9))))] ++ ([(pp, .inr (12, [.ref oq, .ref tq, .ref vq, .int (nI n), .int (nI (cnt n (chB O))), .int 0, .int 0, .long 0]))] ++ (ws)))))) := hD
        replace hp9 : nI (bcG O T V n).1 = r8 := Eq.symm hp9
        subst hp9
        refine lv_iadd hx hb d_C_init_160 (tpi (y := nI ((64 * (cnt n (chB O))) + ((bcG O T V n).1))) (nI_add (64 * (cnt n (chB O))) ((bcG O T V n).1)) ?_)
        refine pFF (v := .int (nI ((64 * (cnt n (chB O))) + ((bcG O T V n).1)))) hx hb hown hE hK hP hD hS 4 rfl rfl layC tyC tokC nmC 5 (by decide) w1241 rfl hin rfl rfl rfl (Nat.le_of_ble_eq_true rfl) d_C_init_161 (fun H locs hP hD hS => ?_)
        have hP : va_P D vwCl ([(pq, .inl (dA 1, w + 1, .inl (fun z9 => nI (fp z9))))] ++ ([(vq, .inl (dA 2, n, .inr (.inl V)))] ++ ([(tq, .inl (dA 2, n, .inr (.inl T)))] ++ ([(oq, .inl (dA 1, n, .inl (fun z9 => nI (O z9))))] ++ ([(pp, .inr (12, [.ref oq, .ref tq, .ref vq, .int (nI n), .int (nI (cnt n (chB O))), .int (nI ((64 * (cnt n (chB O))) + ((bcG O T V n).1))), .int 0, .long 0]))] ++ (ws)))))) H := hP
        have hD : va_D A ([(pq, .inl (dA 1, w + 1, .inl (fun z9 => nI (fp z9))))] ++ ([(vq, .inl (dA 2, n, .inr (.inl V)))] ++ ([(tq, .inl (dA 2, n, .inr (.inl T)))] ++ ([(oq, .inl (dA 1, n, .inl (fun z9 => nI (O z9))))] ++ ([(pp, .inr (12, [.ref oq, .ref tq, .ref vq, .int (nI n), .int (nI (cnt n (chB O))), .int (nI ((64 * (cnt n (chB O))) + ((bcG O T V n).1))), .int 0, .long 0]))] ++ (ws)))))) := hD
        have bb := (bcG_le O T V n).1
        have bc := cnt_le n (chB O)
        refine lv_aload_n hx hb d_C_init_164 rfl (lv_at hl 1 rfl) ?_
        refine lv_aload_n hx hb d_C_init_165 rfl (lv_at hl 1 rfl) ?_
        refine gF (v := .int (nI ((64 * (cnt n (chB O))) + ((bcG O T V n).1)))) hx hb hown hE hK hP 4 rfl rfl layC 5 (by decide) w1241 rfl d_C_init_166 ?_
        refine lv_sipush (v := 32256) hx hb d_C_init_169 (by decide) ?_
        refine lv_iadd hx hb d_C_init_172 (tpi (y := nI (((64 * (cnt n (chB O))) + ((bcG O T V n).1)) + 32256)) (nI_add ((64 * (cnt n (chB O))) + ((bcG O T V n).1)) (32256)) ?_)
        refine lv_iconst (v := 1) hx hb d_C_init_173 (by decide) ?_
        refine lv_isub hx hb d_C_init_174 (tpi (y := nI ((((64 * (cnt n (chB O))) + ((bcG O T V n).1)) + 32256) - 1)) (pk_sub (a := ((64 * (cnt n (chB O))) + ((bcG O T V n).1)) + 32256) (b := 1) (by omega)) ?_)
        refine lv_sipush (v := 32256) hx hb d_C_init_175 (by decide) ?_
        refine lv_idiv hx hb d_C_init_178 (by decide) (tpi (y := nI (((((64 * (cnt n (chB O))) + ((bcG O T V n).1)) + 32256) - 1) / 32256)) (pk_div (a := (((64 * (cnt n (chB O))) + ((bcG O T V n).1)) + 32256) - 1) (d := 32256) (by omega) (by omega) (by omega)) ?_)
        refine pFF (v := .int (nI (((((64 * (cnt n (chB O))) + ((bcG O T V n).1)) + 32256) - 1) / 32256))) hx hb hown hE hK hP hD hS 4 rfl rfl layC tyC tokC nmC 6 (by decide) w1242 rfl hin rfl rfl rfl (Nat.le_of_ble_eq_true rfl) d_C_init_179 (fun H locs hP hD hS => ?_)
        have hP : va_P D vwCl ([(pq, .inl (dA 1, w + 1, .inl (fun z9 => nI (fp z9))))] ++ ([(vq, .inl (dA 2, n, .inr (.inl V)))] ++ ([(tq, .inl (dA 2, n, .inr (.inl T)))] ++ ([(oq, .inl (dA 1, n, .inl (fun z9 => nI (O z9))))] ++ ([(pp, .inr (12, [.ref oq, .ref tq, .ref vq, .int (nI n), .int (nI (cnt n (chB O))), .int (nI ((64 * (cnt n (chB O))) + ((bcG O T V n).1))), .int (nI (((((64 * (cnt n (chB O))) + ((bcG O T V n).1)) + 32256) - 1) / 32256)), .long 0]))] ++ (ws)))))) H := hP
        have hD : va_D A ([(pq, .inl (dA 1, w + 1, .inl (fun z9 => nI (fp z9))))] ++ ([(vq, .inl (dA 2, n, .inr (.inl V)))] ++ ([(tq, .inl (dA 2, n, .inr (.inl T)))] ++ ([(oq, .inl (dA 1, n, .inl (fun z9 => nI (O z9))))] ++ ([(pp, .inr (12, [.ref oq, .ref tq, .ref vq, .int (nI n), .int (nI (cnt n (chB O))), .int (nI ((64 * (cnt n (chB O))) + ((bcG O T V n).1))), .int (nI (((((64 * (cnt n (chB O))) + ((bcG O T V n).1)) + 32256) - 1) / 32256)), .long 0]))] ++ (ws)))))) := hD
        refine lv_aload_n hx hb d_C_init_182 rfl (lv_at hl 1 rfl) ?_
        refine lv_aload_n hx hb d_C_init_183 rfl (lv_at hl 1 rfl) ?_
        refine gF (v := .ref tq) hx hb hown hE hK hP 4 rfl rfl layC 1 (by decide) w1229 rfl d_C_init_184 ?_
        refine jkL (wr := []) (rnS (As := [.ref tq]) (rest := [.ref pp]) hx hb hml hown hE hK (hN _ _ hS) hP hD (v_greatest l D dA H.size ([(pq, .inl (dA 1, w + 1, .inl (fun z9 => nI (fp z9))))] ++ ([(vq, .inl (dA 2, n, .inr (.inl V)))] ++ ([(tq, .inl (dA 2, n, .inr (.inl T)))] ++ ([(oq, .inl (dA 1, n, .inl (fun z9 => nI (O z9))))] ++ ([(pp, .inr (12, [.ref oq, .ref tq, .ref vq, .int (nI n), .int (nI (cnt n (chB O))), .int (nI ((64 * (cnt n (chB O))) + ((bcG O T V n).1))), .int (nI (((((64 * (cnt n (chB O))) + ((bcG O T V n).1)) + 32256) - 1) / 32256)), .long 0]))] ++ (ws)))))) tq n T (List.mem_of_getElem? (i := 2) rfl) (show n ≤ 12000 from by omega)) w1244 w1243 w1245 w1213 rfl rfl ⟨⟨by decide, by decide⟩, rfl⟩ ⟨(Nat.le_of_ble_eq_true rfl), (Nat.le_of_ble_eq_true rfl)⟩ rfl hl.1 rfl (Nat.le_of_ble_eq_true rfl) d_C_init_187 ⟨(show 0 + 1 + 1 + 1 + 1 + 0 + 0 + 0 ≤ 4 by omega), (show 0 + n + n + n + (w + 1) + 0 + 0 + 0 ≤ 3 * n + w + 1 by omega)⟩) hP hD hS hA (fun r10 u11 H locs hp9 hP hD hS => ?_)
        have hP : va_P D vwCl ([(pq, .inl (dA 1, w + 1, .inl (fun z9 => nI (fp z9))))] ++ ([(vq, .inl (dA 2, n, .inr (.inl V)))] ++ ([(tq, .inl (dA 2, n, .inr (.inl T)))] ++ ([(oq, .inl (dA 1, n, .inl (fun z9 => nI (O z9))))] ++ ([(pp, .inr (12, [.ref oq, .ref tq, .ref vq, .int (nI n), .int (nI (cnt n (chB O))), .int (nI ((64 * (cnt n (chB O))) + ((bcG O T V n).1))), .int (nI (((((64 * (cnt n (chB O))) + ((bcG O T V n).1)) + 32256) - 1) / 32256)), .long 0]))] ++ (ws)))))) H := hP
        have hD : va_D A ([(pq, .inl (dA 1, w + 1, .inl (fun z9 => nI (fp z9))))] ++ ([(vq, .inl (dA 2, n, .inr (.inl V)))] ++ ([(tq, .inl (dA 2, n, .inr (.inl T)))] ++ ([(oq, .inl (dA 1, n, .inl (fun z9 => nI (O z9))))] ++ ([(pp, .inr (12, [.ref oq, .ref tq, .ref vq, .int (nI n), .int (nI (cnt n (chB O))), .int (nI ((64 * (cnt n (chB O))) + ((bcG O T V n).1))), .int (nI (((((64 * (cnt n (chB O))) + ((bcG O T V n).1)) + 32256) - 1) / 32256)), .long 0]))] ++ (ws)))))) := hD
        replace hp9 : grG T n = r10 := Eq.symm hp9
        subst hp9
        refine pFF (v := .long (grG T n)) hx hb hown hE hK hP hD hS 4 rfl rfl layC tyC tokC nmC 7 (by decide) w1246 rfl hin rfl rfl rfl (Nat.le_of_ble_eq_true rfl) d_C_init_190 (fun H locs hP hD hS => ?_)
        have hP : va_P D vwCl ([(pq, .inl (dA 1, w + 1, .inl (fun z9 => nI (fp z9))))] ++ ([(vq, .inl (dA 2, n, .inr (.inl V)))] ++ ([(tq, .inl (dA 2, n, .inr (.inl T)))] ++ ([(oq, .inl (dA 1, n, .inl (fun z9 => nI (O z9))))] ++ ([(pp, .inr (12, [.ref oq, .ref tq, .ref vq, .int (nI n), .int (nI (cnt n (chB O))), .int (nI ((64 * (cnt n (chB O))) + ((bcG O T V n).1))), .int (nI (((((64 * (cnt n (chB O))) + ((bcG O T V n).1)) + 32256) - 1) / 32256)), .long (grG T n)]))] ++ (ws)))))) H := hP
        have hD : va_D A ([(pq, .inl (dA 1, w + 1, .inl (fun z9 => nI (fp z9))))] ++ ([(vq, .inl (dA 2, n, .inr (.inl V)))] ++ ([(tq, .inl (dA 2, n, .inr (.inl T)))] ++ ([(oq, .inl (dA 1, n, .inl (fun z9 => nI (O z9))))] ++ ([(pp, .inr (12, [.ref oq, .ref tq, .ref vq, .int (nI n), .int (nI (cnt n (chB O))), .int (nI ((64 * (cnt n (chB O))) + ((bcG O T V n).1))), .int (nI (((((64 * (cnt n (chB O))) + ((bcG O T V n).1)) + 32256) - 1) / 32256)), .long (grG T n)]))] ++ (ws)))))) := hD
        have hP := sbP (show List.Sublist (α := Nat × va_E) ([(vq, .inl (dA 2, n, .inr (.inl V)))] ++ ([(tq, .inl (dA 2, n, .inr (.inl T)))] ++ ([(oq, .inl (dA 1, n, .inl (fun z9 => nI (O z9))))] ++ ([(pp, .inr (12, [.ref oq, .ref tq, .ref vq, .int (nI n), .int (nI (cnt n (chB O))), .int (nI ((64 * (cnt n (chB O))) + ((bcG O T V n).1))), .int (nI (((((64 * (cnt n (chB O))) + ((bcG O T V n).1)) + 32256) - 1) / 32256)), .long (grG T n)]))] ++ (ws))))) ([(pq, .inl (dA 1, w + 1, .inl (fun z9 => nI (fp z9))))] ++ ([(vq, .inl (dA 2, n, .inr (.inl V)))] ++ ([(tq, .inl (dA 2, n, .inr (.inl T)))] ++ ([(oq, .inl (dA 1, n, .inl (fun z9 => nI (O z9))))] ++ ([(pp, .inr (12, [.ref oq, .ref tq, .ref vq, .int (nI n), .int (nI (cnt n (chB O))), .int (nI ((64 * (cnt n (chB O))) + ((bcG O T V n).1))), .int (nI (((((64 * (cnt n (chB O))) + ((bcG O T V n).1)) + 32256) - 1) / 32256)), .long (grG T n)]))] ++ (ws)))))) from List.sublist_append_of_sublist_right (List.Sublist.append (List.Sublist.refl _) (List.Sublist.append (List.Sublist.refl _) (List.Sublist.append (List.Sublist.refl _) (List.Sublist.append (List.Sublist.refl _) (List.Sublist.refl _)))))) hP
        have hD := sbD (show List.Sublist (α := Nat × va_E) ([(vq, .inl (dA 2, n, .inr (.inl V)))] ++ ([(tq, .inl (dA 2, n, .inr (.inl T)))] ++ ([(oq, .inl (dA 1, n, .inl (fun z9 => nI (O z9))))] ++ ([(pp, .inr (12, [.ref oq, .ref tq, .ref vq, .int (nI n), .int (nI (cnt n (chB O))), .int (nI ((64 * (cnt n (chB O))) + ((bcG O T V n).1))), .int (nI (((((64 * (cnt n (chB O))) + ((bcG O T V n).1)) + 32256) - 1) / 32256)), .long (grG T n)]))] ++ (ws))))) ([(pq, .inl (dA 1, w + 1, .inl (fun z9 => nI (fp z9))))] ++ ([(vq, .inl (dA 2, n, .inr (.inl V)))] ++ ([(tq, .inl (dA 2, n, .inr (.inl T)))] ++ ([(oq, .inl (dA 1, n, .inl (fun z9 => nI (O z9))))] ++ ([(pp, .inr (12, [.ref oq, .ref tq, .ref vq, .int (nI n), .int (nI (cnt n (chB O))), .int (nI ((64 * (cnt n (chB O))) + ((bcG O T V n).1))), .int (nI (((((64 * (cnt n (chB O))) + ((bcG O T V n).1)) + 32256) - 1) / 32256)), .long (grG T n)]))] ++ (ws)))))) from List.sublist_append_of_sublist_right (List.Sublist.append (List.Sublist.refl _) (List.Sublist.append (List.Sublist.refl _) (List.Sublist.append (List.Sublist.refl _) (List.Sublist.append (List.Sublist.refl _) (List.Sublist.refl _)))))) hD
        have hP := pmP (show List.Perm (α := Nat × va_E) ([(vq, .inl (dA 2, n, .inr (.inl V)))] ++ ([(tq, .inl (dA 2, n, .inr (.inl T)))] ++ ([(oq, .inl (dA 1, n, .inl (fun z9 => nI (O z9))))] ++ ([(pp, .inr (12, [.ref oq, .ref tq, .ref vq, .int (nI n), .int (nI (cnt n (chB O))), .int (nI ((64 * (cnt n (chB O))) + ((bcG O T V n).1))), .int (nI (((((64 * (cnt n (chB O))) + ((bcG O T V n).1)) + 32256) - 1) / 32256)), .long (grG T n)]))] ++ (ws))))) ([(oq, .inl (dA 1, n, .inl (fun z9 => nI (O z9))))] ++ ([(vq, .inl (dA 2, n, .inr (.inl V)))] ++ ([(tq, .inl (dA 2, n, .inr (.inl T)))] ++ ([(pp, .inr (12, [.ref oq, .ref tq, .ref vq, .int (nI n), .int (nI (cnt n (chB O))), .int (nI ((64 * (cnt n (chB O))) + ((bcG O T V n).1))), .int (nI (((((64 * (cnt n (chB O))) + ((bcG O T V n).1)) + 32256) - 1) / 32256)), .long (grG T n)]))] ++ (ws))))) from (List.Perm.append_left ([(vq, .inl (dA 2, n, .inr (.inl V)))]) (List.perm_append_comm_assoc ([(tq, .inl (dA 2, n, .inr (.inl T)))]) ([(oq, .inl (dA 1, n, .inl (fun z9 => nI (O z9))))]) ([(pp, .inr (12, [.ref oq, .ref tq, .ref vq, .int (nI n), .int (nI (cnt n (chB O))), .int (nI ((64 * (cnt n (chB O))) + ((bcG O T V n).1))), .int (nI (((((64 * (cnt n (chB O))) + ((bcG O T V n).1)) + 32256) - 1) / 32256)), .long (grG T n)]))] ++ (ws)))).trans (List.perm_append_comm_assoc ([(vq, .inl (dA 2, n, .inr (.inl V)))]) ([(oq, .inl (dA 1, n, .inl (fun z9 => nI (O z9))))]) ([(tq, .inl (dA 2, n, .inr (.inl T)))] ++ ([(pp, .inr (12, [.ref oq, .ref tq, .ref vq, .int (nI n), .int (nI (cnt n (chB O))), .int (nI ((64 * (cnt n (chB O))) + ((bcG O T V n).1))), .int (nI (((((64 * (cnt n (chB O))) + ((bcG O T V n).1)) + 32256) - 1) / 32256)), .long (grG T n)]))] ++ (ws))))) hP
        have hD := pmD (show List.Perm (α := Nat × va_E) ([(vq, .inl (dA 2, n, .inr (.inl V)))] ++ ([(tq, .inl (dA 2, n, .inr (.inl T)))] ++ ([(oq, .inl (dA 1, n, .inl (fun z9 => nI (O z9))))] ++ ([(pp, .inr (12, [.ref oq, .ref tq, .ref vq, .int (nI n), .int (nI (cnt n (chB O))), .int (nI ((64 * (cnt n (chB O))) + ((bcG O T V n).1))), .int (nI (((((64 * (cnt n (chB O))) + ((bcG O T V n).1)) + 32256) - 1) / 32256)), .long (grG T n)]))] ++ (ws))))) ([(oq, .inl (dA 1, n, .inl (fun z9 => nI (O z9))))] ++ ([(vq, .inl (dA 2, n, .inr (.inl V)))] ++ ([(tq, .inl (dA 2, n, .inr (.inl T)))] ++ ([(pp, .inr (12, [.ref oq, .ref tq, .ref vq, .int (nI n), .int (nI (cnt n (chB O))), .int (nI ((64 * (cnt n (chB O))) + ((bcG O T V n).1))), .int (nI (((((64 * (cnt n (chB O))) + ((bcG O T V n).1)) + 32256) - 1) / 32256)), .long (grG T n)]))] ++ (ws))))) from (List.Perm.append_left ([(vq, .inl (dA 2, n, .inr (.inl V)))]) (List.perm_append_comm_assoc ([(tq, .inl (dA 2, n, .inr (.inl T)))]) ([(oq, .inl (dA 1, n, .inl (fun z9 => nI (O z9))))]) ([(pp, .inr (12, [.ref oq, .ref tq, .ref vq, .int (nI n), .int (nI (cnt n (chB O))), .int (nI ((64 * (cnt n (chB O))) + ((bcG O T V n).1))), .int (nI (((((64 * (cnt n (chB O))) + ((bcG O T V n).1)) + 32256) - 1) / 32256)), .long (grG T n)]))] ++ (ws)))).trans (List.perm_append_comm_assoc ([(vq, .inl (dA 2, n, .inr (.inl V)))]) ([(oq, .inl (dA 1, n, .inl (fun z9 => nI (O z9))))]) ([(tq, .inl (dA 2, n, .inr (.inl T)))] ++ ([(pp, .inr (12, [.ref oq, .ref tq, .ref vq, .int (nI n), .int (nI (cnt n (chB O))), .int (nI ((64 * (cnt n (chB O))) + ((bcG O T V n).1))), .int (nI (((((64 * (cnt n (chB O))) + ((bcG O T V n).1)) + 32256) - 1) / 32256)), .long (grG T n)]))] ++ (ws))))) hD
        have hP := pmP (show List.Perm (α := Nat × va_E) ([(oq, .inl (dA 1, n, .inl (fun z9 => nI (O z9))))] ++ ([(vq, .inl (dA 2, n, .inr (.inl V)))] ++ ([(tq, .inl (dA 2, n, .inr (.inl T)))] ++ ([(pp, .inr (12, [.ref oq, .ref tq, .ref vq, .int (nI n), .int (nI (cnt n (chB O))), .int (nI ((64 * (cnt n (chB O))) + ((bcG O T V n).1))), .int (nI (((((64 * (cnt n (chB O))) + ((bcG O T V n).1)) + 32256) - 1) / 32256)), .long (grG T n)]))] ++ (ws))))) ([(oq, .inl (dA 1, n, .inl (fun z9 => nI (O z9))))] ++ ([(tq, .inl (dA 2, n, .inr (.inl T)))] ++ ([(vq, .inl (dA 2, n, .inr (.inl V)))] ++ ([(pp, .inr (12, [.ref oq, .ref tq, .ref vq, .int (nI n), .int (nI (cnt n (chB O))), .int (nI ((64 * (cnt n (chB O))) + ((bcG O T V n).1))), .int (nI (((((64 * (cnt n (chB O))) + ((bcG O T V n).1)) + 32256) - 1) / 32256)), .long (grG T n)]))] ++ (ws))))) from List.Perm.append_left ([(oq, .inl (dA 1, n, .inl (fun z9 => nI (O z9))))]) (List.perm_append_comm_assoc ([(vq, .inl (dA 2, n, .inr (.inl V)))]) ([(tq, .inl (dA 2, n, .inr (.inl T)))]) ([(pp, .inr (12, [.ref oq, .ref tq, .ref vq, .int (nI n), .int (nI (cnt n (chB O))), .int (nI ((64 * (cnt n (chB O))) + ((bcG O T V n).1))), .int (nI (((((64 * (cnt n (chB O))) + ((bcG O T V n).1)) + 32256) - 1) / 32256)), .long (grG T n)]))] ++ (ws)))) hP
        have hD := pmD (show List.Perm (α := Nat × va_E) ([(oq, .inl (dA 1, n, .inl (fun z9 => nI (O z9))))] ++ ([(vq, .inl (dA 2, n, .inr (.inl V)))] ++ ([(tq, .inl (dA 2, n, .inr (.inl T)))] ++ ([(pp, .inr (12, [.ref oq, .ref tq, .ref vq, .int (nI n), .int (nI (cnt n (chB O))), .int (nI ((64 * (cnt n (chB O))) + ((bcG O T V n).1))), .int (nI (((((64 * (cnt n (chB O))) + ((bcG O T V n).1)) + 32256) - 1) / 32256)), .long (grG T n)]))] ++ (ws))))) ([(oq, .inl (dA 1, n, .inl (fun z9 => nI (O z9))))] ++ ([(tq, .inl (dA 2, n, .inr (.inl T)))] ++ ([(vq, .inl (dA 2, n, .inr (.inl V)))] ++ ([(pp, .inr (12, [.ref oq, .ref tq, .ref vq, .int (nI n), .int (nI (cnt n (chB O))), .int (nI ((64 * (cnt n (chB O))) + ((bcG O T V n).1))), .int (nI (((((64 * (cnt n (chB O))) + ((bcG O T V n).1)) + 32256) - 1) / 32256)), .long (grG T n)]))] ++ (ws))))) from List.Perm.append_left ([(oq, .inl (dA 1, n, .inl (fun z9 => nI (O z9))))]) (List.perm_append_comm_assoc ([(vq, .inl (dA 2, n, .inr (.inl V)))]) ([(tq, .inl (dA 2, n, .inr (.inl T)))]) ([(pp, .inr (12, [.ref oq, .ref tq, .ref vq, .int (nI n), .int (nI (cnt n (chB O))), .int (nI ((64 * (cnt n (chB O))) + ((bcG O T V n).1))), .int (nI (((((64 * (cnt n (chB O))) + ((bcG O T V n).1)) + 32256) - 1) / 32256)), .long (grG T n)]))] ++ (ws)))) hD
        exact rfV hx hb hr hlk hS (⟨oq, tq, vq, O, T, V⟩) (by rw [show i = n by omega] at l1 l2 l3; exact ⟨l1, l2, l3, l4⟩) hP hD (show 0 + 1 + 1 + 1 + 1 + 0 + 0 + 0 ≤ 4 by omega) (show 0 + n + n + n + (w + 1) + 0 + 0 + 0 ≤ 3 * n + w + 1 by omega) d_C_init_193
      · have g5 := mt (nI_leI (a := n) (b := i) (by omega) (by omega)).mpr g5
        have c7 := ho i (by omega)
        have cp : fp (o i) = posN o n i := hpl (o i) (by omega)
        have cq : fp (o i) < n := by rw [cp]; exact posN_n (by omega)
        refine lv_aload_n hx hb d_C_init_60 rfl (lv_at hl 2 rfl) ?_
        obtain ⟨qp12, ep13⟩ := List.getElem?_of_mem (show ((pa, .inr (2, [.ref oa, .ref ta, .ref va, .int (nI n)])) : Nat × va_E) ∈ [(pq, .inl (dA 1, w + 1, .inl (fun z9 => nI (fp z9))))] ++ ([(vq, .inl (dA 2, n, .inr (.inl V)))] ++ ([(tq, .inl (dA 2, n, .inr (.inl T)))] ++ ([(oq, .inl (dA 1, n, .inl (fun z9 => nI (O z9))))] ++ ([(pp, .inr (12, [.ref oq, .ref tq, .ref vq, .int (nI n), .int 0, .int 0, .int 0, .long 0]))] ++ (ws))))) from (List.mem_append_right _ (List.mem_append_right _ (List.mem_append_right _ (List.mem_append_right _ (List.mem_append_right _ m1))))))
        refine gFN (v := .ref oa) hx hb hown hE hK hP qp12 ep13 rfl layP 0 (by decide) w1225 rfl d_C_init_61 ?_
        refine lv_iload hx hb d_C_init_64 (lv_at hl 0 rfl) ?_
        obtain ⟨qp14, ep15⟩ := List.getElem?_of_mem (show ((oa, .inl (dA 1, N, .inl (fun z9 => nI (o z9)))) : Nat × va_E) ∈ [(pq, .inl (dA 1, w + 1, .inl (fun z9 => nI (fp z9))))] ++ ([(vq, .inl (dA 2, n, .inr (.inl V)))] ++ ([(tq, .inl (dA 2, n, .inr (.inl T)))] ++ ([(oq, .inl (dA 1, n, .inl (fun z9 => nI (O z9))))] ++ ([(pp, .inr (12, [.ref oq, .ref tq, .ref vq, .int (nI n), .int 0, .int 0, .int 0, .long 0]))] ++ (ws))))) from (List.mem_append_right _ (List.mem_append_right _ (List.mem_append_right _ (List.mem_append_right _ (List.mem_append_right _ m2))))))
        refine nild (f := (fun z9 => nI (o z9))) (n := N) hx hb hK hP (qp14) 1 ep15 rfl (i) (by omega) (by omega) d_C_init_66 ?_
        refine lv_istore hx hb d_C_init_67 hl (by decide) rfl (fun ls hl => ?_)
        have hl : lv_has ls 7 [(5, .int (nI (o i))), (4, .int (nI i)), (0, .ref pp), (1, .ref pa), (2, .int (nI w)), (3, .ref pq)] := hl
        refine lv_aload_n hx hb d_C_init_69 rfl (lv_at hl 5 rfl) ?_
        refine lv_iload hx hb d_C_init_70 (lv_at hl 0 rfl) ?_
        refine nild (f := (fun z9 => nI (fp z9))) (n := w + 1) hx hb hK hP (0) 1 rfl rfl (o i) (by omega) (by omega) d_C_init_72 ?_
        refine lv_istore hx hb d_C_init_73 hl (by decide) rfl (fun ls hl => ?_)
        have hl : lv_has ls 7 [(6, .int (nI (fp (o i)))), (5, .int (nI (o i))), (4, .int (nI i)), (0, .ref pp), (1, .ref pa), (2, .int (nI w)), (3, .ref pq)] := hl
        refine lv_aload_n hx hb d_C_init_75 rfl (lv_at hl 3 rfl) ?_
        refine gF (v := .ref oq) hx hb hown hE hK hP 4 rfl rfl layC 0 (by decide) w1228 rfl d_C_init_76 ?_
        refine lv_iload hx hb d_C_init_79 (lv_at hl 0 rfl) ?_
        refine lv_iload hx hb d_C_init_81 (lv_at hl 1 rfl) ?_
        refine nistN (v := o i) (n := n) hx hb hK hP hD hS (3) 1 rfl rfl (fp (o i)) (by omega) (by omega) d_C_init_83 (fun H locs hP hD hS => ?_)
        have hP : va_P D vwCl ([(pq, .inl (dA 1, w + 1, .inl (fun z9 => nI (fp z9))))] ++ ([(vq, .inl (dA 2, n, .inr (.inl V)))] ++ ([(tq, .inl (dA 2, n, .inr (.inl T)))] ++ ([(oq, .inl (dA 1, n, .inl (fun z9 => nI ((va_up O (fp (o i)) (o i)) z9))))] ++ ([(pp, .inr (12, [.ref oq, .ref tq, .ref vq, .int (nI n), .int 0, .int 0, .int 0, .long 0]))] ++ (ws)))))) H := hP
        have hD : va_D A ([(pq, .inl (dA 1, w + 1, .inl (fun z9 => nI (fp z9))))] ++ ([(vq, .inl (dA 2, n, .inr (.inl V)))] ++ ([(tq, .inl (dA 2, n, .inr (.inl T)))] ++ ([(oq, .inl (dA 1, n, .inl (fun z9 => nI ((va_up O (fp (o i)) (o i)) z9))))] ++ ([(pp, .inr (12, [.ref oq, .ref tq, .ref vq, .int (nI n), .int 0, .int 0, .int 0, .long 0]))] ++ (ws)))))) := hD
        refine lv_aload_n hx hb d_C_init_84 rfl (lv_at hl 3 rfl) ?_
        refine gF (v := .ref tq) hx hb hown hE hK hP 4 rfl rfl layC 1 (by decide) w1229 rfl d_C_init_85 ?_
        refine lv_iload hx hb d_C_init_88 (lv_at hl 0 rfl) ?_
        refine lv_aload_n hx hb d_C_init_90 rfl (lv_at hl 4 rfl) ?_
        obtain ⟨qp16, ep17⟩ := List.getElem?_of_mem (show ((pa, .inr (2, [.ref oa, .ref ta, .ref va, .int (nI n)])) : Nat × va_E) ∈ [(pq, .inl (dA 1, w + 1, .inl (fun z9 => nI (fp z9))))] ++ ([(vq, .inl (dA 2, n, .inr (.inl V)))] ++ ([(tq, .inl (dA 2, n, .inr (.inl T)))] ++ ([(oq, .inl (dA 1, n, .inl (fun z9 => nI ((va_up O (fp (o i)) (o i)) z9))))] ++ ([(pp, .inr (12, [.ref oq, .ref tq, .ref vq, .int (nI n), .int 0, .int 0, .int 0, .long 0]))] ++ (ws))))) from (List.mem_append_right _ (List.mem_append_right _ (List.mem_append_right _ (List.mem_append_right _ (List.mem_append_right _ m1))))))
        refine gFN (v := .ref ta) hx hb hown hE hK hP qp16 ep17 rfl layP 1 (by decide) w1247 rfl d_C_init_91 ?_
        refine lv_iload hx hb d_C_init_94 (lv_at hl 2 rfl) ?_
        obtain ⟨qp18, ep19⟩ := List.getElem?_of_mem (show ((ta, .inl (dA 2, N, .inr (.inl t))) : Nat × va_E) ∈ [(pq, .inl (dA 1, w + 1, .inl (fun z9 => nI (fp z9))))] ++ ([(vq, .inl (dA 2, n, .inr (.inl V)))] ++ ([(tq, .inl (dA 2, n, .inr (.inl T)))] ++ ([(oq, .inl (dA 1, n, .inl (fun z9 => nI ((va_up O (fp (o i)) (o i)) z9))))] ++ ([(pp, .inr (12, [.ref oq, .ref tq, .ref vq, .int (nI n), .int 0, .int 0, .int 0, .long 0]))] ++ (ws))))) from (List.mem_append_right _ (List.mem_append_right _ (List.mem_append_right _ (List.mem_append_right _ (List.mem_append_right _ m3))))))
        refine nlld (f := t) (n := N) hx hb hK hP (qp18) 2 ep19 rfl (i) (by omega) (by omega) d_C_init_96 ?_
        refine nlst (n := n) hx hb hK hP hD hS (2) 2 rfl rfl (fp (o i)) (by omega) (by omega) d_C_init_97 (fun H locs hP hD hS => ?_)
        have hP : va_P D vwCl ([(pq, .inl (dA 1, w + 1, .inl (fun z9 => nI (fp z9))))] ++ ([(vq, .inl (dA 2, n, .inr (.inl V)))] ++ ([(tq, .inl (dA 2, n, .inr (.inl (va_up T (fp (o i)) (t i)))))] ++ ([(oq, .inl (dA 1, n, .inl (fun z9 => nI ((va_up O (fp (o i)) (o i)) z9))))] ++ ([(pp, .inr (12, [.ref oq, .ref tq, .ref vq, .int (nI n), .int 0, .int 0, .int 0, .long 0]))] ++ (ws)))))) H := hP
        have hD : va_D A ([(pq, .inl (dA 1, w + 1, .inl (fun z9 => nI (fp z9))))] ++ ([(vq, .inl (dA 2, n, .inr (.inl V)))] ++ ([(tq, .inl (dA 2, n, .inr (.inl (va_up T (fp (o i)) (t i)))))] ++ ([(oq, .inl (dA 1, n, .inl (fun z9 => nI ((va_up O (fp (o i)) (o i)) z9))))] ++ ([(pp, .inr (12, [.ref oq, .ref tq, .ref vq, .int (nI n), .int 0, .int 0, .int 0, .long 0]))] ++ (ws)))))) := hD
        refine lv_aload_n hx hb d_C_init_98 rfl (lv_at hl 3 rfl) ?_
        refine gF (v := .ref vq) hx hb hown hE hK hP 4 rfl rfl layC 2 (by decide) w1230 rfl d_C_init_99 ?_
        refine lv_iload hx hb d_C_init_102 (lv_at hl 0 rfl) ?_
        refine lv_aload_n hx hb d_C_init_104 rfl (lv_at hl 4 rfl) ?_
        obtain ⟨qp20, ep21⟩ := List.getElem?_of_mem (show ((pa, .inr (2, [.ref oa, .ref ta, .ref va, .int (nI n)])) : Nat × va_E) ∈ [(pq, .inl (dA 1, w + 1, .inl (fun z9 => nI (fp z9))))] ++ ([(vq, .inl (dA 2, n, .inr (.inl V)))] ++ ([(tq, .inl (dA 2, n, .inr (.inl (va_up T (fp (o i)) (t i)))))] ++ ([(oq, .inl (dA 1, n, .inl (fun z9 => nI ((va_up O (fp (o i)) (o i)) z9))))] ++ ([(pp, .inr (12, [.ref oq, .ref tq, .ref vq, .int (nI n), .int 0, .int 0, .int 0, .long 0]))] ++ (ws))))) from (List.mem_append_right _ (List.mem_append_right _ (List.mem_append_right _ (List.mem_append_right _ (List.mem_append_right _ m1))))))
        refine gFN (v := .ref va) hx hb hown hE hK hP qp20 ep21 rfl layP 2 (by decide) w1248 rfl d_C_init_105 ?_
        refine lv_iload hx hb d_C_init_108 (lv_at hl 2 rfl) ?_
        obtain ⟨qp22, ep23⟩ := List.getElem?_of_mem (show ((va, .inl (dA 2, N, .inr (.inl v))) : Nat × va_E) ∈ [(pq, .inl (dA 1, w + 1, .inl (fun z9 => nI (fp z9))))] ++ ([(vq, .inl (dA 2, n, .inr (.inl V)))] ++ ([(tq, .inl (dA 2, n, .inr (.inl (va_up T (fp (o i)) (t i)))))] ++ ([(oq, .inl (dA 1, n, .inl (fun z9 => nI ((va_up O (fp (o i)) (o i)) z9))))] ++ ([(pp, .inr (12, [.ref oq, .ref tq, .ref vq, .int (nI n), .int 0, .int 0, .int 0, .long 0]))] ++ (ws))))) from (List.mem_append_right _ (List.mem_append_right _ (List.mem_append_right _ (List.mem_append_right _ (List.mem_append_right _ m4))))))
        refine nlld (f := v) (n := N) hx hb hK hP (qp22) 2 ep23 rfl (i) (by omega) (by omega) d_C_init_110 ?_
        refine nlst (n := n) hx hb hK hP hD hS (1) 2 rfl rfl (fp (o i)) (by omega) (by omega) d_C_init_111 (fun H locs hP hD hS => ?_)
        have hP : va_P D vwCl ([(pq, .inl (dA 1, w + 1, .inl (fun z9 => nI (fp z9))))] ++ ([(vq, .inl (dA 2, n, .inr (.inl (va_up V (fp (o i)) (v i)))))] ++ ([(tq, .inl (dA 2, n, .inr (.inl (va_up T (fp (o i)) (t i)))))] ++ ([(oq, .inl (dA 1, n, .inl (fun z9 => nI ((va_up O (fp (o i)) (o i)) z9))))] ++ ([(pp, .inr (12, [.ref oq, .ref tq, .ref vq, .int (nI n), .int 0, .int 0, .int 0, .long 0]))] ++ (ws)))))) H := hP
        have hD : va_D A ([(pq, .inl (dA 1, w + 1, .inl (fun z9 => nI (fp z9))))] ++ ([(vq, .inl (dA 2, n, .inr (.inl (va_up V (fp (o i)) (v i)))))] ++ ([(tq, .inl (dA 2, n, .inr (.inl (va_up T (fp (o i)) (t i)))))] ++ ([(oq, .inl (dA 1, n, .inl (fun z9 => nI ((va_up O (fp (o i)) (o i)) z9))))] ++ ([(pp, .inr (12, [.ref oq, .ref tq, .ref vq, .int (nI n), .int 0, .int 0, .int 0, .long 0]))] ++ (ws)))))) := hD
        refine lv_aload_n hx hb d_C_init_112 rfl (lv_at hl 6 rfl) ?_
        refine lv_iload hx hb d_C_init_113 (lv_at hl 1 rfl) ?_
        refine lv_dup2_11 hx hb d_C_init_115 rfl rfl ?_
        refine nild (f := (fun z9 => nI (fp z9))) (n := w + 1) hx hb hK hP (0) 1 rfl rfl (o i) (by omega) (by omega) d_C_init_116 ?_
        refine lv_iconst (v := 1) hx hb d_C_init_117 (by decide) ?_
        refine lv_iadd hx hb d_C_init_118 (tpi (y := nI ((fp (o i)) + 1)) (nI_add (fp (o i)) (1)) ?_)
        refine nistN (v := (fp (o i)) + 1) (n := w + 1) hx hb hK hP hD hS (0) 1 rfl rfl (o i) (by omega) (by omega) d_C_init_119 (fun H locs hP hD hS => ?_)
        have hP : va_P D vwCl ([(pq, .inl (dA 1, w + 1, .inl (fun z9 => nI ((va_up fp (o i) ((fp (o i)) + 1)) z9))))] ++ ([(vq, .inl (dA 2, n, .inr (.inl (va_up V (fp (o i)) (v i)))))] ++ ([(tq, .inl (dA 2, n, .inr (.inl (va_up T (fp (o i)) (t i)))))] ++ ([(oq, .inl (dA 1, n, .inl (fun z9 => nI ((va_up O (fp (o i)) (o i)) z9))))] ++ ([(pp, .inr (12, [.ref oq, .ref tq, .ref vq, .int (nI n), .int 0, .int 0, .int 0, .long 0]))] ++ (ws)))))) H := hP
        have hD : va_D A ([(pq, .inl (dA 1, w + 1, .inl (fun z9 => nI ((va_up fp (o i) ((fp (o i)) + 1)) z9))))] ++ ([(vq, .inl (dA 2, n, .inr (.inl (va_up V (fp (o i)) (v i)))))] ++ ([(tq, .inl (dA 2, n, .inr (.inl (va_up T (fp (o i)) (t i)))))] ++ ([(oq, .inl (dA 1, n, .inl (fun z9 => nI ((va_up O (fp (o i)) (o i)) z9))))] ++ ([(pp, .inr (12, [.ref oq, .ref tq, .ref vq, .int (nI n), .int 0, .int 0, .int 0, .long 0]))] ++ (ws)))))) := hD
        refine lv_iinc (k := 2) (v := nI (i + 1)) hx hb d_C_init_120 hl rfl (iincN (i) 1 1 (by decide)) (by decide) rfl (fun ls hl => ?_)
        have hl : lv_has ls 7 [(4, .int (nI (i + 1))), (6, .int (nI (fp (o i)))), (5, .int (nI (o i))), (0, .ref pp), (1, .ref pa), (2, .int (nI w)), (3, .ref pq)] := hl
        refine lv_goto hx hb d_C_init_123 (tgt := 51) rfl ?_
        exact ih51 _ (by omega) (i + 1) (va_up fp (o i) ((fp (o i)) + 1)) (va_up V (fp (o i)) (v i)) (va_up T (fp (o i)) (t i)) (va_up O (fp (o i)) (o i)) (by omega) (plcs_s hpl (by omega)) (laid_s (by omega) l1 cp rfl) (laid_s (by omega) l2 cp rfl) (laid_s (by omega) l3 cp rfl) (upA (P := fun z => z < 256) l4 (by omega)) rfl H _ ls hP hD hS (lv_sub hl [0, 3, 4, 5, 6] rfl)
  exact L51 _ 0 fp0 (fun _ => 0) (fun _ => 0) (fun _ => 0) (Nat.zero_le _) (fun s hs => f_hf_4 s (by omega)) (fun j hj => absurd hj (Nat.not_lt_zero j)) (fun j hj => absurd hj (Nat.not_lt_zero j)) (fun j hj => absurd hj (Nat.not_lt_zero j)) (fun _ => by decide) rfl H _ ls hP hD hS (lv_sub hl [0, 2, 3, 4, 1] rfl)
theorem d_V_blocksOf_0 : decode prog_1_method_38_code 0 = .ok (.aload_n 0, 1) := by decide +kernel
theorem d_V_blocksOf_1 : decode prog_1_method_38_code 1 = .ok (.ifnonnull 7, 3) := by decide +kernel
theorem d_V_blocksOf_4 : decode prog_1_method_38_code 4 = .ok (.iconst 0, 1) := by decide +kernel
theorem d_V_blocksOf_5 : decode prog_1_method_38_code 5 = .ok (.goto 7, 3) := by decide +kernel
theorem d_V_blocksOf_12 : decode prog_1_method_38_code 12 = .ok (.ireturn, 1) := by decide +kernel
set_option maxHeartbeats 4000000 in
set_option maxRecDepth 100000 in
theorem v_blocksOf_0 (l : Launch) (D : va_G) (dA : Nat → ClassId) (sz : Nat) : Met l ⟨"SeriesVault", "blocksOf", "(LSeriesVault$Parcel;)I"⟩ [Cond.code ⟨"SeriesVault", "blocksOf", "(LSeriesVault$Parcel;)I"⟩ prog_1_method_38_code 1 (some FieldType.int)] { frames := 1, cells := 0, slots := 0, locals := 0 } (pC D dA [.null] ([]) sz) (va_Qi (fun (r9 : Int32) (u9 : Unit) => r9 = 0) (fun (u9 : Unit) t9 => bW D (va_A ([]) sz) ([]) t9) (va_A ([]) sz)) 0 0 (va_A ([]) sz) := by
  refine mkC (y := ⟨"SeriesVault", "blocksOf", "(LSeriesVault$Parcel;)I"⟩) (cc := prog_1_method_38_code) (maxL := 1) (av := [.null]) (ws := []) (sz := sz) (Qc := fun A => va_Qi (fun (r9 : Int32) (u9 : Unit) => r9 = 0) (fun (u9 : Unit) t9 => bW D A ([]) t9) A) (by decide) (Nat.le_of_ble_eq_true rfl) ?_
  intro A p e s m below meth c ls hsz hB
  obtain ⟨hx, hb, hr, hml, hown, hin, hlk, hE, hK, hP, hD, hS, hA, hN, hl⟩ := hB
  have hown : s.vm.findClass "SeriesVault" = some m.cls := hown
  have hl : lv_has ls 1 [(0, .null)] := hl
  obtain ⟨H, hH⟩ : ∃ z, z = s.heap := ⟨_, rfl⟩
  have hP : va_P D vwCl ([]) H := by rw [hH]; exact hP
  have hS : va_S A s.heap H [] := by rw [hH]; exact hS
  rw [← hH]
  refine lv_aload_nN hx hb d_V_blocksOf_0 rfl (lv_at hl 0 rfl) ?_
  refine lv_ifnonnullN hx hb d_V_blocksOf_1 ?_
  refine lv_iconst (v := 0) hx hb d_V_blocksOf_4 (by decide) ?_
  refine lv_goto hx hb d_V_blocksOf_5 (tgt := 12) rfl ?_
  exact rfI hx hb hr hlk hS () rfl hP hD (Nat.le_of_ble_eq_true rfl) (Nat.le_of_ble_eq_true rfl) d_V_blocksOf_12
theorem d_V_blocksOf_8 : decode prog_1_method_38_code 8 = .ok (.aload_n 0, 1) := by decide +kernel
theorem d_V_blocksOf_9 : decode prog_1_method_38_code 9 = .ok (.getfield 326, 3) := by decide +kernel
theorem w1249 : Cond.fieldLinkNest "SeriesVault" 326 "SeriesVault$Parcel" "blocks" "I" "SeriesVault" ∈ aW := aw_of (tb_6 (List.mem_of_getElem? (i := 63) rfl)) rfl
set_option maxHeartbeats 4000000 in
set_option maxRecDepth 100000 in
theorem v_blocksOf (l : Launch) (D : va_G) (dA : Nat → ClassId) (sz : Nat) (ws : va_W) (pp : Nat) (P : PT) (hpp : isPc dA ws pp P) : Met l ⟨"SeriesVault", "blocksOf", "(LSeriesVault$Parcel;)I"⟩ [Cond.code ⟨"SeriesVault", "blocksOf", "(LSeriesVault$Parcel;)I"⟩ prog_1_method_38_code 1 (some FieldType.int)] { frames := 1, cells := 0, slots := 0, locals := 0 } (pC D dA [.ref pp] (ws) sz) (va_Qi (fun (r9 : Int32) (u9 : Unit) => r9 = nI P.bl) (fun (u9 : Unit) t9 => bW D (va_A (ws) sz) (ws) t9) (va_A (ws) sz)) 0 0 (va_A (ws) sz) := by
  refine mkC (y := ⟨"SeriesVault", "blocksOf", "(LSeriesVault$Parcel;)I"⟩) (cc := prog_1_method_38_code) (maxL := 1) (av := [.ref pp]) (ws := ws) (sz := sz) (Qc := fun A => va_Qi (fun (r9 : Int32) (u9 : Unit) => r9 = nI P.bl) (fun (u9 : Unit) t9 => bW D A (ws) t9) A) (by decide) (Nat.le_of_ble_eq_true rfl) ?_
  intro A p e s m below meth c ls hsz hB
  obtain ⟨hx, hb, hr, hml, hown, hin, hlk, hE, hK, hP, hD, hS, hA, hN, hl⟩ := hB
  have hown : s.vm.findClass "SeriesVault" = some m.cls := hown
  have hl : lv_has ls 1 [(0, .ref pp)] := hl
  obtain ⟨H, hH⟩ : ∃ z, z = s.heap := ⟨_, rfl⟩
  have hP : va_P D vwCl (ws) H := by rw [hH]; exact hP
  have hS : va_S A s.heap H [] := by rw [hH]; exact hS
  rw [← hH]
  obtain ⟨po, pt, pv, m1, m2, m3, m4⟩ := hpp
  refine lv_aload_n hx hb d_V_blocksOf_0 rfl (lv_at hl 0 rfl) ?_
  refine lv_ifnonnull hx hb d_V_blocksOf_1 (tgt := 8) rfl ?_
  refine lv_aload_n hx hb d_V_blocksOf_8 rfl (lv_at hl 0 rfl) ?_
  obtain ⟨qp1, ep2⟩ := List.getElem?_of_mem (show ((pp, .inr (12, [.ref po, .ref pt, .ref pv, .int (nI P.n), .int (nI P.ch), .int (nI P.bi), .int (nI P.bl), .long P.nw])) : Nat × va_E) ∈ ws from m1)
  refine gFN (v := .int (nI P.bl)) hx hb hown hE hK hP qp1 ep2 rfl layC 6 (by decide) w1249 rfl d_V_blocksOf_9 ?_
  exact rfI hx hb hr hlk hS () rfl hP hD (Nat.le_of_ble_eq_true rfl) (Nat.le_of_ble_eq_true rfl) d_V_blocksOf_12
end
section
/-- only the gathered points differ -/
def VS.gkS (x y : VS) : VS := VS.s_gsize (VS.s_gV (VS.s_gT (VS.s_gO (VS.s_gN (VS.s_gA x y.gA) y.gN) y.gO) y.gT) y.gV) y.gsize
def VS.gk (x y : VS) : Prop := y = x.gkS y
/-- the room of a row of s behind k more, as it doubles -/
def capR (N s : Nat) : Nat → Nat
  | 0 => N
  | k + 1 => if s + k = capR N s k then 2 * (s + k) else capR N s k
theorem capR_s (N s k : Nat) : capR N s k ≤ capR N s (k + 1) := by
  show _ ≤ if s + k = capR N s k then 2 * (s + k) else capR N s k
  split <;> omega
theorem capR_m (N s : Nat) {k n : Nat} (h : k ≤ n) : capR N s k ≤ capR N s n := by
  induction n with
  | zero => rw [show k = 0 by omega]; exact Nat.le_refl _
  | succ n ih =>
    by_cases e : k = n + 1
    · rw [e]; exact Nat.le_refl _
    · exact Nat.le_trans (ih (by omega)) (capR_s N s n)
/-- i points of a parcel looked at, those that are seen gathered -/
def gath (x : VS) (P : PT) (i : Nat) (z : VS) : Prop :=
  (∀ q, q < x.gsize → z.gO q = x.gO q ∧ z.gT q = x.gT q ∧ z.gV q = x.gV q) ∧ ∀ j, j < i → x.sePc P j = true → z.gO (x.gsize + cnt j (x.sePc P)) = P.o j ∧ z.gT (x.gsize + cnt j (x.sePc P)) = P.t j ∧ z.gV (x.gsize + cnt j (x.sePc P)) = P.v j
def gaR (x : VS) (P : PT) (i : Nat) (z : VS) : Prop := x.gk z ∧ z.gsize = x.gsize + cnt i (x.sePc P) ∧ z.gsize ≤ z.gN ∧ z.gN = capR x.gN x.gsize (cnt i (x.sePc P)) ∧ gath x P i z
theorem gaR_0 {x : VS} (P : PT) (h : x.gsize ≤ x.gN) : gaR x P 0 x := ⟨rfl, rfl, h, rfl, fun _ _ => ⟨rfl, rfl, rfl⟩, fun j hj => absurd hj (Nat.not_lt_zero j)⟩
theorem gaR_f {x z : VS} {P : PT} {i : Nat} (h : gaR x P i z) (hs : x.sePc P i = false) : gaR x P (i + 1) z := by
  obtain ⟨h1, h2, h3, h4, h5, h6⟩ := h
  refine ⟨h1, by rw [cnt_f hs]; exact h2, h3, by rw [cnt_f hs]; exact h4, h5, fun j hj hj2 => ?_⟩
  by_cases e : j = i
  · subst e; rw [hs] at hj2; cases hj2
  · exact h6 j (by omega) hj2
theorem gaF_sz (z : VS) (pa : Nat → Nat) (w : Nat) (a b : Int64) : (z.gaF pa w a b).gsize = z.gsize + 1 ∧ (z.gaF pa w a b).gN = z.gcap ∧ z.gk (z.gaF pa w a b) := by
  unfold VS.gaF VS.gcap
  split
  · exact ⟨rfl, rfl, rfl⟩
  · exact ⟨rfl, rfl, rfl⟩
theorem cpy_lt {α : Type} (f : Nat → α) (v : α) {n k q : Nat} (h : q < n) (h2 : q < k) : va_cpy f (fun _ => v) 0 0 (min n k) q = f q := by
  unfold va_cpy
  rw [if_pos (by omega)]
  congr 1
  omega
theorem gaF_at (z : VS) (pa : Nat → Nat) (w : Nat) (a b : Int64) (h0 : z.gsize ≤ z.gN) (h1 : 0 < z.gN) : (∀ q, q < z.gsize → (z.gaF pa w a b).gO q = z.gO q ∧ (z.gaF pa w a b).gT q = z.gT q ∧ (z.gaF pa w a b).gV q = z.gV q) ∧ (z.gaF pa w a b).gO z.gsize = w ∧ (z.gaF pa w a b).gT z.gsize = a ∧ (z.gaF pa w a b).gV z.gsize = b := by
  unfold VS.gaF
  split
  · next e =>
    refine ⟨fun q hq => ⟨?_, ?_, ?_⟩, ?_, ?_, ?_⟩
    · exact (va_up_ne _ _ (Nat.ne_of_lt hq)).trans (cpy_lt _ _ (by omega) (by omega))
    · exact (va_up_ne _ _ (Nat.ne_of_lt hq)).trans (cpy_lt _ _ (by omega) (by omega))
    · exact (va_up_ne _ _ (Nat.ne_of_lt hq)).trans (cpy_lt _ _ (by omega) (by omega))
    · exact va_up_self _ _ _
    · exact va_up_self _ _ _
    · exact va_up_self _ _ _
  · refine ⟨fun q hq => ⟨va_up_ne _ _ (Nat.ne_of_lt hq), va_up_ne _ _ (Nat.ne_of_lt hq), va_up_ne _ _ (Nat.ne_of_lt hq)⟩, va_up_self _ _ _, va_up_self _ _ _, va_up_self _ _ _⟩
theorem gk_t {x y z : VS} (h1 : x.gk y) (h2 : y.gk z) : x.gk z := by
  unfold VS.gk at *
  rw [h2, h1]
  rfl
theorem gaR_t {x z y : VS} {P : PT} {i : Nat} {pa : Nat → Nat} (h : gaR x P i z) (h0 : 0 < x.gN) (hs : x.sePc P i = true) (e : y = z.gaF pa (P.o i) (P.t i) (P.v i)) : gaR x P (i + 1) y := by
  obtain ⟨h1, h2, h3, h4, h5, h6⟩ := h
  have hN : 0 < z.gN := by
    have := capR_m x.gN x.gsize (Nat.zero_le (cnt i (x.sePc P)))
    have e0 : capR x.gN x.gsize 0 = x.gN := rfl
    omega
  obtain ⟨a1, a2, a3⟩ := gaF_sz z pa (P.o i) (P.t i) (P.v i)
  obtain ⟨b1, b2, b3, b4⟩ := gaF_at z pa (P.o i) (P.t i) (P.v i) h3 hN
  rw [← e] at a1 a2 a3 b1 b2 b3 b4
  have hc : z.gcap = capR x.gN x.gsize (cnt i (x.sePc P) + 1) := by
    show (if z.gsize = z.gN then 2 * z.gsize else z.gN) = if x.gsize + cnt i (x.sePc P) = capR x.gN x.gsize (cnt i (x.sePc P)) then 2 * (x.gsize + cnt i (x.sePc P)) else capR x.gN x.gsize (cnt i (x.sePc P))
    rw [h4, h2]
  refine ⟨gk_t h1 a3, by rw [a1, h2, cnt_t hs]; omega, ?_, by rw [a2, hc, cnt_t hs], fun q hq => ?_, fun j hj hj2 => ?_⟩
  · rw [a1, a2]
    unfold VS.gcap
    split <;> omega
  · obtain ⟨c1, c2, c3⟩ := b1 q (by omega)
    obtain ⟨d1, d2, d3⟩ := h5 q hq
    exact ⟨c1.trans d1, c2.trans d2, c3.trans d3⟩
  · by_cases ej : j = i
    · subst ej
      rw [← h2]
      exact ⟨b2, b3, b4⟩
    · have hl := cnt_lt (f := x.sePc P) (show j < i by omega) hj2
      obtain ⟨c1, c2, c3⟩ := b1 (x.gsize + cnt j (x.sePc P)) (by omega)
      obtain ⟨d1, d2, d3⟩ := h6 j (by omega) hj2
      exact ⟨c1.trans d1, c2.trans d2, c3.trans d3⟩
theorem plP1 {dA : Nat → ClassId} {h : Nat} {ad : Nat → Nat} (x : VS) (a0 : va_W) : (a0 ++ VW dA h ad x).Perm (VW dA h ad (VS.s_pl x (x.pl ++ (a0)))) := by
  have h1 := plPerm (dA := dA) (h := h) (ad := ad) x (a0)
  exact h1
theorem plP2 {dA : Nat → ClassId} {h : Nat} {ad : Nat → Nat} (x : VS) (a0 a1 : va_W) : (a0 ++ (a1 ++ VW dA h ad x)).Perm (VW dA h ad (VS.s_pl x (x.pl ++ (a0 ++ (a1))))) := by
  have h1 := plPerm (dA := dA) (h := h) (ad := ad) x (a0 ++ (a1))
  rw [List.append_assoc] at h1
  exact h1
theorem plP3 {dA : Nat → ClassId} {h : Nat} {ad : Nat → Nat} (x : VS) (a0 a1 a2 : va_W) : (a0 ++ (a1 ++ (a2 ++ VW dA h ad x))).Perm (VW dA h ad (VS.s_pl x (x.pl ++ (a0 ++ (a1 ++ (a2)))))) := by
  have h1 := plPerm (dA := dA) (h := h) (ad := ad) x (a0 ++ (a1 ++ (a2)))
  rw [List.append_assoc, List.append_assoc] at h1
  exact h1
theorem plP4 {dA : Nat → ClassId} {h : Nat} {ad : Nat → Nat} (x : VS) (a0 a1 a2 a3 : va_W) : (a0 ++ (a1 ++ (a2 ++ (a3 ++ VW dA h ad x)))).Perm (VW dA h ad (VS.s_pl x (x.pl ++ (a0 ++ (a1 ++ (a2 ++ (a3))))))) := by
  have h1 := plPerm (dA := dA) (h := h) (ad := ad) x (a0 ++ (a1 ++ (a2 ++ (a3))))
  rw [List.append_assoc, List.append_assoc, List.append_assoc] at h1
  exact h1
theorem plP5 {dA : Nat → ClassId} {h : Nat} {ad : Nat → Nat} (x : VS) (a0 a1 a2 a3 a4 : va_W) : (a0 ++ (a1 ++ (a2 ++ (a3 ++ (a4 ++ VW dA h ad x))))).Perm (VW dA h ad (VS.s_pl x (x.pl ++ (a0 ++ (a1 ++ (a2 ++ (a3 ++ (a4)))))))) := by
  have h1 := plPerm (dA := dA) (h := h) (ad := ad) x (a0 ++ (a1 ++ (a2 ++ (a3 ++ (a4)))))
  rw [List.append_assoc, List.append_assoc, List.append_assoc, List.append_assoc] at h1
  exact h1
theorem plP6 {dA : Nat → ClassId} {h : Nat} {ad : Nat → Nat} (x : VS) (a0 a1 a2 a3 a4 a5 : va_W) : (a0 ++ (a1 ++ (a2 ++ (a3 ++ (a4 ++ (a5 ++ VW dA h ad x)))))).Perm (VW dA h ad (VS.s_pl x (x.pl ++ (a0 ++ (a1 ++ (a2 ++ (a3 ++ (a4 ++ (a5))))))))) := by
  have h1 := plPerm (dA := dA) (h := h) (ad := ad) x (a0 ++ (a1 ++ (a2 ++ (a3 ++ (a4 ++ (a5))))))
  rw [List.append_assoc, List.append_assoc, List.append_assoc, List.append_assoc, List.append_assoc] at h1
  exact h1
theorem plP7 {dA : Nat → ClassId} {h : Nat} {ad : Nat → Nat} (x : VS) (a0 a1 a2 a3 a4 a5 a6 : va_W) : (a0 ++ (a1 ++ (a2 ++ (a3 ++ (a4 ++ (a5 ++ (a6 ++ VW dA h ad x))))))).Perm (VW dA h ad (VS.s_pl x (x.pl ++ (a0 ++ (a1 ++ (a2 ++ (a3 ++ (a4 ++ (a5 ++ (a6)))))))))) := by
  have h1 := plPerm (dA := dA) (h := h) (ad := ad) x (a0 ++ (a1 ++ (a2 ++ (a3 ++ (a4 ++ (a5 ++ (a6)))))))
  rw [List.append_assoc, List.append_assoc, List.append_assoc, List.append_assoc, List.append_assoc, List.append_assoc] at h1
  exact h1
theorem plP8 {dA : Nat → ClassId} {h : Nat} {ad : Nat → Nat} (x : VS) (a0 a1 a2 a3 a4 a5 a6 a7 : va_W) : (a0 ++ (a1 ++ (a2 ++ (a3 ++ (a4 ++ (a5 ++ (a6 ++ (a7 ++ VW dA h ad x)))))))).Perm (VW dA h ad (VS.s_pl x (x.pl ++ (a0 ++ (a1 ++ (a2 ++ (a3 ++ (a4 ++ (a5 ++ (a6 ++ (a7))))))))))) := by
  have h1 := plPerm (dA := dA) (h := h) (ad := ad) x (a0 ++ (a1 ++ (a2 ++ (a3 ++ (a4 ++ (a5 ++ (a6 ++ (a7))))))))
  rw [List.append_assoc, List.append_assoc, List.append_assoc, List.append_assoc, List.append_assoc, List.append_assoc, List.append_assoc] at h1
  exact h1
theorem d_H_gatherSeen_0 : decode prog_9_method_21_code 0 = .ok (.iconst 0, 1) := by decide +kernel
theorem d_H_gatherSeen_1 : decode prog_9_method_21_code 1 = .ok (.istore_n 3, 1) := by decide +kernel
theorem d_H_gatherSeen_2 : decode prog_9_method_21_code 2 = .ok (.iload_n 3, 1) := by decide +kernel
theorem d_H_gatherSeen_3 : decode prog_9_method_21_code 3 = .ok (.aload_n 1, 1) := by decide +kernel
theorem d_H_gatherSeen_4 : decode prog_9_method_21_code 4 = .ok (.getfield 84, 3) := by decide +kernel
theorem d_H_gatherSeen_7 : decode prog_9_method_21_code 7 = .ok (.if_icmp .ge 40, 3) := by decide +kernel
theorem d_H_gatherSeen_47 : decode prog_9_method_21_code 47 = .ok (.return_, 1) := by decide +kernel
theorem d_H_gatherSeen_10 : decode prog_9_method_21_code 10 = .ok (.aload_n 0, 1) := by decide +kernel
theorem d_H_gatherSeen_11 : decode prog_9_method_21_code 11 = .ok (.aload_n 1, 1) := by decide +kernel
theorem d_H_gatherSeen_12 : decode prog_9_method_21_code 12 = .ok (.iload_n 3, 1) := by decide +kernel
theorem d_H_gatherSeen_13 : decode prog_9_method_21_code 13 = .ok (.invokevirtual 103, 3) := by decide +kernel
theorem d_H_gatherSeen_16 : decode prog_9_method_21_code 16 = .ok (.ifCond .eq 25, 3) := by decide +kernel
theorem d_H_gatherSeen_41 : decode prog_9_method_21_code 41 = .ok (.iinc 3 1, 3) := by decide +kernel
theorem d_H_gatherSeen_44 : decode prog_9_method_21_code 44 = .ok (.goto (-42), 3) := by decide +kernel
theorem d_H_gatherSeen_19 : decode prog_9_method_21_code 19 = .ok (.aload_n 2, 1) := by decide +kernel
theorem d_H_gatherSeen_20 : decode prog_9_method_21_code 20 = .ok (.aload_n 1, 1) := by decide +kernel
theorem d_H_gatherSeen_21 : decode prog_9_method_21_code 21 = .ok (.getfield 87, 3) := by decide +kernel
theorem d_H_gatherSeen_24 : decode prog_9_method_21_code 24 = .ok (.iload_n 3, 1) := by decide +kernel
theorem d_H_gatherSeen_25 : decode prog_9_method_21_code 25 = .ok (.iaload, 1) := by decide +kernel
theorem d_H_gatherSeen_26 : decode prog_9_method_21_code 26 = .ok (.aload_n 1, 1) := by decide +kernel
theorem d_H_gatherSeen_27 : decode prog_9_method_21_code 27 = .ok (.getfield 90, 3) := by decide +kernel
theorem d_H_gatherSeen_30 : decode prog_9_method_21_code 30 = .ok (.iload_n 3, 1) := by decide +kernel
theorem d_H_gatherSeen_31 : decode prog_9_method_21_code 31 = .ok (.laload, 1) := by decide +kernel
theorem d_H_gatherSeen_32 : decode prog_9_method_21_code 32 = .ok (.aload_n 1, 1) := by decide +kernel
theorem d_H_gatherSeen_33 : decode prog_9_method_21_code 33 = .ok (.getfield 117, 3) := by decide +kernel
theorem d_H_gatherSeen_36 : decode prog_9_method_21_code 36 = .ok (.iload_n 3, 1) := by decide +kernel
theorem d_H_gatherSeen_37 : decode prog_9_method_21_code 37 = .ok (.laload, 1) := by decide +kernel
theorem d_H_gatherSeen_38 : decode prog_9_method_21_code 38 = .ok (.invokevirtual 120, 3) := by decide +kernel
theorem w1250 : Cond.fieldLinkNest "SeriesVault$Shelf" 117 "SeriesVault$Parcel" "values" "[J" "SeriesVault" ∈ aW := aw_of (tb_6 (List.mem_of_getElem? (i := 52) rfl)) rfl
theorem w1251 : Cond.methodLink "SeriesVault$Shelf" 120 ⟨"SeriesVault$Points", "add", "(IJJ)V"⟩ ∈ aW := aw_of (tb_6 (List.mem_of_getElem? (i := 127) rfl)) rfl
set_option maxHeartbeats 4000000 in
set_option maxRecDepth 100000 in
theorem v_gatherSeen (l : Launch) (D : va_G) (dA : Nat → ClassId) (sz : Nat) (h : Nat) (ad : Nat → Nat) (x : VS) (pp : Nat) (P : PT) (hpp : isPc dA x.pl pp P) (hpk : pcOk P) (h1 : x.nsc ≤ 64) (h7 : ∀ q : Nat, q < x.nsc → x.nsO q < 2 ^ 31) (hs1 : x.gsize ≤ x.gN) (hs2 : 0 < x.gN) (hs3 : capR x.gN x.gsize (cnt P.n (x.sePc P)) ≤ 32768) : Met l ⟨"SeriesVault$Shelf", "gatherSeen", "(LSeriesVault$Parcel;LSeriesVault$Points;)V"⟩ [Cond.code ⟨"SeriesVault$Shelf", "gatherSeen", "(LSeriesVault$Parcel;LSeriesVault$Points;)V"⟩ prog_9_method_21_code 4 none] { frames := 3, cells := 3 * (capR x.gN x.gsize (cnt P.n (x.sePc P)) - x.gN), slots := 6 * (capR x.gN x.gsize (cnt P.n (x.sePc P)) - x.gN), locals := 87 } (pC D dA [.ref (ad 3), .ref pp, .ref (ad 2)] (VW dA h ad x) sz) (va_Qv (fun (u9 : VS) => gaR x P P.n u9) (fun (u9 : VS) t9 => bW D (va_A (VW dA h ad x) sz) (VW dA h ad u9) t9) (va_A (VW dA h ad x) sz)) (3 * (capR x.gN x.gsize (cnt P.n (x.sePc P)) - x.gN)) (6 * (capR x.gN x.gsize (cnt P.n (x.sePc P)) - x.gN)) (va_A (VW dA h ad x) sz) := by
  refine mkC (y := ⟨"SeriesVault$Shelf", "gatherSeen", "(LSeriesVault$Parcel;LSeriesVault$Points;)V"⟩) (cc := prog_9_method_21_code) (maxL := 4) (av := [.ref (ad 3), .ref pp, .ref (ad 2)]) (ws := VW dA h ad x) (sz := sz) (Qc := fun A => va_Qv (fun (u9 : VS) => gaR x P P.n u9) (fun (u9 : VS) t9 => bW D A (VW dA h ad u9) t9) A) (by decide) (Nat.le_of_ble_eq_true rfl) ?_
  intro A p e s m below meth c ls hsz hB
  obtain ⟨hx, hb, hr, hml, hown, hin, hlk, hE, hK, hP, hD, hS, hA, hN, hl⟩ := hB
  have hown : s.vm.findClass "SeriesVault$Shelf" = some m.cls := hown
  have hl : lv_has ls 4 [(0, .ref (ad 3)), (1, .ref pp), (2, .ref (ad 2))] := hl
  obtain ⟨H, hH⟩ : ∃ z, z = s.heap := ⟨_, rfl⟩
  have hP : va_P D vwCl (VW dA h ad x) H := by rw [hH]; exact hP
  have hS : va_S A s.heap H [] := by rw [hH]; exact hS
  rw [← hH]
  have pk1 := hpk.1
  have pk2 := hpk.2
  have hpp0 := hpp
  obtain ⟨po, pt, pv, m1, m2, m3, m4⟩ := hpp
  refine lv_iconst (v := 0) hx hb d_H_gatherSeen_0 (by decide) ?_
  refine lv_istore_n hx hb d_H_gatherSeen_1 rfl hl (by decide) rfl (fun ls hl => ?_)
  have hl : lv_has ls 4 [(3, .int 0), (0, .ref (ad 3)), (1, .ref pp), (2, .ref (ad 2))] := hl
  have L2 : ∀ (k9 : Nat) (i : Nat) (z : VS) (i1 : i ≤ P.n) (hr0 : gaR x P i z) (hk9 : P.n - i = k9), ∀ (H : Heap) (locs : List Loc) (ls : Array Slot) (hP : va_P D vwCl (VW dA h ad z) H) (hD : va_D A (VW dA h ad z)) (hS : va_S A s.heap H locs) (hl : lv_has ls 4 [(3, .int (nI i)), (0, .ref (ad 3)), (1, .ref pp), (2, .ref (ad 2))]), W p l e ({ frames := 3, cells := 3 * (capR x.gN x.gsize (cnt P.n (x.sePc P)) - x.gN), slots := 6 * (capR x.gN x.gsize (cnt P.n (x.sePc P)) - x.gN), locals := 87 } : Room) s m ([.ref (ad 3), .ref pp, .ref (ad 2)] : List Value).toArray below meth c H locs (3 * (z.gN - x.gN)) (6 * (z.gN - x.gN)) (MQ below (va_Qv (fun (u9 : VS) => gaR x P P.n u9) (fun (u9 : VS) t9 => bW D A (VW dA h ad u9) t9) A) ([.ref (ad 3), .ref pp, .ref (ad 2)] : List Value).toArray s (3 * (capR x.gN x.gsize (cnt P.n (x.sePc P)) - x.gN)) (6 * (capR x.gN x.gsize (cnt P.n (x.sePc P)) - x.gN)) A) (F0 m 2 ls []) := by
    intro k9
    induction k9 using Nat.strongRecOn with
    | ind k9 ih2 =>
      intro i z i1 hr0 hk9 H locs ls hP hD hS hl
      have hr1 := hr0
      obtain ⟨hg, q1, q2, q3, q4⟩ := hr1
      have hg : z = x.gkS z := hg
      have ep : z.pl = x.pl := (congrArg VS.pl hg).trans (rfl : (x.gkS z).pl = x.pl)
      have es : z.sePc = x.sePc := (congrArg VS.sePc hg).trans (rfl : (x.gkS z).sePc = x.sePc)
      have en : z.nsc = x.nsc := (congrArg VS.nsc hg).trans (rfl : (x.gkS z).nsc = x.nsc)
      have eo : z.nsO = x.nsO := (congrArg VS.nsO hg).trans (rfl : (x.gkS z).nsO = x.nsO)
      have cm1 := capR_m x.gN x.gsize (Nat.zero_le (cnt i (x.sePc P)))
      have cm0 : capR x.gN x.gsize 0 = x.gN := rfl
      have cm2 := capR_m x.gN x.gsize (cnt_mono (f := x.sePc P) i1)
      rw [← ep] at m1 m2 m3 m4 hpp0
      refine lv_iload_n hx hb d_H_gatherSeen_2 rfl (lv_at hl 0 rfl) ?_
      refine lv_aload_n hx hb d_H_gatherSeen_3 rfl (lv_at hl 2 rfl) ?_
      obtain ⟨qp1, ep2⟩ := plv (dA := dA) (h := h) (ad := ad) (x := z) m1
      refine gFN (v := .int (nI P.n)) hx hb hown hE hK hP qp1 ep2 rfl layC 3 (by decide) w1176 rfl d_H_gatherSeen_4 ?_
      refine lv_icmp_ge hx hb d_H_gatherSeen_7 (tgt := 47) rfl (fun g3 => ?_) (fun g3 => ?_)
      · have g3 := (nI_leI (a := P.n) (b := i) (by omega) (by omega)).mp g3
        exact rfV hx hb hr hlk hS z (by rw [← show i = P.n by omega]; exact hr0) hP hD (show 3 * (z.gN - x.gN) ≤ 3 * (capR x.gN x.gsize (cnt P.n (x.sePc P)) - x.gN) by omega) (show 6 * (z.gN - x.gN) ≤ 6 * (capR x.gN x.gsize (cnt P.n (x.sePc P)) - x.gN) by omega) d_H_gatherSeen_47
      · have g3 := mt (nI_leI (a := P.n) (b := i) (by omega) (by omega)).mpr g3
        refine lv_aload_n hx hb d_H_gatherSeen_10 rfl (lv_at hl 1 rfl) ?_
        refine lv_aload_n hx hb d_H_gatherSeen_11 rfl (lv_at hl 2 rfl) ?_
        refine lv_iload_n hx hb d_H_gatherSeen_12 rfl (lv_at hl 0 rfl) ?_
        refine jfI (rnV (As := [.ref pp, .int (nI i)]) (rest := []) hx hb hml hown hE hK (hN _ _ hS) hP hD (v_sees l D dA H.size h ad z pp P i hpp0 hpk (by rw [en]; exact h1) (by rw [en, eo]; exact h7) (show i < P.n from by omega)) (q0 := 17) rfl rfl w1178 w1177 w1179 w1180 w583 rfl rfl ⟨⟨by decide, by decide⟩, rfl⟩ ⟨(Nat.le_of_ble_eq_true rfl), (Nat.le_of_ble_eq_true rfl)⟩ rfl hl.1 rfl (Nat.le_of_ble_eq_true rfl) d_H_gatherSeen_13 ⟨(show 3 * (z.gN - x.gN) + 0 ≤ 3 * (capR x.gN x.gsize (cnt P.n (x.sePc P)) - x.gN) by omega), (show 6 * (z.gN - x.gN) + 0 ≤ 6 * (capR x.gN x.gsize (cnt P.n (x.sePc P)) - x.gN) by omega)⟩) hP hD hS hA (fun r4 u5 H locs hp9 hP hD hS => ?_)
        have hP : va_P D vwCl (VW dA h ad z) H := hP
        have hD : va_D A (VW dA h ad z) := hD
        replace hp9 : bI (z.sePc P i) = r4 := Eq.symm hp9
        subst hp9
        refine lv_if_eq hx hb d_H_gatherSeen_16 (tgt := 41) rfl (fun g6 => ?_) (fun g6 => ?_)
        · have g6 := bI_0 g6
          refine lv_iinc (k := 0) (v := nI (i + 1)) hx hb d_H_gatherSeen_41 hl rfl (iincN (i) 1 1 (by decide)) (by decide) rfl (fun ls hl => ?_)
          have hl : lv_has ls 4 [(3, .int (nI (i + 1))), (0, .ref (ad 3)), (1, .ref pp), (2, .ref (ad 2))] := hl
          refine lv_goto hx hb d_H_gatherSeen_44 (tgt := 2) rfl ?_
          refine W.widen (k := 3 * (z.gN - x.gN)) (n := 6 * (z.gN - x.gN)) (by omega) (by omega) ?_
          exact ih2 _ (by omega) (i + 1) z (by omega) (gaR_f hr0 (by rw [← es]; exact g6)) rfl H _ ls hP hD hS (lv_sub hl [0, 1, 2, 3] rfl)
        · have g6 := bI_n0 g6
          have hse : x.sePc P i = true := by rw [← es]; exact g6
          have cm3 := capR_m x.gN x.gsize (show cnt i (x.sePc P) + 1 ≤ cnt P.n (x.sePc P) from cnt_lt (by omega) hse)
          have gc : z.gcap = capR x.gN x.gsize (cnt i (x.sePc P) + 1) := by show (if z.gsize = z.gN then 2 * z.gsize else z.gN) = if x.gsize + cnt i (x.sePc P) = capR x.gN x.gsize (cnt i (x.sePc P)) then 2 * (x.gsize + cnt i (x.sePc P)) else capR x.gN x.gsize (cnt i (x.sePc P)); rw [q3, q1]
          have cm4 := capR_s x.gN x.gsize (cnt i (x.sePc P))
          refine lv_aload_n hx hb d_H_gatherSeen_19 rfl (lv_at hl 3 rfl) ?_
          refine lv_aload_n hx hb d_H_gatherSeen_20 rfl (lv_at hl 2 rfl) ?_
          obtain ⟨qp7, ep8⟩ := plv (dA := dA) (h := h) (ad := ad) (x := z) m1
          refine gFN (v := .ref po) hx hb hown hE hK hP qp7 ep8 rfl layC 0 (by decide) w1171 rfl d_H_gatherSeen_21 ?_
          refine lv_iload_n hx hb d_H_gatherSeen_24 rfl (lv_at hl 0 rfl) ?_
          obtain ⟨qp9, ep10⟩ := plv (dA := dA) (h := h) (ad := ad) (x := z) m2
          refine nild (f := (fun k => nI (P.o k))) (n := P.n) hx hb hK hP qp9 1 ep10 rfl (i) (by omega) (by omega) d_H_gatherSeen_25 ?_
          refine lv_aload_n hx hb d_H_gatherSeen_26 rfl (lv_at hl 2 rfl) ?_
          obtain ⟨qp11, ep12⟩ := plv (dA := dA) (h := h) (ad := ad) (x := z) m1
          refine gFN (v := .ref pt) hx hb hown hE hK hP qp11 ep12 rfl layC 1 (by decide) w1170 rfl d_H_gatherSeen_27 ?_
          refine lv_iload_n hx hb d_H_gatherSeen_30 rfl (lv_at hl 0 rfl) ?_
          obtain ⟨qp13, ep14⟩ := plv (dA := dA) (h := h) (ad := ad) (x := z) m3
          refine nlld (f := P.t) (n := P.n) hx hb hK hP qp13 2 ep14 rfl (i) (by omega) (by omega) d_H_gatherSeen_31 ?_
          refine lv_aload_n hx hb d_H_gatherSeen_32 rfl (lv_at hl 2 rfl) ?_
          obtain ⟨qp15, ep16⟩ := plv (dA := dA) (h := h) (ad := ad) (x := z) m1
          refine gFN (v := .ref pv) hx hb hown hE hK hP qp15 ep16 rfl layC 2 (by decide) w1250 rfl d_H_gatherSeen_33 ?_
          refine lv_iload_n hx hb d_H_gatherSeen_36 rfl (lv_at hl 0 rfl) ?_
          obtain ⟨qp17, ep18⟩ := plv (dA := dA) (h := h) (ad := ad) (x := z) m4
          refine nlld (f := P.v) (n := P.n) hx hb hK hP qp17 2 ep18 rfl (i) (by omega) (by omega) d_H_gatherSeen_37 ?_
          refine jfV (rnV (As := [.int (nI (P.o i)), .long (P.t i), .long (P.v i)]) (rest := []) hx hb hml hown hE hK (hN _ _ hS) hP hD (v_paddF_g l D dA H.size h ad z (P.o i) (P.t i) (P.v i) q2 (show 0 < z.gN from by omega) (show z.gN ≤ 32768 from by omega)) (q0 := 13) rfl rfl w1106 w1251 w1107 w1108 w578 rfl rfl ⟨⟨by decide, by decide⟩, rfl⟩ ⟨(Nat.le_of_ble_eq_true rfl), (Nat.le_of_ble_eq_true rfl)⟩ rfl hl.1 rfl (Nat.le_of_ble_eq_true rfl) d_H_gatherSeen_38 ⟨(show 3 * (z.gN - x.gN) + 0 + (3 * (z.gcap - z.gN)) ≤ 3 * (capR x.gN x.gsize (cnt P.n (x.sePc P)) - x.gN) by omega), (show 6 * (z.gN - x.gN) + 0 + (6 * (z.gcap - z.gN)) ≤ 6 * (capR x.gN x.gsize (cnt P.n (x.sePc P)) - x.gN) by omega)⟩) hP hD hS hA (fun u20 H locs hp9 hP hD hS => ?_)
          obtain ⟨y21, h9u⟩ : ∃ z9, z9 = u20 := ⟨_, rfl⟩
          subst h9u
          have hP : va_P D vwCl (VW dA h ad y21) H := hP
          have hD : va_D A (VW dA h ad y21) := hD
          have f_e_22 := hp9
          refine lv_iinc (k := 0) (v := nI (i + 1)) hx hb d_H_gatherSeen_41 hl rfl (iincN (i) 1 1 (by decide)) (by decide) rfl (fun ls hl => ?_)
          have hl : lv_has ls 4 [(3, .int (nI (i + 1))), (0, .ref (ad 3)), (1, .ref pp), (2, .ref (ad 2))] := hl
          refine lv_goto hx hb d_H_gatherSeen_44 (tgt := 2) rfl ?_
          refine W.widen (k := 3 * (y21.gN - x.gN)) (n := 6 * (y21.gN - x.gN)) (by obtain ⟨pa, h9⟩ := f_e_22; have := (gaF_sz z pa (P.o i) (P.t i) (P.v i)).2.1; rw [← h9] at this; omega) (by obtain ⟨pa, h9⟩ := f_e_22; have := (gaF_sz z pa (P.o i) (P.t i) (P.v i)).2.1; rw [← h9] at this; omega) ?_
          exact ih2 _ (by omega) (i + 1) y21 (by omega) (by obtain ⟨pa, h9⟩ := f_e_22; exact gaR_t hr0 hs2 hse h9) rfl H _ ls hP hD hS (lv_sub hl [0, 1, 2, 3] rfl)
  refine W.widen (k := 3 * (x.gN - x.gN)) (n := 6 * (x.gN - x.gN)) (by omega) (by omega) ?_
  exact L2 _ 0 x (Nat.zero_le _) (gaR_0 P hs1) rfl H _ ls hP hD hS (lv_sub hl [0, 1, 2, 3] rfl)
def VS.fr (x : VS) (PS : Nat → PT) : Nat := x.diskBlocks - 2 - x.jlimit - (x.ncat + sumN x.npc (blN PS))
set_option maxHeartbeats 4000000 in
set_option maxRecDepth 100000 in
theorem v_freeBlocks (l : Launch) (D : va_G) (dA : Nat → ClassId) (sz : Nat) (h : Nat) (ad : Nat → Nat) (x : VS) (PS : Nat → PT) (hps : psOk dA x.nP x.npc x.pl PS) (hpn : x.npc ≤ 32) (hfr : x.jlimit + 2 + (x.ncat + sumN x.npc (blN PS)) ≤ x.diskBlocks) : Met l ⟨"SeriesVault", "freeBlocks", "()I"⟩ [Cond.code ⟨"SeriesVault", "freeBlocks", "()I"⟩ prog_1_method_17_code 1 (some FieldType.int)] { frames := 2, cells := 0, slots := 0, locals := 22 } (pC D dA [.ref h] (VW dA h ad x) sz) (va_Qi (fun (r9 : Int32) (u9 : Unit) => r9 = nI (x.fr PS)) (fun (u9 : Unit) t9 => bW D (va_A (VW dA h ad x) sz) (VW dA h ad x) t9) (va_A (VW dA h ad x) sz)) 0 0 (va_A (VW dA h ad x) sz) := by
  refine mkC (y := ⟨"SeriesVault", "freeBlocks", "()I"⟩) (cc := prog_1_method_17_code) (maxL := 1) (av := [.ref h]) (ws := VW dA h ad x) (sz := sz) (Qc := fun A => va_Qi (fun (r9 : Int32) (u9 : Unit) => r9 = nI (x.fr PS)) (fun (u9 : Unit) t9 => bW D A (VW dA h ad x) t9) A) (by decide) (Nat.le_of_ble_eq_true rfl) ?_
  intro A p e s m below meth c ls hsz hB
  obtain ⟨hx, hb, hr, hml, hown, hin, hlk, hE, hK, hP, hD, hS, hA, hN, hl⟩ := hB
  have hown : s.vm.findClass "SeriesVault" = some m.cls := hown
  have hl : lv_has ls 1 [(0, .ref h)] := hl
  obtain ⟨H, hH⟩ : ∃ z, z = s.heap := ⟨_, rfl⟩
  have hP : va_P D vwCl (VW dA h ad x) H := by rw [hH]; exact hP
  have hS : va_S A s.heap H [] := by rw [hH]; exact hS
  rw [← hH]
  refine lv_aload_n hx hb d_V_freeBlocks_0 rfl (lv_at hl 0 rfl) ?_
  refine gF (v := .int (nI x.diskBlocks)) hx hb hown hE hK hP 0 rfl rfl layV 4 (by decide) w571 rfl d_V_freeBlocks_1 ?_
  refine lv_iconst (v := 2) hx hb d_V_freeBlocks_4 (by decide) ?_
  refine lv_isub hx hb d_V_freeBlocks_5 (tpi (y := nI (x.diskBlocks - 2)) (pk_sub (a := x.diskBlocks) (b := 2) (by omega)) ?_)
  refine lv_aload_n hx hb d_V_freeBlocks_6 rfl (lv_at hl 0 rfl) ?_
  refine gF (v := .ref (ad 0)) hx hb hown hE hK hP 0 rfl rfl layV 8 (by decide) w312 rfl d_V_freeBlocks_7 ?_
  refine gFN (v := .int (nI x.jlimit)) hx hb hown hE hK hP 2 rfl rfl layJ 9 (by decide) w636 rfl d_V_freeBlocks_10 ?_
  refine lv_isub hx hb d_V_freeBlocks_13 (tpi (y := nI ((x.diskBlocks - 2) - x.jlimit)) (pk_sub (a := x.diskBlocks - 2) (b := x.jlimit) (by omega)) ?_)
  refine lv_aload_n hx hb d_V_freeBlocks_14 rfl (lv_at hl 0 rfl) ?_
  refine gF (v := .ref (ad 3)) hx hb hown hE hK hP 0 rfl rfl layV 11 (by decide) w297 rfl d_V_freeBlocks_15 ?_
  refine jfI (rnV (As := []) (rest := [.int (nI ((x.diskBlocks - 2) - x.jlimit))]) hx hb hml hown hE hK (hN _ _ hS) hP hD (v_blocksInUse l D dA H.size h ad x PS hps (show x.npc ≤ 32 from by omega)) (q0 := 17) rfl rfl w638 w637 w639 w640 w583 rfl rfl ⟨⟨by decide, by decide⟩, rfl⟩ ⟨(Nat.le_of_ble_eq_true rfl), (Nat.le_of_ble_eq_true rfl)⟩ rfl hl.1 rfl (Nat.le_of_ble_eq_true rfl) d_V_freeBlocks_18 ⟨(Nat.le_of_ble_eq_true rfl), (Nat.le_of_ble_eq_true rfl)⟩) hP hD hS hA (fun r1 u2 H locs hp9 hP hD hS => ?_)
  have hP : va_P D vwCl (VW dA h ad x) H := hP
  have hD : va_D A (VW dA h ad x) := hD
  replace hp9 : nI (x.ncat + sumN x.npc (blN PS)) = r1 := Eq.symm hp9
  subst hp9
  refine lv_isub hx hb d_V_freeBlocks_21 (tpi (y := nI (((x.diskBlocks - 2) - x.jlimit) - (x.ncat + sumN x.npc (blN PS)))) (pk_sub (a := (x.diskBlocks - 2) - x.jlimit) (b := x.ncat + sumN x.npc (blN PS)) (by omega)) ?_)
  exact rfI hx hb hr hlk hS () rfl hP hD (Nat.le_of_ble_eq_true rfl) (Nat.le_of_ble_eq_true rfl) d_V_freeBlocks_22
set_option maxHeartbeats 4000000 in
set_option maxRecDepth 100000 in
theorem v_keepManifest (l : Launch) (D : va_G) (dA : Nat → ClassId) (sz : Nat) (h : Nat) (ad : Nat → Nat) (x : VS) (PS : Nat → PT) (hps : psOk dA x.nP x.npc x.pl PS) (hpn : x.npc ≤ 32) (h1 : x.nsc ≤ 64) (h7 : ∀ q : Nat, q < x.nsc → x.nsO q < 2 ^ 31) : Met l ⟨"SeriesVault", "keepManifest", "()V"⟩ [Cond.code ⟨"SeriesVault", "keepManifest", "()V"⟩ prog_1_method_42_code 1 none] { frames := 4, cells := 0, slots := 0, locals := 69 } (pC D dA [.ref h] (VW dA h ad x) sz) (va_Qv (fun (u9 : Unit) => True) (fun (u9 : Unit) t9 => bW D (va_A (VW dA h ad x) sz) (VW dA h ad (VS.s_shor (VS.s_ssc (VS.s_ssT (VS.s_ssF (VS.s_ssO (VS.s_spc (VS.s_sP (VS.s_nsc (VS.s_nsP (VS.s_nsT (VS.s_nsF (VS.s_nsO x (tdT (x.esC PS) x.nsO x.nsc)) (tdT (x.esC PS) x.nsF x.nsc)) (tdT (x.esC PS) x.nsT x.nsc)) (x.esG PS)) (cnt x.nsc (x.esC PS))) (va_cpy x.nP x.sP 0 0 x.npc)) x.npc) (va_cpy (tdT (x.esC PS) x.nsO x.nsc) x.ssO 0 0 (cnt x.nsc (x.esC PS)))) (va_cpy (tdT (x.esC PS) x.nsF x.nsc) x.ssF 0 0 (cnt x.nsc (x.esC PS)))) (va_cpy (tdT (x.esC PS) x.nsT x.nsc) x.ssT 0 0 (cnt x.nsc (x.esC PS)))) (cnt x.nsc (x.esC PS))) x.nhor)) t9) (va_A (VW dA h ad x) sz)) 0 0 (va_A (VW dA h ad x) sz) := by
  refine mkC (y := ⟨"SeriesVault", "keepManifest", "()V"⟩) (cc := prog_1_method_42_code) (maxL := 1) (av := [.ref h]) (ws := VW dA h ad x) (sz := sz) (Qc := fun A => va_Qv (fun (u9 : Unit) => True) (fun (u9 : Unit) t9 => bW D A (VW dA h ad (VS.s_shor (VS.s_ssc (VS.s_ssT (VS.s_ssF (VS.s_ssO (VS.s_spc (VS.s_sP (VS.s_nsc (VS.s_nsP (VS.s_nsT (VS.s_nsF (VS.s_nsO x (tdT (x.esC PS) x.nsO x.nsc)) (tdT (x.esC PS) x.nsF x.nsc)) (tdT (x.esC PS) x.nsT x.nsc)) (x.esG PS)) (cnt x.nsc (x.esC PS))) (va_cpy x.nP x.sP 0 0 x.npc)) x.npc) (va_cpy (tdT (x.esC PS) x.nsO x.nsc) x.ssO 0 0 (cnt x.nsc (x.esC PS)))) (va_cpy (tdT (x.esC PS) x.nsF x.nsc) x.ssF 0 0 (cnt x.nsc (x.esC PS)))) (va_cpy (tdT (x.esC PS) x.nsT x.nsc) x.ssT 0 0 (cnt x.nsc (x.esC PS)))) (cnt x.nsc (x.esC PS))) x.nhor)) t9) A) (by decide) (Nat.le_of_ble_eq_true rfl) ?_
  intro A p e s m below meth c ls hsz hB
  obtain ⟨hx, hb, hr, hml, hown, hin, hlk, hE, hK, hP, hD, hS, hA, hN, hl⟩ := hB
  have hown : s.vm.findClass "SeriesVault" = some m.cls := hown
  have hl : lv_has ls 1 [(0, .ref h)] := hl
  obtain ⟨H, hH⟩ : ∃ z, z = s.heap := ⟨_, rfl⟩
  have hP : va_P D vwCl (VW dA h ad x) H := by rw [hH]; exact hP
  have hS : va_S A s.heap H [] := by rw [hH]; exact hS
  rw [← hH]
  refine lv_aload_n hx hb d_V_keepManifest_0 rfl (lv_at hl 0 rfl) ?_
  refine gF (v := .ref (ad 3)) hx hb hown hE hK hP 0 rfl rfl layV 11 (by decide) w297 rfl d_V_keepManifest_1 ?_
  refine jfV (rnV (As := []) (rest := []) hx hb hml hown hE hK (hN _ _ hS) hP hD (v_endScars l D dA H.size h ad x PS hps (show x.npc ≤ 32 from by omega) (show x.nsc ≤ 64 from by omega) h7) (q0 := 17) rfl rfl w724 w723 w725 w726 w583 rfl rfl ⟨⟨by decide, by decide⟩, rfl⟩ ⟨(Nat.le_of_ble_eq_true rfl), (Nat.le_of_ble_eq_true rfl)⟩ rfl hl.1 rfl (Nat.le_of_ble_eq_true rfl) d_V_keepManifest_4 ⟨(Nat.le_of_ble_eq_true rfl), (Nat.le_of_ble_eq_true rfl)⟩) hP hD hS hA (fun u2 H locs hp9 hP hD hS => ?_)
  have hP : va_P D vwCl (VW dA h ad (VS.s_nsc (VS.s_nsP (VS.s_nsT (VS.s_nsF (VS.s_nsO x (tdT (x.esC PS) x.nsO x.nsc)) (tdT (x.esC PS) x.nsF x.nsc)) (tdT (x.esC PS) x.nsT x.nsc)) (x.esG PS)) (cnt x.nsc (x.esC PS)))) H := hP
  have hD : va_D A (VW dA h ad (VS.s_nsc (VS.s_nsP (VS.s_nsT (VS.s_nsF (VS.s_nsO x (tdT (x.esC PS) x.nsO x.nsc)) (tdT (x.esC PS) x.nsF x.nsc)) (tdT (x.esC PS) x.nsT x.nsc)) (x.esG PS)) (cnt x.nsc (x.esC PS)))) := hD
  refine lv_aload_n hx hb d_V_keepManifest_7 rfl (lv_at hl 0 rfl) ?_
  refine gF (v := .ref (ad 10)) hx hb hown hE hK hP 0 rfl rfl layV 12 (by decide) w587 rfl d_V_keepManifest_8 ?_
  refine lv_aload_n hx hb d_V_keepManifest_11 rfl (lv_at hl 0 rfl) ?_
  refine gF (v := .ref (ad 3)) hx hb hown hE hK hP 0 rfl rfl layV 11 (by decide) w297 rfl d_V_keepManifest_12 ?_
  refine jfV (rnV (As := [.ref (ad 3)]) (rest := []) hx hb hml hown hE hK (hN _ _ hS) hP hD (v_takeParcels_s l D dA H.size h ad (VS.s_nsc (VS.s_nsP (VS.s_nsT (VS.s_nsF (VS.s_nsO x (tdT (x.esC PS) x.nsO x.nsc)) (tdT (x.esC PS) x.nsF x.nsc)) (tdT (x.esC PS) x.nsT x.nsc)) (x.esG PS)) (cnt x.nsc (x.esC PS))) PS hps (show x.npc ≤ 32 from by omega) (show cnt x.nsc (x.esC PS) ≤ 64 from Nat.le_trans (cnt_le _ _) h1)) (q0 := 24) rfl rfl w728 w727 w729 w730 w583 rfl rfl ⟨⟨by decide, by decide⟩, rfl⟩ ⟨(Nat.le_of_ble_eq_true rfl), (Nat.le_of_ble_eq_true rfl)⟩ rfl hl.1 rfl (Nat.le_of_ble_eq_true rfl) d_V_keepManifest_15 ⟨(Nat.le_of_ble_eq_true rfl), (Nat.le_of_ble_eq_true rfl)⟩) hP hD hS hA (fun u4 H locs hp9 hP hD hS => ?_)
  have hP : va_P D vwCl (VW dA h ad (VS.s_shor (VS.s_ssc (VS.s_ssT (VS.s_ssF (VS.s_ssO (VS.s_spc (VS.s_sP (VS.s_nsc (VS.s_nsP (VS.s_nsT (VS.s_nsF (VS.s_nsO x (tdT (x.esC PS) x.nsO x.nsc)) (tdT (x.esC PS) x.nsF x.nsc)) (tdT (x.esC PS) x.nsT x.nsc)) (x.esG PS)) (cnt x.nsc (x.esC PS))) (va_cpy x.nP x.sP 0 0 x.npc)) x.npc) (va_cpy (tdT (x.esC PS) x.nsO x.nsc) x.ssO 0 0 (cnt x.nsc (x.esC PS)))) (va_cpy (tdT (x.esC PS) x.nsF x.nsc) x.ssF 0 0 (cnt x.nsc (x.esC PS)))) (va_cpy (tdT (x.esC PS) x.nsT x.nsc) x.ssT 0 0 (cnt x.nsc (x.esC PS)))) (cnt x.nsc (x.esC PS))) x.nhor)) H := hP
  have hD : va_D A (VW dA h ad (VS.s_shor (VS.s_ssc (VS.s_ssT (VS.s_ssF (VS.s_ssO (VS.s_spc (VS.s_sP (VS.s_nsc (VS.s_nsP (VS.s_nsT (VS.s_nsF (VS.s_nsO x (tdT (x.esC PS) x.nsO x.nsc)) (tdT (x.esC PS) x.nsF x.nsc)) (tdT (x.esC PS) x.nsT x.nsc)) (x.esG PS)) (cnt x.nsc (x.esC PS))) (va_cpy x.nP x.sP 0 0 x.npc)) x.npc) (va_cpy (tdT (x.esC PS) x.nsO x.nsc) x.ssO 0 0 (cnt x.nsc (x.esC PS)))) (va_cpy (tdT (x.esC PS) x.nsF x.nsc) x.ssF 0 0 (cnt x.nsc (x.esC PS)))) (va_cpy (tdT (x.esC PS) x.nsT x.nsc) x.ssT 0 0 (cnt x.nsc (x.esC PS)))) (cnt x.nsc (x.esC PS))) x.nhor)) := hD
  exact rfV hx hb hr hlk hS () trivial hP hD (Nat.le_of_ble_eq_true rfl) (Nat.le_of_ble_eq_true rfl) d_V_keepManifest_18
end
section
/-- more that never changes -/
def VS.pk (x y : VS) : Prop := y = VS.s_pl x y.pl ∧ ∀ c, c ∈ x.pl → c ∈ y.pl
theorem isPc_n {dA : Nat → ClassId} {pl : va_W} {pp oq tq vq n : Nat} {O : Nat → Nat} {T V : Nat → Int64} (m1 : (pp, .inr (12, [.ref oq, .ref tq, .ref vq, .int (nI n), .int (nI (cnt n (chB O))), .int (nI (64 * cnt n (chB O) + (bcG O T V n).1)), .int (nI ((64 * cnt n (chB O) + (bcG O T V n).1 + 32256 - 1) / 32256)), .long (grG T n)])) ∈ pl) (m2 : (oq, .inl (dA 1, n, .inl (fun z9 => nI (O z9)))) ∈ pl) (m3 : (tq, .inl (dA 2, n, .inr (.inl T))) ∈ pl) (m4 : (vq, .inl (dA 2, n, .inr (.inl V))) ∈ pl) : isPc dA pl pp (mkP n O T V) := ⟨oq, tq, vq, m1, m2, m3, m4⟩
theorem d_V_packed_0 : decode prog_1_method_37_code 0 = .ok (.aload_n 1, 1) := by decide +kernel
theorem d_V_packed_1 : decode prog_1_method_37_code 1 = .ok (.getfield 261, 3) := by decide +kernel
theorem d_V_packed_4 : decode prog_1_method_37_code 4 = .ok (.ifCond .ne 7, 3) := by decide +kernel
theorem d_V_packed_7 : decode prog_1_method_37_code 7 = .ok (.aconst_null, 1) := by decide +kernel
theorem d_V_packed_8 : decode prog_1_method_37_code 8 = .ok (.goto 18, 3) := by decide +kernel
theorem d_V_packed_26 : decode prog_1_method_37_code 26 = .ok (.areturn, 1) := by decide +kernel
set_option maxHeartbeats 4000000 in
set_option maxRecDepth 100000 in
theorem v_packed_0h (l : Launch) (D : va_G) (dA : Nat → ClassId) (sz : Nat) (h : Nat) (ad : Nat → Nat) (x : VS) (hz : x.hsize = 0) : Met l ⟨"SeriesVault", "packed", "(LSeriesVault$Points;)LSeriesVault$Parcel;"⟩ [Cond.code ⟨"SeriesVault", "packed", "(LSeriesVault$Points;)LSeriesVault$Parcel;"⟩ prog_1_method_37_code 2 (some (FieldType.object "SeriesVault$Parcel"))] { frames := 1, cells := 0, slots := 0, locals := 0 } (pC D dA [.ref h, .ref (ad 1)] (VW dA h ad x) sz) (va_Qq (fun r9 (u9 : Unit) => r9 = none ∧ (True)) (fun (u9 : Unit) t9 => bW D (va_A (VW dA h ad x) sz) (VW dA h ad x) t9) (va_A (VW dA h ad x) sz)) 0 0 (va_A (VW dA h ad x) sz) := by
  refine mkC (y := ⟨"SeriesVault", "packed", "(LSeriesVault$Points;)LSeriesVault$Parcel;"⟩) (cc := prog_1_method_37_code) (maxL := 2) (av := [.ref h, .ref (ad 1)]) (ws := VW dA h ad x) (sz := sz) (Qc := fun A => va_Qq (fun r9 (u9 : Unit) => r9 = none ∧ (True)) (fun (u9 : Unit) t9 => bW D A (VW dA h ad x) t9) A) (by decide) (Nat.le_of_ble_eq_true rfl) ?_
  intro A p e s m below meth c ls hsz hB
  obtain ⟨hx, hb, hr, hml, hown, hin, hlk, hE, hK, hP, hD, hS, hA, hN, hl⟩ := hB
  have hown : s.vm.findClass "SeriesVault" = some m.cls := hown
  have hl : lv_has ls 2 [(0, .ref h), (1, .ref (ad 1))] := hl
  obtain ⟨H, hH⟩ : ∃ z, z = s.heap := ⟨_, rfl⟩
  have hP : va_P D vwCl (VW dA h ad x) H := by rw [hH]; exact hP
  have hS : va_S A s.heap H [] := by rw [hH]; exact hS
  rw [← hH]
  refine lv_aload_n hx hb d_V_packed_0 rfl (lv_at hl 1 rfl) ?_
  refine gFN (v := .int (nI x.hsize)) hx hb hown hE hK hP 9 rfl rfl layP 3 (by decide) w641 rfl d_V_packed_1 ?_
  refine lv_if_ne hx hb d_V_packed_4 (tgt := 11) rfl (fun h9 => absurd ((nI_eq (a := x.hsize) (b := 0) (by omega) (by omega)).mpr hz) h9) (fun _ => ?_)
  refine lv_null hx hb d_V_packed_7 ?_
  refine lv_goto hx hb d_V_packed_8 (tgt := 26) rfl ?_
  exact rkNul hx hb hr (Or.inl ⟨_, rfl⟩) hlk hS () trivial hP hD (Nat.le_of_ble_eq_true rfl) (Nat.le_of_ble_eq_true rfl) d_V_packed_26
theorem d_V_packed_11 : decode prog_1_method_37_code 11 = .ok (.new 321, 3) := by decide +kernel
theorem dfC : ∀ j, j < 8 → defaultValue (tyC j) = vp_V [.null, .null, .null, .int 0, .int 0, .int 0, .int 0, .long 0] j := by decide +kernel
theorem d_V_packed_14 : decode prog_1_method_37_code 14 = .ok (.dup, 1) := by decide +kernel
theorem d_V_packed_15 : decode prog_1_method_37_code 15 = .ok (.aload_n 1, 1) := by decide +kernel
theorem d_V_packed_16 : decode prog_1_method_37_code 16 = .ok (.aload_n 0, 1) := by decide +kernel
theorem d_V_packed_17 : decode prog_1_method_37_code 17 = .ok (.getfield 33, 3) := by decide +kernel
theorem d_V_packed_20 : decode prog_1_method_37_code 20 = .ok (.getfield 130, 3) := by decide +kernel
theorem d_V_packed_23 : decode prog_1_method_37_code 23 = .ok (.invokespecial 323, 3) := by decide +kernel
theorem w1252 : Cond.classLink "SeriesVault" 321 "SeriesVault$Parcel" ∈ aW := aw_of (tb_6 (List.mem_of_getElem? (i := 1) rfl)) rfl
theorem w858 : Cond.instantiable "SeriesVault$Parcel" 8 ∈ aW := aw_of (tb_6 (List.mem_of_getElem? (i := 2) rfl)) rfl
theorem w1254 : Cond.methodLink "SeriesVault" 323 ⟨"SeriesVault$Parcel", "<init>", "(LSeriesVault$Points;I)V"⟩ ∈ aW := aw_of (tb_6 (List.mem_of_getElem? (i := 3) rfl)) rfl
theorem w1255 : Cond.code ⟨"SeriesVault$Parcel", "<init>", "(LSeriesVault$Points;I)V"⟩ prog_4_method_1_code 7 none ∈ aW := aw_of (tb_6 (List.mem_of_getElem? (i := 5) rfl)) rfl
theorem w1256 : Cond.instanceMethod ⟨"SeriesVault$Parcel", "<init>", "(LSeriesVault$Points;I)V"⟩ ∈ aW := aw_of (tb_6 (List.mem_of_getElem? (i := 4) rfl)) rfl
set_option maxHeartbeats 4000000 in
set_option maxRecDepth 100000 in
theorem v_packed_1h (l : Launch) (D : va_G) (dA : Nat → ClassId) (sz : Nat) (h : Nat) (ad : Nat → Nat) (x : VS) (hz : 0 < x.hsize) (hn : x.hsize ≤ 12000) (hN : x.hsize ≤ x.hN) (hN2 : x.hN ≤ 65536) (hw : x.nser ≤ 256) (ho : ∀ i : Nat, i < x.hsize → x.hO i < x.nser) : Met l ⟨"SeriesVault", "packed", "(LSeriesVault$Points;)LSeriesVault$Parcel;"⟩ [Cond.code ⟨"SeriesVault", "packed", "(LSeriesVault$Points;)LSeriesVault$Parcel;"⟩ prog_1_method_37_code 2 (some (FieldType.object "SeriesVault$Parcel"))] { frames := 5, cells := 5, slots := 8 + (3 * x.hsize + x.nser + 1), locals := 103 } (pC D dA [.ref h, .ref (ad 1)] (VW dA h ad x) sz) (va_Qr (fun (_ : VS × (Nat → Nat) × (Nat → Int64) × (Nat → Int64)) => True) (fun (u9 : VS × (Nat → Nat) × (Nat → Int64) × (Nat → Int64)) (r9 : Nat) t9 => (x.pk u9.1 ∧ isPc dA u9.1.pl r9 (mkP x.hsize u9.2.1 u9.2.2.1 u9.2.2.2) ∧ laid x.hO x.hsize x.hsize x.hO u9.2.1 ∧ laid x.hO x.hsize x.hsize x.hT u9.2.2.1 ∧ laid x.hO x.hsize x.hsize x.hV u9.2.2.2 ∧ ∀ q, u9.2.1 q < 256) ∧ bW D (va_A (VW dA h ad x) sz) (VW dA h ad u9.1) t9) (va_A (VW dA h ad x) sz)) 5 (8 + (3 * x.hsize + x.nser + 1)) (va_A (VW dA h ad x) sz) := by
  refine mkC (y := ⟨"SeriesVault", "packed", "(LSeriesVault$Points;)LSeriesVault$Parcel;"⟩) (cc := prog_1_method_37_code) (maxL := 2) (av := [.ref h, .ref (ad 1)]) (ws := VW dA h ad x) (sz := sz) (Qc := fun A => va_Qr (fun (_ : VS × (Nat → Nat) × (Nat → Int64) × (Nat → Int64)) => True) (fun (u9 : VS × (Nat → Nat) × (Nat → Int64) × (Nat → Int64)) (r9 : Nat) t9 => (x.pk u9.1 ∧ isPc dA u9.1.pl r9 (mkP x.hsize u9.2.1 u9.2.2.1 u9.2.2.2) ∧ laid x.hO x.hsize x.hsize x.hO u9.2.1 ∧ laid x.hO x.hsize x.hsize x.hT u9.2.2.1 ∧ laid x.hO x.hsize x.hsize x.hV u9.2.2.2 ∧ ∀ q, u9.2.1 q < 256) ∧ bW D A (VW dA h ad u9.1) t9) A) (by decide) (Nat.le_of_ble_eq_true rfl) ?_
  intro A p e s m below meth c ls hsz hB
  obtain ⟨hx, hb, hr, hml, hown, hin, hlk, hE, hK, hP, hD, hS, hA, hN, hl⟩ := hB
  have hown : s.vm.findClass "SeriesVault" = some m.cls := hown
  have hl : lv_has ls 2 [(0, .ref h), (1, .ref (ad 1))] := hl
  obtain ⟨H, hH⟩ : ∃ z, z = s.heap := ⟨_, rfl⟩
  have hP : va_P D vwCl (VW dA h ad x) H := by rw [hH]; exact hP
  have hS : va_S A s.heap H [] := by rw [hH]; exact hS
  rw [← hH]
  refine lv_aload_n hx hb d_V_packed_0 rfl (lv_at hl 1 rfl) ?_
  refine gFN (v := .int (nI x.hsize)) hx hb hown hE hK hP 9 rfl rfl layP 3 (by decide) w641 rfl d_V_packed_1 ?_
  refine lv_if_ne hx hb d_V_packed_4 (tgt := 11) rfl (fun g1 => ?_) (fun g1 => ?_)
  rotate_left
  · have g1 := (nI_eq (a := x.hsize) (b := 0) (by omega) (by decide)).mp g1; exfalso; omega
  have g1 := mt (nI_eq (a := x.hsize) (b := 0) (by omega) (by decide)).mpr g1
  refine nOf hx hb hown hE hK hP hD hS hA (ci := 12) rfl layC tyC tokC w1252 w858 w1213 (fs := [.null, .null, .null, .int 0, .int 0, .int 0, .int 0, .long 0]) dfC (show 0 + 1 ≤ 5 by omega) (show 0 + 8 ≤ 8 + (3 * x.hsize + x.nser + 1) by omega) d_V_packed_11 (fun pp H hP hD hS => ?_)
  have hP : va_P D vwCl ([(pp, .inr (12, [.null, .null, .null, .int 0, .int 0, .int 0, .int 0, .long 0]))] ++ (VW dA h ad x)) H := hP
  have hD : va_D A ([(pp, .inr (12, [.null, .null, .null, .int 0, .int 0, .int 0, .int 0, .long 0]))] ++ (VW dA h ad x)) := hD
  refine lv_dup hx hb d_V_packed_14 rfl ?_
  refine lv_aload_n hx hb d_V_packed_15 rfl (lv_at hl 1 rfl) ?_
  refine lv_aload_n hx hb d_V_packed_16 rfl (lv_at hl 0 rfl) ?_
  refine gF (v := .ref (ad 3)) hx hb hown hE hK hP 1 rfl rfl layV 11 (by decide) w297 rfl d_V_packed_17 ?_
  refine gFN (v := .int (nI x.nser)) hx hb hown hE hK hP 18 rfl rfl layH 8 (by decide) w298 rfl d_V_packed_20 ?_
  refine jkV (wr := []) (rnI (As := [.ref (ad 1), .int (nI x.nser)]) (rest := [.ref pp]) hx hb hml hown hE hK (hN _ _ hS) hP hD (v_Cinit l D dA H.size (VW dA h ad x) pp (ad 1) (x.hA 0) (x.hA 1) (x.hA 2) x.hN x.hsize x.hO x.hT x.hV x.nser (List.mem_of_getElem? (i := 9) rfl) (List.mem_of_getElem? (i := 10) rfl) (List.mem_of_getElem? (i := 11) rfl) (List.mem_of_getElem? (i := 12) rfl) (show x.hsize ≤ 12000 from by omega) (show x.hsize ≤ x.hN from by omega) (show x.hN ≤ 65536 from by omega) (show x.nser ≤ 256 from by omega) ho) w1255 w1254 w1256 w1213 rfl rfl rfl ⟨⟨by decide, by decide⟩, rfl⟩ ⟨(Nat.le_of_ble_eq_true rfl), (Nat.le_of_ble_eq_true rfl)⟩ rfl hl.1 rfl (Nat.le_of_ble_eq_true rfl) d_V_packed_23 ⟨(show 0 + 1 + 4 ≤ 5 by omega), (show 0 + 8 + (3 * x.hsize + x.nser + 1) ≤ 8 + (3 * x.hsize + x.nser + 1) by omega)⟩) hP hD hS hA (fun u3 H locs hp9 hP hD hS => ?_)
  obtain ⟨oq, tq, vq, O, T, V⟩ := u3
  have hP : va_P D vwCl ([(oq, .inl (dA 1, x.hsize, .inl (fun z9 => nI (O z9))))] ++ ([(tq, .inl (dA 2, x.hsize, .inr (.inl T)))] ++ ([(vq, .inl (dA 2, x.hsize, .inr (.inl V)))] ++ ([(pp, .inr (12, [.ref oq, .ref tq, .ref vq, .int (nI x.hsize), .int (nI (cnt x.hsize (chB O))), .int (nI (64 * cnt x.hsize (chB O) + (bcG O T V x.hsize).1)), .int (nI ((64 * cnt x.hsize (chB O) + (bcG O T V x.hsize).1 + 32256 - 1) / 32256)), .long (grG T x.hsize)]))] ++ (VW dA h ad x))))) H := hP
  have hD : va_D A ([(oq, .inl (dA 1, x.hsize, .inl (fun z9 => nI (O z9))))] ++ ([(tq, .inl (dA 2, x.hsize, .inr (.inl T)))] ++ ([(vq, .inl (dA 2, x.hsize, .inr (.inl V)))] ++ ([(pp, .inr (12, [.ref oq, .ref tq, .ref vq, .int (nI x.hsize), .int (nI (cnt x.hsize (chB O))), .int (nI (64 * cnt x.hsize (chB O) + (bcG O T V x.hsize).1)), .int (nI ((64 * cnt x.hsize (chB O) + (bcG O T V x.hsize).1 + 32256 - 1) / 32256)), .long (grG T x.hsize)]))] ++ (VW dA h ad x))))) := hD
  obtain ⟨f_l1_4, f_l2_5, f_l3_6, f_l4_7⟩ := hp9
  have hP : va_P D vwCl (VW dA h ad (VS.s_pl x (x.pl ++ ([(oq, .inl (dA 1, x.hsize, .inl (fun z9 => nI (O z9))))] ++ ([(tq, .inl (dA 2, x.hsize, .inr (.inl T)))] ++ ([(vq, .inl (dA 2, x.hsize, .inr (.inl V)))] ++ ([(pp, .inr (12, [.ref oq, .ref tq, .ref vq, .int (nI x.hsize), .int (nI (cnt x.hsize (chB O))), .int (nI (64 * cnt x.hsize (chB O) + (bcG O T V x.hsize).1)), .int (nI ((64 * cnt x.hsize (chB O) + (bcG O T V x.hsize).1 + 32256 - 1) / 32256)), .long (grG T x.hsize)]))]))))))) H := pmP (show List.Perm (α := Nat × va_E) ([(oq, .inl (dA 1, x.hsize, .inl (fun z9 => nI (O z9))))] ++ ([(tq, .inl (dA 2, x.hsize, .inr (.inl T)))] ++ ([(vq, .inl (dA 2, x.hsize, .inr (.inl V)))] ++ ([(pp, .inr (12, [.ref oq, .ref tq, .ref vq, .int (nI x.hsize), .int (nI (cnt x.hsize (chB O))), .int (nI (64 * cnt x.hsize (chB O) + (bcG O T V x.hsize).1)), .int (nI ((64 * cnt x.hsize (chB O) + (bcG O T V x.hsize).1 + 32256 - 1) / 32256)), .long (grG T x.hsize)]))] ++ (VW dA h ad x))))) (VW dA h ad (VS.s_pl x (x.pl ++ ([(oq, .inl (dA 1, x.hsize, .inl (fun z9 => nI (O z9))))] ++ ([(tq, .inl (dA 2, x.hsize, .inr (.inl T)))] ++ ([(vq, .inl (dA 2, x.hsize, .inr (.inl V)))] ++ ([(pp, .inr (12, [.ref oq, .ref tq, .ref vq, .int (nI x.hsize), .int (nI (cnt x.hsize (chB O))), .int (nI (64 * cnt x.hsize (chB O) + (bcG O T V x.hsize).1)), .int (nI ((64 * cnt x.hsize (chB O) + (bcG O T V x.hsize).1 + 32256 - 1) / 32256)), .long (grG T x.hsize)]))]))))))) from plP4 (dA := dA) (h := h) (ad := ad) x ([(oq, .inl (dA 1, x.hsize, .inl (fun z9 => nI (O z9))))]) ([(tq, .inl (dA 2, x.hsize, .inr (.inl T)))]) ([(vq, .inl (dA 2, x.hsize, .inr (.inl V)))]) ([(pp, .inr (12, [.ref oq, .ref tq, .ref vq, .int (nI x.hsize), .int (nI (cnt x.hsize (chB O))), .int (nI (64 * cnt x.hsize (chB O) + (bcG O T V x.hsize).1)), .int (nI ((64 * cnt x.hsize (chB O) + (bcG O T V x.hsize).1 + 32256 - 1) / 32256)), .long (grG T x.hsize)]))])) hP
  have hD : va_D A (VW dA h ad (VS.s_pl x (x.pl ++ ([(oq, .inl (dA 1, x.hsize, .inl (fun z9 => nI (O z9))))] ++ ([(tq, .inl (dA 2, x.hsize, .inr (.inl T)))] ++ ([(vq, .inl (dA 2, x.hsize, .inr (.inl V)))] ++ ([(pp, .inr (12, [.ref oq, .ref tq, .ref vq, .int (nI x.hsize), .int (nI (cnt x.hsize (chB O))), .int (nI (64 * cnt x.hsize (chB O) + (bcG O T V x.hsize).1)), .int (nI ((64 * cnt x.hsize (chB O) + (bcG O T V x.hsize).1 + 32256 - 1) / 32256)), .long (grG T x.hsize)]))]))))))) := pmD (show List.Perm (α := Nat × va_E) ([(oq, .inl (dA 1, x.hsize, .inl (fun z9 => nI (O z9))))] ++ ([(tq, .inl (dA 2, x.hsize, .inr (.inl T)))] ++ ([(vq, .inl (dA 2, x.hsize, .inr (.inl V)))] ++ ([(pp, .inr (12, [.ref oq, .ref tq, .ref vq, .int (nI x.hsize), .int (nI (cnt x.hsize (chB O))), .int (nI (64 * cnt x.hsize (chB O) + (bcG O T V x.hsize).1)), .int (nI ((64 * cnt x.hsize (chB O) + (bcG O T V x.hsize).1 + 32256 - 1) / 32256)), .long (grG T x.hsize)]))] ++ (VW dA h ad x))))) (VW dA h ad (VS.s_pl x (x.pl ++ ([(oq, .inl (dA 1, x.hsize, .inl (fun z9 => nI (O z9))))] ++ ([(tq, .inl (dA 2, x.hsize, .inr (.inl T)))] ++ ([(vq, .inl (dA 2, x.hsize, .inr (.inl V)))] ++ ([(pp, .inr (12, [.ref oq, .ref tq, .ref vq, .int (nI x.hsize), .int (nI (cnt x.hsize (chB O))), .int (nI (64 * cnt x.hsize (chB O) + (bcG O T V x.hsize).1)), .int (nI ((64 * cnt x.hsize (chB O) + (bcG O T V x.hsize).1 + 32256 - 1) / 32256)), .long (grG T x.hsize)]))]))))))) from plP4 (dA := dA) (h := h) (ad := ad) x ([(oq, .inl (dA 1, x.hsize, .inl (fun z9 => nI (O z9))))]) ([(tq, .inl (dA 2, x.hsize, .inr (.inl T)))]) ([(vq, .inl (dA 2, x.hsize, .inr (.inl V)))]) ([(pp, .inr (12, [.ref oq, .ref tq, .ref vq, .int (nI x.hsize), .int (nI (cnt x.hsize (chB O))), .int (nI (64 * cnt x.hsize (chB O) + (bcG O T V x.hsize).1)), .int (nI ((64 * cnt x.hsize (chB O) + (bcG O T V x.hsize).1 + 32256 - 1) / 32256)), .long (grG T x.hsize)]))])) hD
  obtain ⟨pl8, e_pl8⟩ : ∃ z, z = x.pl ++ ([(oq, .inl (dA 1, x.hsize, .inl (fun z9 => nI (O z9))))] ++ ([(tq, .inl (dA 2, x.hsize, .inr (.inl T)))] ++ ([(vq, .inl (dA 2, x.hsize, .inr (.inl V)))] ++ ([(pp, .inr (12, [.ref oq, .ref tq, .ref vq, .int (nI x.hsize), .int (nI (cnt x.hsize (chB O))), .int (nI (64 * cnt x.hsize (chB O) + (bcG O T V x.hsize).1)), .int (nI ((64 * cnt x.hsize (chB O) + (bcG O T V x.hsize).1 + 32256 - 1) / 32256)), .long (grG T x.hsize)]))])))) := ⟨_, rfl⟩
  rw [← e_pl8] at hP hD
  have s_pl8 : ∀ c, c ∈ x.pl → c ∈ pl8 := by rw [e_pl8]; exact fun _ hm => List.mem_append_left _ hm
  have t_pl8_0 : ((oq, .inl (dA 1, x.hsize, .inl (fun z9 => nI (O z9)))) : Nat × va_E) ∈ pl8 := by rw [e_pl8]; exact List.mem_append_right _ (List.mem_of_getElem? (i := 0) rfl)
  have t_pl8_1 : ((tq, .inl (dA 2, x.hsize, .inr (.inl T))) : Nat × va_E) ∈ pl8 := by rw [e_pl8]; exact List.mem_append_right _ (List.mem_of_getElem? (i := 1) rfl)
  have t_pl8_2 : ((vq, .inl (dA 2, x.hsize, .inr (.inl V))) : Nat × va_E) ∈ pl8 := by rw [e_pl8]; exact List.mem_append_right _ (List.mem_of_getElem? (i := 2) rfl)
  have t_pl8_3 : ((pp, .inr (12, [.ref oq, .ref tq, .ref vq, .int (nI x.hsize), .int (nI (cnt x.hsize (chB O))), .int (nI (64 * cnt x.hsize (chB O) + (bcG O T V x.hsize).1)), .int (nI ((64 * cnt x.hsize (chB O) + (bcG O T V x.hsize).1 + 32256 - 1) / 32256)), .long (grG T x.hsize)])) : Nat × va_E) ∈ pl8 := by rw [e_pl8]; exact List.mem_append_right _ (List.mem_of_getElem? (i := 3) rfl)
  have hP : va_P D vwCl (VW dA h ad (VS.s_pl x pl8)) H := hP
  have hD : va_D A (VW dA h ad (VS.s_pl x pl8)) := hD
  exact rkR hx hb hr (Or.inl ⟨_, rfl⟩) hlk hS (⟨VS.s_pl x pl8, O, T, V⟩) ⟨⟨rfl, s_pl8⟩, isPc_n t_pl8_3 t_pl8_0 t_pl8_1 t_pl8_2, f_l1_4, f_l2_5, f_l3_6, f_l4_7⟩ hP hD (show 0 + 1 + 4 ≤ 5 by omega) (show 0 + 8 + (3 * x.hsize + x.nser + 1) ≤ 8 + (3 * x.hsize + x.nser + 1) by omega) d_V_packed_26
set_option maxHeartbeats 4000000 in
set_option maxRecDepth 100000 in
theorem v_packed_0g (l : Launch) (D : va_G) (dA : Nat → ClassId) (sz : Nat) (h : Nat) (ad : Nat → Nat) (x : VS) (hz : x.gsize = 0) : Met l ⟨"SeriesVault", "packed", "(LSeriesVault$Points;)LSeriesVault$Parcel;"⟩ [Cond.code ⟨"SeriesVault", "packed", "(LSeriesVault$Points;)LSeriesVault$Parcel;"⟩ prog_1_method_37_code 2 (some (FieldType.object "SeriesVault$Parcel"))] { frames := 1, cells := 0, slots := 0, locals := 0 } (pC D dA [.ref h, .ref (ad 2)] (VW dA h ad x) sz) (va_Qq (fun r9 (u9 : Unit) => r9 = none ∧ (True)) (fun (u9 : Unit) t9 => bW D (va_A (VW dA h ad x) sz) (VW dA h ad x) t9) (va_A (VW dA h ad x) sz)) 0 0 (va_A (VW dA h ad x) sz) := by
  refine mkC (y := ⟨"SeriesVault", "packed", "(LSeriesVault$Points;)LSeriesVault$Parcel;"⟩) (cc := prog_1_method_37_code) (maxL := 2) (av := [.ref h, .ref (ad 2)]) (ws := VW dA h ad x) (sz := sz) (Qc := fun A => va_Qq (fun r9 (u9 : Unit) => r9 = none ∧ (True)) (fun (u9 : Unit) t9 => bW D A (VW dA h ad x) t9) A) (by decide) (Nat.le_of_ble_eq_true rfl) ?_
  intro A p e s m below meth c ls hsz hB
  obtain ⟨hx, hb, hr, hml, hown, hin, hlk, hE, hK, hP, hD, hS, hA, hN, hl⟩ := hB
  have hown : s.vm.findClass "SeriesVault" = some m.cls := hown
  have hl : lv_has ls 2 [(0, .ref h), (1, .ref (ad 2))] := hl
  obtain ⟨H, hH⟩ : ∃ z, z = s.heap := ⟨_, rfl⟩
  have hP : va_P D vwCl (VW dA h ad x) H := by rw [hH]; exact hP
  have hS : va_S A s.heap H [] := by rw [hH]; exact hS
  rw [← hH]
  refine lv_aload_n hx hb d_V_packed_0 rfl (lv_at hl 1 rfl) ?_
  refine gFN (v := .int (nI x.gsize)) hx hb hown hE hK hP 13 rfl rfl layP 3 (by decide) w641 rfl d_V_packed_1 ?_
  refine lv_if_ne hx hb d_V_packed_4 (tgt := 11) rfl (fun h9 => absurd ((nI_eq (a := x.gsize) (b := 0) (by omega) (by omega)).mpr hz) h9) (fun _ => ?_)
  refine lv_null hx hb d_V_packed_7 ?_
  refine lv_goto hx hb d_V_packed_8 (tgt := 26) rfl ?_
  exact rkNul hx hb hr (Or.inl ⟨_, rfl⟩) hlk hS () trivial hP hD (Nat.le_of_ble_eq_true rfl) (Nat.le_of_ble_eq_true rfl) d_V_packed_26
set_option maxHeartbeats 4000000 in
set_option maxRecDepth 100000 in
theorem v_packed_1g (l : Launch) (D : va_G) (dA : Nat → ClassId) (sz : Nat) (h : Nat) (ad : Nat → Nat) (x : VS) (hz : 0 < x.gsize) (hn : x.gsize ≤ 12000) (hN : x.gsize ≤ x.gN) (hN2 : x.gN ≤ 65536) (hw : x.nser ≤ 256) (ho : ∀ i : Nat, i < x.gsize → x.gO i < x.nser) : Met l ⟨"SeriesVault", "packed", "(LSeriesVault$Points;)LSeriesVault$Parcel;"⟩ [Cond.code ⟨"SeriesVault", "packed", "(LSeriesVault$Points;)LSeriesVault$Parcel;"⟩ prog_1_method_37_code 2 (some (FieldType.object "SeriesVault$Parcel"))] { frames := 5, cells := 5, slots := 8 + (3 * x.gsize + x.nser + 1), locals := 103 } (pC D dA [.ref h, .ref (ad 2)] (VW dA h ad x) sz) (va_Qr (fun (_ : VS × (Nat → Nat) × (Nat → Int64) × (Nat → Int64)) => True) (fun (u9 : VS × (Nat → Nat) × (Nat → Int64) × (Nat → Int64)) (r9 : Nat) t9 => (x.pk u9.1 ∧ isPc dA u9.1.pl r9 (mkP x.gsize u9.2.1 u9.2.2.1 u9.2.2.2) ∧ laid x.gO x.gsize x.gsize x.gO u9.2.1 ∧ laid x.gO x.gsize x.gsize x.gT u9.2.2.1 ∧ laid x.gO x.gsize x.gsize x.gV u9.2.2.2 ∧ ∀ q, u9.2.1 q < 256) ∧ bW D (va_A (VW dA h ad x) sz) (VW dA h ad u9.1) t9) (va_A (VW dA h ad x) sz)) 5 (8 + (3 * x.gsize + x.nser + 1)) (va_A (VW dA h ad x) sz) := by
  refine mkC (y := ⟨"SeriesVault", "packed", "(LSeriesVault$Points;)LSeriesVault$Parcel;"⟩) (cc := prog_1_method_37_code) (maxL := 2) (av := [.ref h, .ref (ad 2)]) (ws := VW dA h ad x) (sz := sz) (Qc := fun A => va_Qr (fun (_ : VS × (Nat → Nat) × (Nat → Int64) × (Nat → Int64)) => True) (fun (u9 : VS × (Nat → Nat) × (Nat → Int64) × (Nat → Int64)) (r9 : Nat) t9 => (x.pk u9.1 ∧ isPc dA u9.1.pl r9 (mkP x.gsize u9.2.1 u9.2.2.1 u9.2.2.2) ∧ laid x.gO x.gsize x.gsize x.gO u9.2.1 ∧ laid x.gO x.gsize x.gsize x.gT u9.2.2.1 ∧ laid x.gO x.gsize x.gsize x.gV u9.2.2.2 ∧ ∀ q, u9.2.1 q < 256) ∧ bW D A (VW dA h ad u9.1) t9) A) (by decide) (Nat.le_of_ble_eq_true rfl) ?_
  intro A p e s m below meth c ls hsz hB
  obtain ⟨hx, hb, hr, hml, hown, hin, hlk, hE, hK, hP, hD, hS, hA, hN, hl⟩ := hB
  have hown : s.vm.findClass "SeriesVault" = some m.cls := hown
  have hl : lv_has ls 2 [(0, .ref h), (1, .ref (ad 2))] := hl
  obtain ⟨H, hH⟩ : ∃ z, z = s.heap := ⟨_, rfl⟩
  have hP : va_P D vwCl (VW dA h ad x) H := by rw [hH]; exact hP
  have hS : va_S A s.heap H [] := by rw [hH]; exact hS
  rw [← hH]
  refine lv_aload_n hx hb d_V_packed_0 rfl (lv_at hl 1 rfl) ?_
  refine gFN (v := .int (nI x.gsize)) hx hb hown hE hK hP 13 rfl rfl layP 3 (by decide) w641 rfl d_V_packed_1 ?_
  refine lv_if_ne hx hb d_V_packed_4 (tgt := 11) rfl (fun g1 => ?_) (fun g1 => ?_)
  rotate_left
  · have g1 := (nI_eq (a := x.gsize) (b := 0) (by omega) (by decide)).mp g1; exfalso; omega
  have g1 := mt (nI_eq (a := x.gsize) (b := 0) (by omega) (by decide)).mpr g1
  refine nOf hx hb hown hE hK hP hD hS hA (ci := 12) rfl layC tyC tokC w1252 w858 w1213 (fs := [.null, .null, .null, .int 0, .int 0, .int 0, .int 0, .long 0]) dfC (show 0 + 1 ≤ 5 by omega) (show 0 + 8 ≤ 8 + (3 * x.gsize + x.nser + 1) by omega) d_V_packed_11 (fun pp H hP hD hS => ?_)
  have hP : va_P D vwCl ([(pp, .inr (12, [.null, .null, .null, .int 0, .int 0, .int 0, .int 0, .long 0]))] ++ (VW dA h ad x)) H := hP
  have hD : va_D A ([(pp, .inr (12, [.null, .null, .null, .int 0, .int 0, .int 0, .int 0, .long 0]))] ++ (VW dA h ad x)) := hD
  refine lv_dup hx hb d_V_packed_14 rfl ?_
  refine lv_aload_n hx hb d_V_packed_15 rfl (lv_at hl 1 rfl) ?_
  refine lv_aload_n hx hb d_V_packed_16 rfl (lv_at hl 0 rfl) ?_
  refine gF (v := .ref (ad 3)) hx hb hown hE hK hP 1 rfl rfl layV 11 (by decide) w297 rfl d_V_packed_17 ?_
  refine gFN (v := .int (nI x.nser)) hx hb hown hE hK hP 18 rfl rfl layH 8 (by decide) w298 rfl d_V_packed_20 ?_
  refine jkV (wr := []) (rnI (As := [.ref (ad 2), .int (nI x.nser)]) (rest := [.ref pp]) hx hb hml hown hE hK (hN _ _ hS) hP hD (v_Cinit l D dA H.size (VW dA h ad x) pp (ad 2) (x.gA 0) (x.gA 1) (x.gA 2) x.gN x.gsize x.gO x.gT x.gV x.nser (List.mem_of_getElem? (i := 13) rfl) (List.mem_of_getElem? (i := 14) rfl) (List.mem_of_getElem? (i := 15) rfl) (List.mem_of_getElem? (i := 16) rfl) (show x.gsize ≤ 12000 from by omega) (show x.gsize ≤ x.gN from by omega) (show x.gN ≤ 65536 from by omega) (show x.nser ≤ 256 from by omega) ho) w1255 w1254 w1256 w1213 rfl rfl rfl ⟨⟨by decide, by decide⟩, rfl⟩ ⟨(Nat.le_of_ble_eq_true rfl), (Nat.le_of_ble_eq_true rfl)⟩ rfl hl.1 rfl (Nat.le_of_ble_eq_true rfl) d_V_packed_23 ⟨(show 0 + 1 + 4 ≤ 5 by omega), (show 0 + 8 + (3 * x.gsize + x.nser + 1) ≤ 8 + (3 * x.gsize + x.nser + 1) by omega)⟩) hP hD hS hA (fun u3 H locs hp9 hP hD hS => ?_)
  obtain ⟨oq, tq, vq, O, T, V⟩ := u3
  have hP : va_P D vwCl ([(oq, .inl (dA 1, x.gsize, .inl (fun z9 => nI (O z9))))] ++ ([(tq, .inl (dA 2, x.gsize, .inr (.inl T)))] ++ ([(vq, .inl (dA 2, x.gsize, .inr (.inl V)))] ++ ([(pp, .inr (12, [.ref oq, .ref tq, .ref vq, .int (nI x.gsize), .int (nI (cnt x.gsize (chB O))), .int (nI (64 * cnt x.gsize (chB O) + (bcG O T V x.gsize).1)), .int (nI ((64 * cnt x.gsize (chB O) + (bcG O T V x.gsize).1 + 32256 - 1) / 32256)), .long (grG T x.gsize)]))] ++ (VW dA h ad x))))) H := hP
  have hD : va_D A ([(oq, .inl (dA 1, x.gsize, .inl (fun z9 => nI (O z9))))] ++ ([(tq, .inl (dA 2, x.gsize, .inr (.inl T)))] ++ ([(vq, .inl (dA 2, x.gsize, .inr (.inl V)))] ++ ([(pp, .inr (12, [.ref oq, .ref tq, .ref vq, .int (nI x.gsize), .int (nI (cnt x.gsize (chB O))), .int (nI (64 * cnt x.gsize (chB O) + (bcG O T V x.gsize).1)), .int (nI ((64 * cnt x.gsize (chB O) + (bcG O T V x.gsize).1 + 32256 - 1) / 32256)), .long (grG T x.gsize)]))] ++ (VW dA h ad x))))) := hD
  obtain ⟨f_l1_4, f_l2_5, f_l3_6, f_l4_7⟩ := hp9
  have hP : va_P D vwCl (VW dA h ad (VS.s_pl x (x.pl ++ ([(oq, .inl (dA 1, x.gsize, .inl (fun z9 => nI (O z9))))] ++ ([(tq, .inl (dA 2, x.gsize, .inr (.inl T)))] ++ ([(vq, .inl (dA 2, x.gsize, .inr (.inl V)))] ++ ([(pp, .inr (12, [.ref oq, .ref tq, .ref vq, .int (nI x.gsize), .int (nI (cnt x.gsize (chB O))), .int (nI (64 * cnt x.gsize (chB O) + (bcG O T V x.gsize).1)), .int (nI ((64 * cnt x.gsize (chB O) + (bcG O T V x.gsize).1 + 32256 - 1) / 32256)), .long (grG T x.gsize)]))]))))))) H := pmP (show List.Perm (α := Nat × va_E) ([(oq, .inl (dA 1, x.gsize, .inl (fun z9 => nI (O z9))))] ++ ([(tq, .inl (dA 2, x.gsize, .inr (.inl T)))] ++ ([(vq, .inl (dA 2, x.gsize, .inr (.inl V)))] ++ ([(pp, .inr (12, [.ref oq, .ref tq, .ref vq, .int (nI x.gsize), .int (nI (cnt x.gsize (chB O))), .int (nI (64 * cnt x.gsize (chB O) + (bcG O T V x.gsize).1)), .int (nI ((64 * cnt x.gsize (chB O) + (bcG O T V x.gsize).1 + 32256 - 1) / 32256)), .long (grG T x.gsize)]))] ++ (VW dA h ad x))))) (VW dA h ad (VS.s_pl x (x.pl ++ ([(oq, .inl (dA 1, x.gsize, .inl (fun z9 => nI (O z9))))] ++ ([(tq, .inl (dA 2, x.gsize, .inr (.inl T)))] ++ ([(vq, .inl (dA 2, x.gsize, .inr (.inl V)))] ++ ([(pp, .inr (12, [.ref oq, .ref tq, .ref vq, .int (nI x.gsize), .int (nI (cnt x.gsize (chB O))), .int (nI (64 * cnt x.gsize (chB O) + (bcG O T V x.gsize).1)), .int (nI ((64 * cnt x.gsize (chB O) + (bcG O T V x.gsize).1 + 32256 - 1) / 32256)), .long (grG T x.gsize)]))]))))))) from plP4 (dA := dA) (h := h) (ad := ad) x ([(oq, .inl (dA 1, x.gsize, .inl (fun z9 => nI (O z9))))]) ([(tq, .inl (dA 2, x.gsize, .inr (.inl T)))]) ([(vq, .inl (dA 2, x.gsize, .inr (.inl V)))]) ([(pp, .inr (12, [.ref oq, .ref tq, .ref vq, .int (nI x.gsize), .int (nI (cnt x.gsize (chB O))), .int (nI (64 * cnt x.gsize (chB O) + (bcG O T V x.gsize).1)), .int (nI ((64 * cnt x.gsize (chB O) + (bcG O T V x.gsize).1 + 32256 - 1) / 32256)), .long (grG T x.gsize)]))])) hP
  have hD : va_D A (VW dA h ad (VS.s_pl x (x.pl ++ ([(oq, .inl (dA 1, x.gsize, .inl (fun z9 => nI (O z9))))] ++ ([(tq, .inl (dA 2, x.gsize, .inr (.inl T)))] ++ ([(vq, .inl (dA 2, x.gsize, .inr (.inl V)))] ++ ([(pp, .inr (12, [.ref oq, .ref tq, .ref vq, .int (nI x.gsize), .int (nI (cnt x.gsize (chB O))), .int (nI (64 * cnt x.gsize (chB O) + (bcG O T V x.gsize).1)), .int (nI ((64 * cnt x.gsize (chB O) + (bcG O T V x.gsize).1 + 32256 - 1) / 32256)), .long (grG T x.gsize)]))]))))))) := pmD (show List.Perm (α := Nat × va_E) ([(oq, .inl (dA 1, x.gsize, .inl (fun z9 => nI (O z9))))] ++ ([(tq, .inl (dA 2, x.gsize, .inr (.inl T)))] ++ ([(vq, .inl (dA 2, x.gsize, .inr (.inl V)))] ++ ([(pp, .inr (12, [.ref oq, .ref tq, .ref vq, .int (nI x.gsize), .int (nI (cnt x.gsize (chB O))), .int (nI (64 * cnt x.gsize (chB O) + (bcG O T V x.gsize).1)), .int (nI ((64 * cnt x.gsize (chB O) + (bcG O T V x.gsize).1 + 32256 - 1) / 32256)), .long (grG T x.gsize)]))] ++ (VW dA h ad x))))) (VW dA h ad (VS.s_pl x (x.pl ++ ([(oq, .inl (dA 1, x.gsize, .inl (fun z9 => nI (O z9))))] ++ ([(tq, .inl (dA 2, x.gsize, .inr (.inl T)))] ++ ([(vq, .inl (dA 2, x.gsize, .inr (.inl V)))] ++ ([(pp, .inr (12, [.ref oq, .ref tq, .ref vq, .int (nI x.gsize), .int (nI (cnt x.gsize (chB O))), .int (nI (64 * cnt x.gsize (chB O) + (bcG O T V x.gsize).1)), .int (nI ((64 * cnt x.gsize (chB O) + (bcG O T V x.gsize).1 + 32256 - 1) / 32256)), .long (grG T x.gsize)]))]))))))) from plP4 (dA := dA) (h := h) (ad := ad) x ([(oq, .inl (dA 1, x.gsize, .inl (fun z9 => nI (O z9))))]) ([(tq, .inl (dA 2, x.gsize, .inr (.inl T)))]) ([(vq, .inl (dA 2, x.gsize, .inr (.inl V)))]) ([(pp, .inr (12, [.ref oq, .ref tq, .ref vq, .int (nI x.gsize), .int (nI (cnt x.gsize (chB O))), .int (nI (64 * cnt x.gsize (chB O) + (bcG O T V x.gsize).1)), .int (nI ((64 * cnt x.gsize (chB O) + (bcG O T V x.gsize).1 + 32256 - 1) / 32256)), .long (grG T x.gsize)]))])) hD
  obtain ⟨pl8, e_pl8⟩ : ∃ z, z = x.pl ++ ([(oq, .inl (dA 1, x.gsize, .inl (fun z9 => nI (O z9))))] ++ ([(tq, .inl (dA 2, x.gsize, .inr (.inl T)))] ++ ([(vq, .inl (dA 2, x.gsize, .inr (.inl V)))] ++ ([(pp, .inr (12, [.ref oq, .ref tq, .ref vq, .int (nI x.gsize), .int (nI (cnt x.gsize (chB O))), .int (nI (64 * cnt x.gsize (chB O) + (bcG O T V x.gsize).1)), .int (nI ((64 * cnt x.gsize (chB O) + (bcG O T V x.gsize).1 + 32256 - 1) / 32256)), .long (grG T x.gsize)]))])))) := ⟨_, rfl⟩
  rw [← e_pl8] at hP hD
  have s_pl8 : ∀ c, c ∈ x.pl → c ∈ pl8 := by rw [e_pl8]; exact fun _ hm => List.mem_append_left _ hm
  have t_pl8_0 : ((oq, .inl (dA 1, x.gsize, .inl (fun z9 => nI (O z9)))) : Nat × va_E) ∈ pl8 := by rw [e_pl8]; exact List.mem_append_right _ (List.mem_of_getElem? (i := 0) rfl)
  have t_pl8_1 : ((tq, .inl (dA 2, x.gsize, .inr (.inl T))) : Nat × va_E) ∈ pl8 := by rw [e_pl8]; exact List.mem_append_right _ (List.mem_of_getElem? (i := 1) rfl)
  have t_pl8_2 : ((vq, .inl (dA 2, x.gsize, .inr (.inl V))) : Nat × va_E) ∈ pl8 := by rw [e_pl8]; exact List.mem_append_right _ (List.mem_of_getElem? (i := 2) rfl)
  have t_pl8_3 : ((pp, .inr (12, [.ref oq, .ref tq, .ref vq, .int (nI x.gsize), .int (nI (cnt x.gsize (chB O))), .int (nI (64 * cnt x.gsize (chB O) + (bcG O T V x.gsize).1)), .int (nI ((64 * cnt x.gsize (chB O) + (bcG O T V x.gsize).1 + 32256 - 1) / 32256)), .long (grG T x.gsize)])) : Nat × va_E) ∈ pl8 := by rw [e_pl8]; exact List.mem_append_right _ (List.mem_of_getElem? (i := 3) rfl)
  have hP : va_P D vwCl (VW dA h ad (VS.s_pl x pl8)) H := hP
  have hD : va_D A (VW dA h ad (VS.s_pl x pl8)) := hD
  exact rkR hx hb hr (Or.inl ⟨_, rfl⟩) hlk hS (⟨VS.s_pl x pl8, O, T, V⟩) ⟨⟨rfl, s_pl8⟩, isPc_n t_pl8_3 t_pl8_0 t_pl8_1 t_pl8_2, f_l1_4, f_l2_5, f_l3_6, f_l4_7⟩ hP hD (show 0 + 1 + 4 ≤ 5 by omega) (show 0 + 8 + (3 * x.gsize + x.nser + 1) ≤ 8 + (3 * x.gsize + x.nser + 1) by omega) d_V_packed_26
end
section
/-! Words: bytes that never change, as lists. -/
def isWo (dA : Nat → ClassId) (ws : va_W) (a : Nat) (L : List Int32) : Prop := ∃ (b : Nat) (f : Nat → Int32), (a, .inr (10, [.ref b])) ∈ ws ∧ (b, .inl (dA 0, L.length, .inl f)) ∈ ws ∧ byteF f ∧ ∀ i, i < L.length → f i = L.getD i 0
theorem isWo_m {dA : Nat → ClassId} {ws ws' : va_W} {a : Nat} {L : List Int32} (hs : ∀ c, c ∈ ws → c ∈ ws') (h : isWo dA ws a L) : isWo dA ws' a L := by
  obtain ⟨b, f, h1, h2, h3, h4⟩ := h
  exact ⟨b, f, hs _ h1, hs _ h2, h3, h4⟩
/-- the bytes from a to before b -/
def seg (f : Nat → Int32) (a b : Nat) : List Int32 := (List.range (b - a)).map (fun i => f (a + i))
theorem seg_len (f : Nat → Int32) (a b : Nat) : (seg f a b).length = b - a := by unfold seg; rw [List.length_map, List.length_range]
theorem seg_get (f : Nat → Int32) {a b i : Nat} (h : i < b - a) : (seg f a b).getD i 0 = f (a + i) := by
  unfold seg
  rw [List.getD_eq_getElem?_getD, List.getElem?_map, List.getElem?_range h]
  rfl
theorem isWo_n {dA : Nat → ClassId} {ws : va_W} {pp bq n : Nat} {g : Nat → Int32} {L : List Int32} (m1 : (pp, .inr (10, [.ref bq])) ∈ ws) (m2 : (bq, .inl (dA 0, n, .inl g)) ∈ ws) (hb : byteF g) (hn : L.length = n) (h : ∀ i, i < n → g i = L.getD i 0) : isWo dA ws pp L := by
  subst hn
  exact ⟨bq, g, m1, m2, hb, h⟩
theorem byteF_cpy {f g : Nat → Int32} {a b n : Nat} (hf : byteF f) (hg : byteF g) : byteF (va_cpy f g a b n) := by
  intro q
  unfold va_cpy
  split
  · exact hf _
  · exact hg _
theorem byteF_0 : byteF (fun _ => 0) := fun _ => show (0 : Int32).toInt8.toInt32 = 0 by decide
theorem byteF_up {f : Nat → Int32} {k : Nat} {v : Int32} (hf : byteF f) (hv : v.toInt8.toInt32 = v) : byteF (va_up f k v) := by
  intro q
  unfold va_up
  split
  · exact hv
  · exact hf q
def smB (L M : List Int32) (i : Nat) : Bool := decide (L.getD i 0 = M.getD i 0)
def sameW (L M : List Int32) : Bool := decide (L.length = M.length) && allB L.length (smB L M)
def begW (L M : List Int32) : Bool := decide (M.length ≤ L.length) && allB M.length (smB L M)
def dfB (L M : List Int32) (i : Nat) : Bool := !decide (L.getD i 0 = M.getD i 0)
def cmpW (L M : List Int32) : Int32 := match frst (dfB L M) (min L.length M.length) 0 with
  | none => nI L.length - nI M.length
  | some i => (L.getD i 0 &&& 255) - (M.getD i 0 &&& 255)
theorem cmpW_n {L M : List Int32} (h : frst (dfB L M) (min L.length M.length) 0 = none) : cmpW L M = nI L.length - nI M.length := by unfold cmpW; rw [h]
theorem cmpW_s {L M : List Int32} {i : Nat} (h : frst (dfB L M) (min L.length M.length) 0 = some i) : cmpW L M = (L.getD i 0 &&& 255) - (M.getD i 0 &&& 255) := by unfold cmpW; rw [h]
theorem allB_1 {n k : Nat} {f : Nat → Bool} (h : k < n) (hf : f k = false) : allB n f = false := allB_f (k := k + 1) (by rw [allB_s, hf, Bool.and_false]) h
section CL
variable {p : Program} {l : Launch} {e : Env} {R : Room} {s : State} {m : MethodId} {args : Array Value} {below : List Frame} {meth : Method} {c : Code} {H : Heap} {locs : List Loc} {cells slots : Nat} {Q : State → Prop}
variable {D : va_G} {dA : Nat → ClassId} {A : Nat → Prop} {cc : ByteArray} {pc : Nat} {ls : Array Slot} {rest st0 : List Value} {ws : va_W} {a : Nat}
theorem nclnB (hexec : p.tables.exec = Jvm.exec) (hb : c.code = cc) (hml : c.maxLocals = ls.size) {own : String} {index : Nat} (hown : s.vm.findClass own = some m.cls) (hE : eV s)
    (hlink : Cond.methodLink own index ⟨"[B", "clone", "()Ljava/lang/Object;"⟩ ∈ aW) (hsame : Cond.sameMethod "[B" "java/lang/Object" "clone" "()Ljava/lang/Object;" ∈ aW) (hnat : Cond.native ⟨"java/lang/Object", "clone", "()Ljava/lang/Object;"⟩ ∈ aW) (hinst : Cond.instanceMethod ⟨"java/lang/Object", "clone", "()Ljava/lang/Object;"⟩ ∈ aW) (hsel : Cond.selects "[B" ⟨"[B", "clone", "()Ljava/lang/Object;"⟩ ⟨"java/lang/Object", "clone", "()Ljava/lang/Object;"⟩ ∈ aW) (hcl : Cond.castable "[B" "java/lang/Cloneable" ∈ aW)
    (hK : va_K D vwCl (arT dA) s) (hP : va_P D vwCl ws H) (hD : va_D A ws) (hS : va_S A s.heap H locs) (hA : ∀ q, s.heap.size ≤ q → A q) (q0 : Nat) {n : Nat} {f : Nat → Int32} (ha : ws[q0]? = some (a, .inl (dA 0, n, .inl f))) (hby : byteF f)
    (hframes : 1 ≤ R.frames) (hlocals : (rest.map fun v => v.category).sum + 14 ≤ R.locals) (hcells : cells + 1 ≤ R.cells) (hslots : slots + n ≤ R.slots) (hdg : decode cc pc = .ok (.invokevirtual index, 3))
    (kk : ∀ (q : Nat) (H1 : Heap), va_P D vwCl ((q, .inl (dA 0, n, .inl f)) :: ws) H1 → va_D A ((q, .inl (dA 0, n, .inl f)) :: ws) → va_S A s.heap H1 locs → W p l e R s m args below meth c H1 locs (cells + 1) (slots + n) Q (F0 m (pc + 3) ls (.ref q :: rest))) : W p l e R s m args below meth c H locs cells slots Q (F0 m pc ls (.ref a :: rest)) := by
  refine va_clone (x := (n, .inl f)) hexec hb hml hown (hE.t hlink rfl) (hE.t hsame rfl) (hE.t hnat rfl) (hE.t hinst rfl) (hE.t hsel rfl) (hE.1 _ hcl) hK hP hD hS hA q0 0 ha rfl (hK.2 0 _ rfl).2 ?_ hframes hlocals hcells hslots hdg (fun q H1 _ g1 g2 g3 => kk q H1 (frP g1) (frD g2) g3)
  intro i v hv
  have hi : i < n := by
    have h1 := (Array.getElem?_eq_some_iff.mp hv).1
    rw [vp_cell_i, arrV_size] at h1
    exact h1
  rw [vp_cell_i, arrV_read _ _ hi] at hv
  cases hv
  exact byte_fit hby _
theorem ncstB (hexec : p.tables.exec = Jvm.exec) (hb : c.code = cc) {own : String} {index : Nat} (hown : s.vm.findClass own = some m.cls) (hE : eV s) (hlink : Cond.classLink own index "[B" ∈ aW) (hK : va_K D vwCl (arT dA) s) (hP : va_P D vwCl ws H) (q0 : Nat) {x : vp_A} (ha : ws[q0]? = some (a, .inl (dA 0, x))) (hdg : decode cc pc = .ok (.checkcast index, 3))
    (k : W p l e R s m args below meth c H locs cells slots Q (F0 m (pc + 3) ls (.ref a :: rest))) : W p l e R s m args below meth c H locs cells slots Q (F0 m pc ls (.ref a :: rest)) :=
  va_castA hexec hb hown (hE.t hlink rfl) hP q0 ha (hK.2 0 _ rfl).2 hdg k
end CL
theorem d_Arrays_checkLength_0 : decode prog_38_method_131_code 0 = .ok (.iload_n 1, 1) := by decide +kernel
theorem d_Arrays_checkLength_1 : decode prog_38_method_131_code 1 = .ok (.iload_n 0, 1) := by decide +kernel
theorem d_Arrays_checkLength_2 : decode prog_38_method_131_code 2 = .ok (.if_icmp .ge 35, 3) := by decide +kernel
theorem d_Arrays_checkLength_37 : decode prog_38_method_131_code 37 = .ok (.return_, 1) := by decide +kernel
set_option maxHeartbeats 4000000 in
set_option maxRecDepth 100000 in
theorem v_checkLength (l : Launch) (D : va_G) (dA : Nat → ClassId) (sz : Nat) (a : Nat) (b : Nat) (h1 : a ≤ b) (h2 : b ≤ 131072) : Met l ⟨"java/util/Arrays", "checkLength", "(II)V"⟩ [Cond.code ⟨"java/util/Arrays", "checkLength", "(II)V"⟩ prog_38_method_131_code 2 none] { frames := 1, cells := 0, slots := 0, locals := 0 } (pC D dA [.int (nI a), .int (nI b)] ([]) sz) (va_Qv (fun (u9 : Unit) => True) (fun (u9 : Unit) t9 => bW D (va_A ([]) sz) ([]) t9) (va_A ([]) sz)) 0 0 (va_A ([]) sz) := by
  refine mkC (y := ⟨"java/util/Arrays", "checkLength", "(II)V"⟩) (cc := prog_38_method_131_code) (maxL := 2) (av := [.int (nI a), .int (nI b)]) (ws := []) (sz := sz) (Qc := fun A => va_Qv (fun (u9 : Unit) => True) (fun (u9 : Unit) t9 => bW D A ([]) t9) A) (by decide) (Nat.le_of_ble_eq_true rfl) ?_
  intro A p e s m below meth c ls hsz hB
  obtain ⟨hx, hb, hr, hml, hown, hin, hlk, hE, hK, hP, hD, hS, hA, hN, hl⟩ := hB
  have hown : s.vm.findClass "java/util/Arrays" = some m.cls := hown
  have hl : lv_has ls 2 [(0, .int (nI a)), (1, .int (nI b))] := hl
  obtain ⟨H, hH⟩ : ∃ z, z = s.heap := ⟨_, rfl⟩
  have hP : va_P D vwCl ([]) H := by rw [hH]; exact hP
  have hS : va_S A s.heap H [] := by rw [hH]; exact hS
  rw [← hH]
  refine lv_iload_n hx hb d_Arrays_checkLength_0 rfl (lv_at hl 1 rfl) ?_
  refine lv_iload_n hx hb d_Arrays_checkLength_1 rfl (lv_at hl 0 rfl) ?_
  refine lv_icmp_ge hx hb d_Arrays_checkLength_2 (tgt := 37) rfl (fun _ => ?_) (fun h9 => absurd ((nI_leI (a := a) (b := b) (by omega) (by omega)).mpr h1) h9)
  exact rfV hx hb hr hlk hS () trivial hP hD (Nat.le_of_ble_eq_true rfl) (Nat.le_of_ble_eq_true rfl) d_Arrays_checkLength_37
theorem d_Arrays_copyOfRangeByte_0 : decode prog_38_method_133_code 0 = .ok (.iload_n 1, 1) := by decide +kernel
theorem d_Arrays_copyOfRangeByte_1 : decode prog_38_method_133_code 1 = .ok (.iload_n 2, 1) := by decide +kernel
theorem d_Arrays_copyOfRangeByte_2 : decode prog_38_method_133_code 2 = .ok (.invokestatic 343, 3) := by decide +kernel
theorem d_Arrays_copyOfRangeByte_5 : decode prog_38_method_133_code 5 = .ok (.iload_n 2, 1) := by decide +kernel
theorem d_Arrays_copyOfRangeByte_6 : decode prog_38_method_133_code 6 = .ok (.iload_n 1, 1) := by decide +kernel
theorem d_Arrays_copyOfRangeByte_7 : decode prog_38_method_133_code 7 = .ok (.isub, 1) := by decide +kernel
theorem d_Arrays_copyOfRangeByte_8 : decode prog_38_method_133_code 8 = .ok (.istore_n 3, 1) := by decide +kernel
theorem d_Arrays_copyOfRangeByte_9 : decode prog_38_method_133_code 9 = .ok (.iload_n 3, 1) := by decide +kernel
theorem d_Arrays_copyOfRangeByte_10 : decode prog_38_method_133_code 10 = .ok (.newarray .byte, 2) := by decide +kernel
theorem d_Arrays_copyOfRangeByte_12 : decode prog_38_method_133_code 12 = .ok (.astore 4, 2) := by decide +kernel
theorem d_Arrays_copyOfRangeByte_14 : decode prog_38_method_133_code 14 = .ok (.aload_n 0, 1) := by decide +kernel
theorem d_Arrays_copyOfRangeByte_15 : decode prog_38_method_133_code 15 = .ok (.iload_n 1, 1) := by decide +kernel
theorem d_Arrays_copyOfRangeByte_16 : decode prog_38_method_133_code 16 = .ok (.aload 4, 2) := by decide +kernel
theorem d_Arrays_copyOfRangeByte_18 : decode prog_38_method_133_code 18 = .ok (.iconst 0, 1) := by decide +kernel
theorem d_Arrays_copyOfRangeByte_19 : decode prog_38_method_133_code 19 = .ok (.aload_n 0, 1) := by decide +kernel
theorem d_Arrays_copyOfRangeByte_20 : decode prog_38_method_133_code 20 = .ok (.arraylength, 1) := by decide +kernel
theorem d_Arrays_copyOfRangeByte_21 : decode prog_38_method_133_code 21 = .ok (.iload_n 1, 1) := by decide +kernel
theorem d_Arrays_copyOfRangeByte_22 : decode prog_38_method_133_code 22 = .ok (.isub, 1) := by decide +kernel
theorem d_Arrays_copyOfRangeByte_23 : decode prog_38_method_133_code 23 = .ok (.iload_n 3, 1) := by decide +kernel
theorem d_Arrays_copyOfRangeByte_24 : decode prog_38_method_133_code 24 = .ok (.invokestatic 304, 3) := by decide +kernel
theorem d_Arrays_copyOfRangeByte_27 : decode prog_38_method_133_code 27 = .ok (.invokestatic 150, 3) := by decide +kernel
theorem d_Arrays_copyOfRangeByte_30 : decode prog_38_method_133_code 30 = .ok (.aload 4, 2) := by decide +kernel
theorem d_Arrays_copyOfRangeByte_32 : decode prog_38_method_133_code 32 = .ok (.areturn, 1) := by decide +kernel
theorem w1257 : Cond.methodLink "java/util/Arrays" 343 ⟨"java/util/Arrays", "checkLength", "(II)V"⟩ ∈ aW := aw_of (tb_3 (List.mem_of_getElem? (i := 238) rfl)) rfl
theorem w1258 : Cond.code ⟨"java/util/Arrays", "checkLength", "(II)V"⟩ prog_38_method_131_code 2 none ∈ aW := aw_of (tb_4 (List.mem_of_getElem? (i := 0) rfl)) rfl
theorem w1259 : Cond.static ⟨"java/util/Arrays", "checkLength", "(II)V"⟩ ∈ aW := aw_of (tb_3 (List.mem_of_getElem? (i := 239) rfl)) rfl
set_option maxHeartbeats 4000000 in
set_option maxRecDepth 100000 in
theorem v_copyRB (l : Launch) (D : va_G) (dA : Nat → ClassId) (sz : Nat) (ws : va_W) (arr : Nat) (n : Nat) (f : Nat → Int32) (a : Nat) (b : Nat) (m1 : (arr, .inl (dA 0, n, .inl f)) ∈ ws) (hby : byteF f) (h1 : a ≤ b) (h2 : b ≤ n) (h3 : n ≤ 131072) : Met l ⟨"java/util/Arrays", "copyOfRangeByte", "([BII)[B"⟩ [Cond.code ⟨"java/util/Arrays", "copyOfRangeByte", "([BII)[B"⟩ prog_38_method_133_code 5 (some (FieldType.array FieldType.byte))] { frames := 2, cells := 1, slots := b - a, locals := 40 } (pC D dA [.ref arr, .int (nI a), .int (nI b)] (ws) sz) (va_Qr (fun (_ : (Nat → Int32)) => True) (fun (u9 : (Nat → Int32)) (r9 : Nat) t9 => (byteF u9 ∧ ∀ i, i < b - a → u9 i = f (a + i)) ∧ bW D (va_A (ws) sz) ([(r9, .inl (dA 0, b - a, .inl u9))] ++ (ws)) t9) (va_A (ws) sz)) 1 (b - a) (va_A (ws) sz) := by
  refine mkC (y := ⟨"java/util/Arrays", "copyOfRangeByte", "([BII)[B"⟩) (cc := prog_38_method_133_code) (maxL := 5) (av := [.ref arr, .int (nI a), .int (nI b)]) (ws := ws) (sz := sz) (Qc := fun A => va_Qr (fun (_ : (Nat → Int32)) => True) (fun (u9 : (Nat → Int32)) (r9 : Nat) t9 => (byteF u9 ∧ ∀ i, i < b - a → u9 i = f (a + i)) ∧ bW D A ([(r9, .inl (dA 0, b - a, .inl u9))] ++ (ws)) t9) A) (by decide) (Nat.le_of_ble_eq_true rfl) ?_
  intro A p e s m below meth c ls hsz hB
  obtain ⟨hx, hb, hr, hml, hown, hin, hlk, hE, hK, hP, hD, hS, hA, hN, hl⟩ := hB
  have hown : s.vm.findClass "java/util/Arrays" = some m.cls := hown
  have hl : lv_has ls 5 [(0, .ref arr), (1, .int (nI a)), (2, .int (nI b))] := hl
  obtain ⟨H, hH⟩ : ∃ z, z = s.heap := ⟨_, rfl⟩
  have hP : va_P D vwCl (ws) H := by rw [hH]; exact hP
  have hS : va_S A s.heap H [] := by rw [hH]; exact hS
  rw [← hH]
  refine lv_iload_n hx hb d_Arrays_copyOfRangeByte_0 rfl (lv_at hl 1 rfl) ?_
  refine lv_iload_n hx hb d_Arrays_copyOfRangeByte_1 rfl (lv_at hl 2 rfl) ?_
  have hPc := hP.sub (ws' := []) [] rfl
  have hDc := hD.sub (ws' := []) [] (by decide) rfl
  refine jpV (rnS (As := [.int (nI a), .int (nI b)]) (rest := []) hx hb hml hown hE hK (hN _ _ hS) hPc hDc (v_checkLength l D dA H.size a b (show a ≤ b from by omega) (show b ≤ 131072 from by omega)) w1258 w1257 w1259 w712 rfl rfl ⟨⟨by decide, by decide⟩, rfl⟩ ⟨(Nat.le_of_ble_eq_true rfl), (Nat.le_of_ble_eq_true rfl)⟩ rfl hl.1 rfl (Nat.le_of_ble_eq_true rfl) d_Arrays_copyOfRangeByte_2 ⟨(show 0 + 0 ≤ 1 by omega), (show 0 + 0 ≤ b - a by omega)⟩) hP hD hS hA (fun u9 H locs hp9 hP hD hS => ?_)
  have hP : va_P D vwCl (ws) H := hP
  have hD : va_D A (ws) := hD
  refine lv_iload_n hx hb d_Arrays_copyOfRangeByte_5 rfl (lv_at hl 2 rfl) ?_
  refine lv_iload_n hx hb d_Arrays_copyOfRangeByte_6 rfl (lv_at hl 1 rfl) ?_
  refine lv_isub hx hb d_Arrays_copyOfRangeByte_7 (tpi (y := nI (b - a)) (pk_sub (a := b) (b := a) (by omega)) ?_)
  refine lv_istore_n hx hb d_Arrays_copyOfRangeByte_8 rfl hl (by decide) rfl (fun ls hl => ?_)
  have hl : lv_has ls 5 [(3, .int (nI (b - a))), (0, .ref arr), (1, .int (nI a)), (2, .int (nI b))] := hl
  refine lv_iload_n hx hb d_Arrays_copyOfRangeByte_9 rfl (lv_at hl 0 rfl) ?_
  refine nnA (atype := .byte) (ty := .byte) (N' := b - a) (a0 := (b - a, .inl (fun _ => 0))) hx hb hE rfl w496 hK hP hD hS hA 0 rfl (fun _ => rfl) (by omega) (show (b - a) * 1 ≤ 536870912 by omega) (show (0 + 0) + 1 ≤ 1 by omega) (show (0 + 0) + (b - a) ≤ b - a by omega) d_Arrays_copyOfRangeByte_10 (fun q3 H hP hD hS => ?_)
  have hP : va_P D vwCl ([(q3, .inl (dA 0, b - a, .inl (fun _ => 0)))] ++ (ws)) H := hP
  have hD : va_D A ([(q3, .inl (dA 0, b - a, .inl (fun _ => 0)))] ++ (ws)) := hD
  refine lv_astore hx hb d_Arrays_copyOfRangeByte_12 hl (by decide) rfl (fun ls hl => ?_)
  have hl : lv_has ls 5 [(4, .ref q3), (3, .int (nI (b - a))), (0, .ref arr), (1, .int (nI a)), (2, .int (nI b))] := hl
  refine lv_aload_n hx hb d_Arrays_copyOfRangeByte_14 rfl (lv_at hl 2 rfl) ?_
  refine lv_iload_n hx hb d_Arrays_copyOfRangeByte_15 rfl (lv_at hl 3 rfl) ?_
  refine lv_aload hx hb d_Arrays_copyOfRangeByte_16 (lv_at hl 0 rfl) ?_
  refine lv_iconst (v := 0) hx hb d_Arrays_copyOfRangeByte_18 (by decide) ?_
  refine lv_aload_n hx hb d_Arrays_copyOfRangeByte_19 rfl (lv_at hl 2 rfl) ?_
  obtain ⟨qp4, ep5⟩ := List.getElem?_of_mem (show ((arr, .inl (dA 0, n, .inl f)) : Nat × va_E) ∈ [(q3, .inl (dA 0, b - a, .inl (fun _ => 0)))] ++ (ws) from (List.mem_append_right _ m1))
  refine va_alen (v := nI n) hx hb hK hP (qp4) 0 ep5 rfl rfl d_Arrays_copyOfRangeByte_20 ?_
  refine lv_iload_n hx hb d_Arrays_copyOfRangeByte_21 rfl (lv_at hl 3 rfl) ?_
  refine lv_isub hx hb d_Arrays_copyOfRangeByte_22 (tpi (y := nI (n - a)) (pk_sub (a := n) (b := a) (by omega)) ?_)
  refine lv_iload_n hx hb d_Arrays_copyOfRangeByte_23 rfl (lv_at hl 1 rfl) ?_
  refine va_mmin hx hb (hml.trans hl.1.symm) hown (hE.t w1109 rfl) (hE.t w548 rfl) (hE.t w549 rfl) (hE.t w550 rfl) (Nat.le_of_ble_eq_true rfl) (Nat.le_of_ble_eq_true rfl) (show 0 + 0 + 1 ≤ 1 by omega) (show 0 + 0 + (b - a) ≤ b - a by omega) d_Arrays_copyOfRangeByte_24 (tpi (y := nI (min (n - a) (b - a))) (nI_min (a := n - a) (b := b - a) (by omega) (by omega)) ?_)
  obtain ⟨qp6, ep7⟩ := List.getElem?_of_mem (show ((arr, .inl (dA 0, n, .inl f)) : Nat × va_E) ∈ [(q3, .inl (dA 0, b - a, .inl (fun _ => 0)))] ++ (ws) from (List.mem_append_right _ m1))
  refine ncpyi (f := f) (g := (fun _ => 0)) (n0 := n) (n1 := b - a) hx hb (hml.trans hl.1.symm) hown (hE.t w1110 rfl) (hE.t w720 rfl) (hE.t w721 rfl) (hE.t w722 rfl) hK hP hD hS (qp6) (0) 0 ep7 rfl rfl rfl (a) (0) (min (n - a) (b - a)) (by omega) (by omega) (by omega) (by omega) (by omega) (fun _ _ => byte_fit hby _) (Nat.le_of_ble_eq_true rfl) (Nat.le_of_ble_eq_true rfl) d_Arrays_copyOfRangeByte_27 (fun H locs hP hD hS => ?_)
  have hP : va_P D vwCl ([(q3, .inl (dA 0, b - a, .inl (va_cpy f (fun _ => 0) a 0 (min (n - a) (b - a)))))] ++ (ws)) H := hP
  have hD : va_D A ([(q3, .inl (dA 0, b - a, .inl (va_cpy f (fun _ => 0) a 0 (min (n - a) (b - a)))))] ++ (ws)) := hD
  refine lv_aload hx hb d_Arrays_copyOfRangeByte_30 (lv_at hl 0 rfl) ?_
  exact rkR hx hb hr (Or.inr ⟨_, rfl⟩) hlk hS (va_cpy f (fun _ => 0) a 0 (min (n - a) (b - a))) ⟨byteF_cpy hby byteF_0, fun i hi => by unfold va_cpy; rw [if_pos (by omega), Nat.sub_zero]⟩ hP hD (show 0 + 0 + 1 ≤ 1 by omega) (show 0 + 0 + (b - a) ≤ b - a by omega) d_Arrays_copyOfRangeByte_32
theorem d_Arrays_copyOfRange_0 : decode prog_38_method_132_code 0 = .ok (.iload_n 1, 1) := by decide +kernel
theorem d_Arrays_copyOfRange_1 : decode prog_38_method_132_code 1 = .ok (.ifCond .ne 9, 3) := by decide +kernel
theorem d_Arrays_copyOfRange_10 : decode prog_38_method_132_code 10 = .ok (.aload_n 0, 1) := by decide +kernel
theorem d_Arrays_copyOfRange_11 : decode prog_38_method_132_code 11 = .ok (.iload_n 1, 1) := by decide +kernel
theorem d_Arrays_copyOfRange_12 : decode prog_38_method_132_code 12 = .ok (.iload_n 2, 1) := by decide +kernel
theorem d_Arrays_copyOfRange_13 : decode prog_38_method_132_code 13 = .ok (.invokestatic 339, 3) := by decide +kernel
theorem d_Arrays_copyOfRange_16 : decode prog_38_method_132_code 16 = .ok (.areturn, 1) := by decide +kernel
theorem d_Arrays_copyOfRange_4 : decode prog_38_method_132_code 4 = .ok (.iload_n 2, 1) := by decide +kernel
theorem d_Arrays_copyOfRange_5 : decode prog_38_method_132_code 5 = .ok (.aload_n 0, 1) := by decide +kernel
theorem d_Arrays_copyOfRange_6 : decode prog_38_method_132_code 6 = .ok (.arraylength, 1) := by decide +kernel
theorem d_Arrays_copyOfRange_7 : decode prog_38_method_132_code 7 = .ok (.if_icmp .eq 10, 3) := by decide +kernel
theorem d_Arrays_copyOfRange_17 : decode prog_38_method_132_code 17 = .ok (.aload_n 0, 1) := by decide +kernel
theorem d_Arrays_copyOfRange_18 : decode prog_38_method_132_code 18 = .ok (.invokevirtual 310, 3) := by decide +kernel
theorem d_Arrays_copyOfRange_21 : decode prog_38_method_132_code 21 = .ok (.checkcast 311, 3) := by decide +kernel
theorem d_Arrays_copyOfRange_24 : decode prog_38_method_132_code 24 = .ok (.areturn, 1) := by decide +kernel
theorem w1260 : Cond.methodLink "java/util/Arrays" 339 ⟨"java/util/Arrays", "copyOfRangeByte", "([BII)[B"⟩ ∈ aW := aw_of (tb_3 (List.mem_of_getElem? (i := 235) rfl)) rfl
theorem w1261 : Cond.code ⟨"java/util/Arrays", "copyOfRangeByte", "([BII)[B"⟩ prog_38_method_133_code 5 (some (FieldType.array FieldType.byte)) ∈ aW := aw_of (tb_3 (List.mem_of_getElem? (i := 237) rfl)) rfl
theorem w1262 : Cond.static ⟨"java/util/Arrays", "copyOfRangeByte", "([BII)[B"⟩ ∈ aW := aw_of (tb_3 (List.mem_of_getElem? (i := 236) rfl)) rfl
theorem w1263 : Cond.methodLink "java/util/Arrays" 310 ⟨"[B", "clone", "()Ljava/lang/Object;"⟩ ∈ aW := aw_of (tb_3 (List.mem_of_getElem? (i := 124) rfl)) rfl
theorem w1264 : Cond.sameMethod "[B" "java/lang/Object" "clone" "()Ljava/lang/Object;" ∈ aW := aw_of (tb_3 (List.mem_of_getElem? (i := 125) rfl)) rfl
theorem w1265 : Cond.native ⟨"java/lang/Object", "clone", "()Ljava/lang/Object;"⟩ ∈ aW := aw_of (tb_3 (List.mem_of_getElem? (i := 126) rfl)) rfl
theorem w1266 : Cond.instanceMethod ⟨"java/lang/Object", "clone", "()Ljava/lang/Object;"⟩ ∈ aW := aw_of (tb_3 (List.mem_of_getElem? (i := 127) rfl)) rfl
theorem w1267 : Cond.selects "[B" ⟨"[B", "clone", "()Ljava/lang/Object;"⟩ ⟨"java/lang/Object", "clone", "()Ljava/lang/Object;"⟩ ∈ aW := aw_of (tb_3 (List.mem_of_getElem? (i := 128) rfl)) rfl
theorem w1268 : Cond.castable "[B" "java/lang/Cloneable" ∈ aW := aw_of (tb_3 (List.mem_of_getElem? (i := 129) rfl)) rfl
theorem w1269 : Cond.classLink "java/util/Arrays" 311 "[B" ∈ aW := aw_of (tb_3 (List.mem_of_getElem? (i := 130) rfl)) rfl
set_option maxHeartbeats 4000000 in
set_option maxRecDepth 100000 in
theorem v_copyR (l : Launch) (D : va_G) (dA : Nat → ClassId) (sz : Nat) (ws : va_W) (arr : Nat) (n : Nat) (f : Nat → Int32) (a : Nat) (b : Nat) (m1 : (arr, .inl (dA 0, n, .inl f)) ∈ ws) (hby : byteF f) (h1 : a ≤ b) (h2 : b ≤ n) (h3 : n ≤ 131072) : Met l ⟨"java/util/Arrays", "copyOfRange", "([BII)[B"⟩ [Cond.code ⟨"java/util/Arrays", "copyOfRange", "([BII)[B"⟩ prog_38_method_132_code 3 (some (FieldType.array FieldType.byte))] { frames := 3, cells := 1, slots := b - a, locals := 64 } (pC D dA [.ref arr, .int (nI a), .int (nI b)] (ws) sz) (va_Qr (fun (_ : (Nat → Int32)) => True) (fun (u9 : (Nat → Int32)) (r9 : Nat) t9 => (byteF u9 ∧ ∀ i, i < b - a → u9 i = f (a + i)) ∧ bW D (va_A (ws) sz) ([(r9, .inl (dA 0, b - a, .inl u9))] ++ (ws)) t9) (va_A (ws) sz)) 1 (b - a) (va_A (ws) sz) := by
  refine mkC (y := ⟨"java/util/Arrays", "copyOfRange", "([BII)[B"⟩) (cc := prog_38_method_132_code) (maxL := 3) (av := [.ref arr, .int (nI a), .int (nI b)]) (ws := ws) (sz := sz) (Qc := fun A => va_Qr (fun (_ : (Nat → Int32)) => True) (fun (u9 : (Nat → Int32)) (r9 : Nat) t9 => (byteF u9 ∧ ∀ i, i < b - a → u9 i = f (a + i)) ∧ bW D A ([(r9, .inl (dA 0, b - a, .inl u9))] ++ (ws)) t9) A) (by decide) (Nat.le_of_ble_eq_true rfl) ?_
  intro A p e s m below meth c ls hsz hB
  obtain ⟨hx, hb, hr, hml, hown, hin, hlk, hE, hK, hP, hD, hS, hA, hN, hl⟩ := hB
  have hown : s.vm.findClass "java/util/Arrays" = some m.cls := hown
  have hl : lv_has ls 3 [(0, .ref arr), (1, .int (nI a)), (2, .int (nI b))] := hl
  obtain ⟨H, hH⟩ : ∃ z, z = s.heap := ⟨_, rfl⟩
  have hP : va_P D vwCl (ws) H := by rw [hH]; exact hP
  have hS : va_S A s.heap H [] := by rw [hH]; exact hS
  rw [← hH]
  refine lv_iload_n hx hb d_Arrays_copyOfRange_0 rfl (lv_at hl 1 rfl) ?_
  refine lv_if_ne hx hb d_Arrays_copyOfRange_1 (tgt := 10) rfl (fun g1 => ?_) (fun g1 => ?_)
  · have g1 := mt (nI_eq (a := a) (b := 0) (by omega) (by decide)).mpr g1
    refine lv_aload_n hx hb d_Arrays_copyOfRange_10 rfl (lv_at hl 0 rfl) ?_
    refine lv_iload_n hx hb d_Arrays_copyOfRange_11 rfl (lv_at hl 1 rfl) ?_
    refine lv_iload_n hx hb d_Arrays_copyOfRange_12 rfl (lv_at hl 2 rfl) ?_
    refine jkR (wr := []) (rnS (As := [.ref arr, .int (nI a), .int (nI b)]) (rest := []) hx hb hml hown hE hK (hN _ _ hS) hP hD (v_copyRB l D dA H.size ws arr n f a b m1 hby (show a ≤ b from by omega) (show b ≤ n from by omega) (show n ≤ 131072 from by omega)) w1261 w1260 w1262 w712 rfl rfl ⟨⟨by decide, by decide⟩, rfl⟩ ⟨(Nat.le_of_ble_eq_true rfl), (Nat.le_of_ble_eq_true rfl)⟩ rfl hl.1 rfl (Nat.le_of_ble_eq_true rfl) d_Arrays_copyOfRange_13 ⟨(show 0 + 1 ≤ 1 by omega), (show 0 + (b - a) ≤ b - a by omega)⟩) hP hD hS hA (fun u3 r2 H locs hp9 hP hD hS => ?_)
    obtain ⟨g4, h9u⟩ : ∃ z9, z9 = u3 := ⟨_, rfl⟩
    subst h9u
    have hP : va_P D vwCl ([(r2, .inl (dA 0, b - a, .inl g4))] ++ (ws)) H := hP
    have hD : va_D A ([(r2, .inl (dA 0, b - a, .inl g4))] ++ (ws)) := hD
    obtain ⟨f_y_5, f_hg_6⟩ := hp9
    exact rkR hx hb hr (Or.inr ⟨_, rfl⟩) hlk hS g4 ⟨f_y_5, f_hg_6⟩ hP hD (show 0 + 1 ≤ 1 by omega) (show 0 + (b - a) ≤ b - a by omega) d_Arrays_copyOfRange_16
  · have g1 := (nI_eq (a := a) (b := 0) (by omega) (by decide)).mp g1
    refine lv_iload_n hx hb d_Arrays_copyOfRange_4 rfl (lv_at hl 2 rfl) ?_
    refine lv_aload_n hx hb d_Arrays_copyOfRange_5 rfl (lv_at hl 0 rfl) ?_
    obtain ⟨qp7, ep8⟩ := List.getElem?_of_mem (show ((arr, .inl (dA 0, n, .inl f)) : Nat × va_E) ∈ ws from m1)
    refine va_alen (v := nI n) hx hb hK hP (qp7) 0 ep8 rfl rfl d_Arrays_copyOfRange_6 ?_
    refine lv_icmp_eq hx hb d_Arrays_copyOfRange_7 (tgt := 17) rfl (fun g9 => ?_) (fun g9 => ?_)
    · have g9 := (nI_eq (a := b) (b := n) (by omega) (by omega)).mp g9
      have e0 : a = 0 := g1
      have e1 : b = n := g9
      have e2 : n = b - a := by omega
      refine lv_aload_n hx hb d_Arrays_copyOfRange_17 rfl (lv_at hl 0 rfl) ?_
      obtain ⟨qp10, ep11⟩ := List.getElem?_of_mem (show ((arr, .inl (dA 0, n, .inl f)) : Nat × va_E) ∈ ws from m1)
      refine nclnB hx hb (hml.trans hl.1.symm) hown hE w1263 w1264 w1265 w1266 w1267 w1268 hK hP hD hS hA (qp10) ep11 hby (Nat.le_of_ble_eq_true rfl) (Nat.le_of_ble_eq_true rfl) (show 0 + 1 ≤ 1 by omega) (show 0 + n ≤ b - a by omega) d_Arrays_copyOfRange_18 (fun q12 H hP hD hS => ?_)
      have hP : va_P D vwCl ([(q12, .inl (dA 0, n, .inl f))] ++ (ws)) H := hP
      have hD : va_D A ([(q12, .inl (dA 0, n, .inl f))] ++ (ws)) := hD
      refine ncstB hx hb hown hE w1269 hK hP (0) rfl d_Arrays_copyOfRange_21 ?_
      rw [e2] at hP hD
      exact rkR hx hb hr (Or.inr ⟨_, rfl⟩) hlk hS f ⟨hby, fun i hi => by rw [e0, Nat.zero_add]⟩ hP hD (show 0 + 1 ≤ 1 by omega) (show 0 + n ≤ b - a by omega) d_Arrays_copyOfRange_24
    · have g9 := mt (nI_eq (a := b) (b := n) (by omega) (by omega)).mpr g9
      refine lv_aload_n hx hb d_Arrays_copyOfRange_10 rfl (lv_at hl 0 rfl) ?_
      refine lv_iload_n hx hb d_Arrays_copyOfRange_11 rfl (lv_at hl 1 rfl) ?_
      refine lv_iload_n hx hb d_Arrays_copyOfRange_12 rfl (lv_at hl 2 rfl) ?_
      refine jkR (wr := []) (rnS (As := [.ref arr, .int (nI a), .int (nI b)]) (rest := []) hx hb hml hown hE hK (hN _ _ hS) hP hD (v_copyRB l D dA H.size ws arr n f a b m1 hby (show a ≤ b from by omega) (show b ≤ n from by omega) (show n ≤ 131072 from by omega)) w1261 w1260 w1262 w712 rfl rfl ⟨⟨by decide, by decide⟩, rfl⟩ ⟨(Nat.le_of_ble_eq_true rfl), (Nat.le_of_ble_eq_true rfl)⟩ rfl hl.1 rfl (Nat.le_of_ble_eq_true rfl) d_Arrays_copyOfRange_13 ⟨(show 0 + 1 ≤ 1 by omega), (show 0 + (b - a) ≤ b - a by omega)⟩) hP hD hS hA (fun u14 r13 H locs hp9 hP hD hS => ?_)
      obtain ⟨g15, h9u⟩ : ∃ z9, z9 = u14 := ⟨_, rfl⟩
      subst h9u
      have hP : va_P D vwCl ([(r13, .inl (dA 0, b - a, .inl g15))] ++ (ws)) H := hP
      have hD : va_D A ([(r13, .inl (dA 0, b - a, .inl g15))] ++ (ws)) := hD
      obtain ⟨f_y_16, f_hg_17⟩ := hp9
      exact rkR hx hb hr (Or.inr ⟨_, rfl⟩) hlk hS g15 ⟨f_y_16, f_hg_17⟩ hP hD (show 0 + 1 ≤ 1 by omega) (show 0 + (b - a) ≤ b - a by omega) d_Arrays_copyOfRange_16
theorem d_W_init_0 : decode prog_12_method_1_code 0 = .ok (.aload_n 0, 1) := by decide +kernel
theorem d_W_init_1 : decode prog_12_method_1_code 1 = .ok (.invokespecial 3, 3) := by decide +kernel
theorem d_W_init_4 : decode prog_12_method_1_code 4 = .ok (.aload_n 0, 1) := by decide +kernel
theorem d_W_init_5 : decode prog_12_method_1_code 5 = .ok (.aload_n 1, 1) := by decide +kernel
theorem d_W_init_6 : decode prog_12_method_1_code 6 = .ok (.iload_n 2, 1) := by decide +kernel
theorem d_W_init_7 : decode prog_12_method_1_code 7 = .ok (.iload_n 3, 1) := by decide +kernel
theorem d_W_init_8 : decode prog_12_method_1_code 8 = .ok (.invokestatic 9, 3) := by decide +kernel
theorem d_W_init_11 : decode prog_12_method_1_code 11 = .ok (.putfield 15, 3) := by decide +kernel
theorem d_W_init_14 : decode prog_12_method_1_code 14 = .ok (.return_, 1) := by decide +kernel
theorem w1270 : Cond.methodLink "SeriesVault$Word" 3 ⟨"java/lang/Object", "<init>", "()V"⟩ ∈ aW := aw_of (tb_3 (List.mem_of_getElem? (i := 231) rfl)) rfl
theorem w1271 : Cond.methodLink "SeriesVault$Word" 9 ⟨"java/util/Arrays", "copyOfRange", "([BII)[B"⟩ ∈ aW := aw_of (tb_3 (List.mem_of_getElem? (i := 232) rfl)) rfl
theorem w1272 : Cond.code ⟨"java/util/Arrays", "copyOfRange", "([BII)[B"⟩ prog_38_method_132_code 3 (some (FieldType.array FieldType.byte)) ∈ aW := aw_of (tb_3 (List.mem_of_getElem? (i := 234) rfl)) rfl
theorem w1273 : Cond.static ⟨"java/util/Arrays", "copyOfRange", "([BII)[B"⟩ ∈ aW := aw_of (tb_3 (List.mem_of_getElem? (i := 233) rfl)) rfl
theorem w1274 : Cond.fieldLink "SeriesVault$Word" 15 "SeriesVault$Word" "bytes" "[B" ∈ aW := aw_of (tb_4 (List.mem_of_getElem? (i := 219) rfl)) rfl
set_option maxHeartbeats 4000000 in
set_option maxRecDepth 100000 in
theorem v_Winit (l : Launch) (D : va_G) (dA : Nat → ClassId) (sz : Nat) (ws : va_W) (pp : Nat) (arr : Nat) (n : Nat) (f : Nat → Int32) (a : Nat) (b : Nat) (m1 : (arr, .inl (dA 0, n, .inl f)) ∈ ws) (hby : byteF f) (h1 : a ≤ b) (h2 : b ≤ n) (h3 : n ≤ 131072) : Met l ⟨"SeriesVault$Word", "<init>", "([BII)V"⟩ [Cond.code ⟨"SeriesVault$Word", "<init>", "([BII)V"⟩ prog_12_method_1_code 4 none] { frames := 4, cells := 1, slots := b - a, locals := 86 } (pC D dA [.ref pp, .ref arr, .int (nI a), .int (nI b)] ([(pp, .inr (10, [.null]))] ++ (ws)) sz) (va_Qv (fun (u9 : Nat × (Nat → Int32)) => byteF u9.2 ∧ ∀ i, i < b - a → u9.2 i = f (a + i)) (fun (u9 : Nat × (Nat → Int32)) t9 => bW D (va_A ([(pp, .inr (10, [.null]))] ++ (ws)) sz) ([(u9.1, .inl (dA 0, b - a, .inl u9.2))] ++ ([(pp, .inr (10, [.ref u9.1]))] ++ (ws))) t9) (va_A ([(pp, .inr (10, [.null]))] ++ (ws)) sz)) 1 (b - a) (va_A ([(pp, .inr (10, [.null]))] ++ (ws)) sz) := by
  refine mkC (y := ⟨"SeriesVault$Word", "<init>", "([BII)V"⟩) (cc := prog_12_method_1_code) (maxL := 4) (av := [.ref pp, .ref arr, .int (nI a), .int (nI b)]) (ws := [(pp, .inr (10, [.null]))] ++ (ws)) (sz := sz) (Qc := fun A => va_Qv (fun (u9 : Nat × (Nat → Int32)) => byteF u9.2 ∧ ∀ i, i < b - a → u9.2 i = f (a + i)) (fun (u9 : Nat × (Nat → Int32)) t9 => bW D A ([(u9.1, .inl (dA 0, b - a, .inl u9.2))] ++ ([(pp, .inr (10, [.ref u9.1]))] ++ (ws))) t9) A) (by decide) (Nat.le_of_ble_eq_true rfl) ?_
  intro A p e s m below meth c ls hsz hB
  obtain ⟨hx, hb, hr, hml, hown, hin, hlk, hE, hK, hP, hD, hS, hA, hN, hl⟩ := hB
  have hown : s.vm.findClass "SeriesVault$Word" = some m.cls := hown
  have hl : lv_has ls 4 [(0, .ref pp), (1, .ref arr), (2, .int (nI a)), (3, .int (nI b))] := hl
  obtain ⟨H, hH⟩ : ∃ z, z = s.heap := ⟨_, rfl⟩
  have hP : va_P D vwCl ([(pp, .inr (10, [.null]))] ++ (ws)) H := by rw [hH]; exact hP
  have hS : va_S A s.heap H [] := by rw [hH]; exact hS
  rw [← hH]
  refine lv_aload_n hx hb d_W_init_0 rfl (lv_at hl 0 rfl) ?_
  refine oI hx hb hown hE w1270 w182 w183 (hl.1.trans hml.symm) d_W_init_1 (Nat.le_of_ble_eq_true rfl) (Nat.le_of_ble_eq_true rfl) ?_
  refine lv_aload_n hx hb d_W_init_4 rfl (lv_at hl 0 rfl) ?_
  refine lv_aload_n hx hb d_W_init_5 rfl (lv_at hl 1 rfl) ?_
  refine lv_iload_n hx hb d_W_init_6 rfl (lv_at hl 2 rfl) ?_
  refine lv_iload_n hx hb d_W_init_7 rfl (lv_at hl 3 rfl) ?_
  refine jkR (wr := []) (rnS (As := [.ref arr, .int (nI a), .int (nI b)]) (rest := [.ref pp]) hx hb hml hown hE hK (hN _ _ hS) hP hD (v_copyR l D dA H.size ([(pp, .inr (10, [.null]))] ++ (ws)) arr n f a b (List.mem_append_right _ m1) hby (show a ≤ b from by omega) (show b ≤ n from by omega) (show n ≤ 131072 from by omega)) w1272 w1271 w1273 w712 rfl rfl ⟨⟨by decide, by decide⟩, rfl⟩ ⟨(Nat.le_of_ble_eq_true rfl), (Nat.le_of_ble_eq_true rfl)⟩ rfl hl.1 rfl (Nat.le_of_ble_eq_true rfl) d_W_init_8 ⟨(show 0 + 1 ≤ 1 by omega), (show 0 + (b - a) ≤ b - a by omega)⟩) hP hD hS hA (fun u2 r1 H locs hp9 hP hD hS => ?_)
  obtain ⟨g3, h9u⟩ : ∃ z9, z9 = u2 := ⟨_, rfl⟩
  subst h9u
  have hP : va_P D vwCl ([(r1, .inl (dA 0, b - a, .inl g3))] ++ ([(pp, .inr (10, [.null]))] ++ (ws))) H := hP
  have hD : va_D A ([(r1, .inl (dA 0, b - a, .inl g3))] ++ ([(pp, .inr (10, [.null]))] ++ (ws))) := hD
  obtain ⟨f_y_4, f_hg_5⟩ := hp9
  refine pFF (v := .ref r1) hx hb hown hE hK hP hD hS 1 rfl rfl layW tyW tokW nmW 0 (by decide) w1274 rfl hin rfl rfl rfl (Nat.le_of_ble_eq_true rfl) d_W_init_11 (fun H locs hP hD hS => ?_)
  have hP : va_P D vwCl ([(r1, .inl (dA 0, b - a, .inl g3))] ++ ([(pp, .inr (10, [.ref r1]))] ++ (ws))) H := hP
  have hD : va_D A ([(r1, .inl (dA 0, b - a, .inl g3))] ++ ([(pp, .inr (10, [.ref r1]))] ++ (ws))) := hD
  exact rfV hx hb hr hlk hS (⟨r1, g3⟩) ⟨f_y_4, f_hg_5⟩ hP hD (show 0 + 1 ≤ 1 by omega) (show 0 + (b - a) ≤ b - a by omega) d_W_init_14
theorem d_W_at_0 : decode prog_12_method_2_code 0 = .ok (.iload_n 1, 1) := by decide +kernel
theorem d_W_at_1 : decode prog_12_method_2_code 1 = .ok (.ifCond .lt 12, 3) := by decide +kernel
theorem d_W_at_13 : decode prog_12_method_2_code 13 = .ok (.iconst (-1), 1) := by decide +kernel
theorem d_W_at_14 : decode prog_12_method_2_code 14 = .ok (.goto 13, 3) := by decide +kernel
theorem d_W_at_27 : decode prog_12_method_2_code 27 = .ok (.ireturn, 1) := by decide +kernel
theorem d_W_at_4 : decode prog_12_method_2_code 4 = .ok (.iload_n 1, 1) := by decide +kernel
theorem d_W_at_5 : decode prog_12_method_2_code 5 = .ok (.aload_n 0, 1) := by decide +kernel
theorem d_W_at_6 : decode prog_12_method_2_code 6 = .ok (.getfield 15, 3) := by decide +kernel
theorem d_W_at_9 : decode prog_12_method_2_code 9 = .ok (.arraylength, 1) := by decide +kernel
theorem d_W_at_10 : decode prog_12_method_2_code 10 = .ok (.if_icmp .lt 7, 3) := by decide +kernel
set_option maxHeartbeats 4000000 in
set_option maxRecDepth 100000 in
theorem v_Wat_n (l : Launch) (D : va_G) (dA : Nat → ClassId) (sz : Nat) (ws : va_W) (wa : Nat) (L : List Int32) (k : Int32) (hwwa : isWo dA ws wa L) (hlwa : L.length ≤ 65536) (h0 : k < 0 ∨ nI L.length ≤ k) : Met l ⟨"SeriesVault$Word", "at", "(I)I"⟩ [Cond.code ⟨"SeriesVault$Word", "at", "(I)I"⟩ prog_12_method_2_code 2 (some FieldType.int)] { frames := 1, cells := 0, slots := 0, locals := 0 } (pC D dA [.ref wa, .int k] (ws) sz) (va_Qi (fun (r9 : Int32) (u9 : Unit) => r9 = (-1)) (fun (u9 : Unit) t9 => bW D (va_A (ws) sz) (ws) t9) (va_A (ws) sz)) 0 0 (va_A (ws) sz) := by
  refine mkC (y := ⟨"SeriesVault$Word", "at", "(I)I"⟩) (cc := prog_12_method_2_code) (maxL := 2) (av := [.ref wa, .int k]) (ws := ws) (sz := sz) (Qc := fun A => va_Qi (fun (r9 : Int32) (u9 : Unit) => r9 = (-1)) (fun (u9 : Unit) t9 => bW D A (ws) t9) A) (by decide) (Nat.le_of_ble_eq_true rfl) ?_
  intro A p e s m below meth c ls hsz hB
  obtain ⟨hx, hb, hr, hml, hown, hin, hlk, hE, hK, hP, hD, hS, hA, hN, hl⟩ := hB
  have hown : s.vm.findClass "SeriesVault$Word" = some m.cls := hown
  have hl : lv_has ls 2 [(0, .ref wa), (1, .int k)] := hl
  obtain ⟨H, hH⟩ : ∃ z, z = s.heap := ⟨_, rfl⟩
  have hP : va_P D vwCl (ws) H := by rw [hH]; exact hP
  have hS : va_S A s.heap H [] := by rw [hH]; exact hS
  rw [← hH]
  obtain ⟨b_wa, f_wa, m1wa, m2wa, y_wa, hfwa⟩ := hwwa
  refine lv_iload_n hx hb d_W_at_0 rfl (lv_at hl 1 rfl) ?_
  refine lv_if_lt hx hb d_W_at_1 (tgt := 13) rfl (fun g1 => ?_) (fun g1 => ?_)
  · have g1 := g1
    refine lv_iconst (v := (-1)) hx hb d_W_at_13 (by decide) ?_
    refine lv_goto hx hb d_W_at_14 (tgt := 27) rfl ?_
    exact rfI hx hb hr hlk hS () rfl hP hD (Nat.le_of_ble_eq_true rfl) (Nat.le_of_ble_eq_true rfl) d_W_at_27
  · have g1 := g1
    refine lv_iload_n hx hb d_W_at_4 rfl (lv_at hl 1 rfl) ?_
    refine lv_aload_n hx hb d_W_at_5 rfl (lv_at hl 0 rfl) ?_
    obtain ⟨qp2, ep3⟩ := List.getElem?_of_mem (show ((wa, .inr (10, [.ref b_wa])) : Nat × va_E) ∈ ws from m1wa)
    refine gF (v := .ref b_wa) hx hb hown hE hK hP qp2 ep3 rfl layW 0 (by decide) w1274 rfl d_W_at_6 ?_
    obtain ⟨qp4, ep5⟩ := List.getElem?_of_mem (show ((b_wa, .inl (dA 0, L.length, .inl f_wa)) : Nat × va_E) ∈ ws from m2wa)
    refine va_alen (v := nI L.length) hx hb hK hP (qp4) 0 ep5 rfl rfl d_W_at_9 ?_
    refine lv_icmp_lt hx hb d_W_at_10 (tgt := 17) rfl (fun h9 => absurd h9 (Int32.not_lt.mpr (h0.resolve_left g1))) (fun _ => ?_)
    refine lv_iconst (v := (-1)) hx hb d_W_at_13 (by decide) ?_
    refine lv_goto hx hb d_W_at_14 (tgt := 27) rfl ?_
    exact rfI hx hb hr hlk hS () rfl hP hD (Nat.le_of_ble_eq_true rfl) (Nat.le_of_ble_eq_true rfl) d_W_at_27
theorem d_W_at_17 : decode prog_12_method_2_code 17 = .ok (.aload_n 0, 1) := by decide +kernel
theorem d_W_at_18 : decode prog_12_method_2_code 18 = .ok (.getfield 15, 3) := by decide +kernel
theorem d_W_at_21 : decode prog_12_method_2_code 21 = .ok (.iload_n 1, 1) := by decide +kernel
theorem d_W_at_22 : decode prog_12_method_2_code 22 = .ok (.baload, 1) := by decide +kernel
theorem d_W_at_23 : decode prog_12_method_2_code 23 = .ok (.sipush 255, 3) := by decide +kernel
theorem d_W_at_26 : decode prog_12_method_2_code 26 = .ok (.iand, 1) := by decide +kernel
set_option maxHeartbeats 4000000 in
set_option maxRecDepth 100000 in
theorem v_Wat (l : Launch) (D : va_G) (dA : Nat → ClassId) (sz : Nat) (ws : va_W) (wa : Nat) (L : List Int32) (k : Nat) (hwwa : isWo dA ws wa L) (hlwa : L.length ≤ 65536) (hk : k < L.length) : Met l ⟨"SeriesVault$Word", "at", "(I)I"⟩ [Cond.code ⟨"SeriesVault$Word", "at", "(I)I"⟩ prog_12_method_2_code 2 (some FieldType.int)] { frames := 1, cells := 0, slots := 0, locals := 0 } (pC D dA [.ref wa, .int (nI k)] (ws) sz) (va_Qi (fun (r9 : Int32) (u9 : Unit) => r9 = L.getD k 0 &&& 255) (fun (u9 : Unit) t9 => bW D (va_A (ws) sz) (ws) t9) (va_A (ws) sz)) 0 0 (va_A (ws) sz) := by
  refine mkC (y := ⟨"SeriesVault$Word", "at", "(I)I"⟩) (cc := prog_12_method_2_code) (maxL := 2) (av := [.ref wa, .int (nI k)]) (ws := ws) (sz := sz) (Qc := fun A => va_Qi (fun (r9 : Int32) (u9 : Unit) => r9 = L.getD k 0 &&& 255) (fun (u9 : Unit) t9 => bW D A (ws) t9) A) (by decide) (Nat.le_of_ble_eq_true rfl) ?_
  intro A p e s m below meth c ls hsz hB
  obtain ⟨hx, hb, hr, hml, hown, hin, hlk, hE, hK, hP, hD, hS, hA, hN, hl⟩ := hB
  have hown : s.vm.findClass "SeriesVault$Word" = some m.cls := hown
  have hl : lv_has ls 2 [(0, .ref wa), (1, .int (nI k))] := hl
  obtain ⟨H, hH⟩ : ∃ z, z = s.heap := ⟨_, rfl⟩
  have hP : va_P D vwCl (ws) H := by rw [hH]; exact hP
  have hS : va_S A s.heap H [] := by rw [hH]; exact hS
  rw [← hH]
  obtain ⟨b_wa, f_wa, m1wa, m2wa, y_wa, hfwa⟩ := hwwa
  refine lv_iload_n hx hb d_W_at_0 rfl (lv_at hl 1 rfl) ?_
  refine lv_if_lt hx hb d_W_at_1 (tgt := 13) rfl (fun h9 => absurd h9 (nI_pos (n := k) (by omega))) (fun _ => ?_)
  refine lv_iload_n hx hb d_W_at_4 rfl (lv_at hl 1 rfl) ?_
  refine lv_aload_n hx hb d_W_at_5 rfl (lv_at hl 0 rfl) ?_
  obtain ⟨qp1, ep2⟩ := List.getElem?_of_mem (show ((wa, .inr (10, [.ref b_wa])) : Nat × va_E) ∈ ws from m1wa)
  refine gF (v := .ref b_wa) hx hb hown hE hK hP qp1 ep2 rfl layW 0 (by decide) w1274 rfl d_W_at_6 ?_
  obtain ⟨qp3, ep4⟩ := List.getElem?_of_mem (show ((b_wa, .inl (dA 0, L.length, .inl f_wa)) : Nat × va_E) ∈ ws from m2wa)
  refine va_alen (v := nI L.length) hx hb hK hP (qp3) 0 ep4 rfl rfl d_W_at_9 ?_
  refine lv_icmp_lt hx hb d_W_at_10 (tgt := 17) rfl (fun _ => ?_) (fun h9 => absurd ((nI_ltI (a := k) (b := L.length) (by omega) (by omega)).mpr hk) h9)
  refine lv_aload_n hx hb d_W_at_17 rfl (lv_at hl 0 rfl) ?_
  obtain ⟨qp5, ep6⟩ := List.getElem?_of_mem (show ((wa, .inr (10, [.ref b_wa])) : Nat × va_E) ∈ ws from m1wa)
  refine gF (v := .ref b_wa) hx hb hown hE hK hP qp5 ep6 rfl layW 0 (by decide) w1274 rfl d_W_at_18 ?_
  refine lv_iload_n hx hb d_W_at_21 rfl (lv_at hl 1 rfl) ?_
  obtain ⟨qp7, ep8⟩ := List.getElem?_of_mem (show ((b_wa, .inl (dA 0, L.length, .inl f_wa)) : Nat × va_E) ∈ ws from m2wa)
  refine nbld (f := f_wa) (n := L.length) hx hb hK hP (qp7) 0 ep8 rfl (k) (by omega) (by omega) d_W_at_22 ?_
  refine tpi (y := (L.getD k 0)) (hfwa k hk) ?_
  refine lv_sipush (v := 255) hx hb d_W_at_23 (by decide) ?_
  refine lv_iand hx hb d_W_at_26 ?_
  exact rfI hx hb hr hlk hS () rfl hP hD (Nat.le_of_ble_eq_true rfl) (Nat.le_of_ble_eq_true rfl) d_W_at_27
theorem d_W_same_0 : decode prog_12_method_4_code 0 = .ok (.aload_n 0, 1) := by decide +kernel
theorem d_W_same_1 : decode prog_12_method_4_code 1 = .ok (.getfield 15, 3) := by decide +kernel
theorem d_W_same_4 : decode prog_12_method_4_code 4 = .ok (.arraylength, 1) := by decide +kernel
theorem d_W_same_5 : decode prog_12_method_4_code 5 = .ok (.aload_n 1, 1) := by decide +kernel
theorem d_W_same_6 : decode prog_12_method_4_code 6 = .ok (.getfield 15, 3) := by decide +kernel
theorem d_W_same_9 : decode prog_12_method_4_code 9 = .ok (.arraylength, 1) := by decide +kernel
theorem d_W_same_10 : decode prog_12_method_4_code 10 = .ok (.if_icmp .eq 5, 3) := by decide +kernel
theorem d_W_same_15 : decode prog_12_method_4_code 15 = .ok (.iconst 0, 1) := by decide +kernel
theorem d_W_same_16 : decode prog_12_method_4_code 16 = .ok (.istore_n 2, 1) := by decide +kernel
theorem d_W_same_17 : decode prog_12_method_4_code 17 = .ok (.iload_n 2, 1) := by decide +kernel
theorem d_W_same_18 : decode prog_12_method_4_code 18 = .ok (.aload_n 0, 1) := by decide +kernel
theorem d_W_same_19 : decode prog_12_method_4_code 19 = .ok (.getfield 15, 3) := by decide +kernel
theorem d_W_same_22 : decode prog_12_method_4_code 22 = .ok (.arraylength, 1) := by decide +kernel
theorem d_W_same_23 : decode prog_12_method_4_code 23 = .ok (.if_icmp .ge 26, 3) := by decide +kernel
theorem d_W_same_49 : decode prog_12_method_4_code 49 = .ok (.iconst 1, 1) := by decide +kernel
theorem d_W_same_50 : decode prog_12_method_4_code 50 = .ok (.ireturn, 1) := by decide +kernel
theorem d_W_same_26 : decode prog_12_method_4_code 26 = .ok (.aload_n 0, 1) := by decide +kernel
theorem d_W_same_27 : decode prog_12_method_4_code 27 = .ok (.getfield 15, 3) := by decide +kernel
theorem d_W_same_30 : decode prog_12_method_4_code 30 = .ok (.iload_n 2, 1) := by decide +kernel
theorem d_W_same_31 : decode prog_12_method_4_code 31 = .ok (.baload, 1) := by decide +kernel
theorem d_W_same_32 : decode prog_12_method_4_code 32 = .ok (.aload_n 1, 1) := by decide +kernel
theorem d_W_same_33 : decode prog_12_method_4_code 33 = .ok (.getfield 15, 3) := by decide +kernel
theorem d_W_same_36 : decode prog_12_method_4_code 36 = .ok (.iload_n 2, 1) := by decide +kernel
theorem d_W_same_37 : decode prog_12_method_4_code 37 = .ok (.baload, 1) := by decide +kernel
theorem d_W_same_38 : decode prog_12_method_4_code 38 = .ok (.if_icmp .eq 5, 3) := by decide +kernel
theorem d_W_same_43 : decode prog_12_method_4_code 43 = .ok (.iinc 2 1, 3) := by decide +kernel
theorem d_W_same_46 : decode prog_12_method_4_code 46 = .ok (.goto (-29), 3) := by decide +kernel
theorem d_W_same_41 : decode prog_12_method_4_code 41 = .ok (.iconst 0, 1) := by decide +kernel
theorem d_W_same_42 : decode prog_12_method_4_code 42 = .ok (.ireturn, 1) := by decide +kernel
theorem d_W_same_13 : decode prog_12_method_4_code 13 = .ok (.iconst 0, 1) := by decide +kernel
theorem d_W_same_14 : decode prog_12_method_4_code 14 = .ok (.ireturn, 1) := by decide +kernel
set_option maxHeartbeats 4000000 in
set_option maxRecDepth 100000 in
theorem v_Wsame (l : Launch) (D : va_G) (dA : Nat → ClassId) (sz : Nat) (ws : va_W) (wa : Nat) (L : List Int32) (wb : Nat) (M : List Int32) (hwwa : isWo dA ws wa L) (hlwa : L.length ≤ 65536) (hwwb : isWo dA ws wb M) (hlwb : M.length ≤ 65536) : Met l ⟨"SeriesVault$Word", "same", "(LSeriesVault$Word;)Z"⟩ [Cond.code ⟨"SeriesVault$Word", "same", "(LSeriesVault$Word;)Z"⟩ prog_12_method_4_code 3 (some FieldType.boolean)] { frames := 1, cells := 0, slots := 0, locals := 0 } (pC D dA [.ref wa, .ref wb] (ws) sz) (va_Qi (fun (r9 : Int32) (u9 : Unit) => r9 = bI (sameW L M)) (fun (u9 : Unit) t9 => bW D (va_A (ws) sz) (ws) t9) (va_A (ws) sz)) 0 0 (va_A (ws) sz) := by
  refine mkC (y := ⟨"SeriesVault$Word", "same", "(LSeriesVault$Word;)Z"⟩) (cc := prog_12_method_4_code) (maxL := 3) (av := [.ref wa, .ref wb]) (ws := ws) (sz := sz) (Qc := fun A => va_Qi (fun (r9 : Int32) (u9 : Unit) => r9 = bI (sameW L M)) (fun (u9 : Unit) t9 => bW D A (ws) t9) A) (by decide) (Nat.le_of_ble_eq_true rfl) ?_
  intro A p e s m below meth c ls hsz hB
  obtain ⟨hx, hb, hr, hml, hown, hin, hlk, hE, hK, hP, hD, hS, hA, hN, hl⟩ := hB
  have hown : s.vm.findClass "SeriesVault$Word" = some m.cls := hown
  have hl : lv_has ls 3 [(0, .ref wa), (1, .ref wb)] := hl
  obtain ⟨H, hH⟩ : ∃ z, z = s.heap := ⟨_, rfl⟩
  have hP : va_P D vwCl (ws) H := by rw [hH]; exact hP
  have hS : va_S A s.heap H [] := by rw [hH]; exact hS
  rw [← hH]
  obtain ⟨b_wa, f_wa, m1wa, m2wa, y_wa, hfwa⟩ := hwwa
  obtain ⟨b_wb, f_wb, m1wb, m2wb, y_wb, hfwb⟩ := hwwb
  refine lv_aload_n hx hb d_W_same_0 rfl (lv_at hl 0 rfl) ?_
  obtain ⟨qp1, ep2⟩ := List.getElem?_of_mem (show ((wa, .inr (10, [.ref b_wa])) : Nat × va_E) ∈ ws from m1wa)
  refine gF (v := .ref b_wa) hx hb hown hE hK hP qp1 ep2 rfl layW 0 (by decide) w1274 rfl d_W_same_1 ?_
  obtain ⟨qp3, ep4⟩ := List.getElem?_of_mem (show ((b_wa, .inl (dA 0, L.length, .inl f_wa)) : Nat × va_E) ∈ ws from m2wa)
  refine va_alen (v := nI L.length) hx hb hK hP (qp3) 0 ep4 rfl rfl d_W_same_4 ?_
  refine lv_aload_n hx hb d_W_same_5 rfl (lv_at hl 1 rfl) ?_
  obtain ⟨qp5, ep6⟩ := List.getElem?_of_mem (show ((wb, .inr (10, [.ref b_wb])) : Nat × va_E) ∈ ws from m1wb)
  refine gF (v := .ref b_wb) hx hb hown hE hK hP qp5 ep6 rfl layW 0 (by decide) w1274 rfl d_W_same_6 ?_
  obtain ⟨qp7, ep8⟩ := List.getElem?_of_mem (show ((b_wb, .inl (dA 0, M.length, .inl f_wb)) : Nat × va_E) ∈ ws from m2wb)
  refine va_alen (v := nI M.length) hx hb hK hP (qp7) 0 ep8 rfl rfl d_W_same_9 ?_
  refine lv_icmp_eq hx hb d_W_same_10 (tgt := 15) rfl (fun g9 => ?_) (fun g9 => ?_)
  · have g9 := (nI_eq (a := L.length) (b := M.length) (by omega) (by omega)).mp g9
    refine lv_iconst (v := 0) hx hb d_W_same_15 (by decide) ?_
    refine lv_istore_n hx hb d_W_same_16 rfl hl (by decide) rfl (fun ls hl => ?_)
    have hl : lv_has ls 3 [(2, .int 0), (0, .ref wa), (1, .ref wb)] := hl
    have L17 : ∀ (k9 : Nat) (i : Nat) (i1 : i ≤ L.length) (i2 : allB i (smB L M) = true) (hk9 : L.length - i = k9), ∀ (H : Heap) (locs : List Loc) (ls : Array Slot) (hP : va_P D vwCl (ws) H) (hD : va_D A (ws)) (hS : va_S A s.heap H locs) (hl : lv_has ls 3 [(2, .int (nI i)), (0, .ref wa), (1, .ref wb)]), W p l e ({ frames := 1, cells := 0, slots := 0, locals := 0 } : Room) s m ([.ref wa, .ref wb] : List Value).toArray below meth c H locs 0 0 (MQ below (va_Qi (fun (r9 : Int32) (u9 : Unit) => r9 = bI (sameW L M)) (fun (u9 : Unit) t9 => bW D A (ws) t9) A) ([.ref wa, .ref wb] : List Value).toArray s 0 0 A) (F0 m 17 ls []) := by
      intro k9
      induction k9 using Nat.strongRecOn with
      | ind k9 ih17 =>
        intro i i1 i2 hk9 H locs ls hP hD hS hl
        refine lv_iload_n hx hb d_W_same_17 rfl (lv_at hl 0 rfl) ?_
        refine lv_aload_n hx hb d_W_same_18 rfl (lv_at hl 1 rfl) ?_
        obtain ⟨qp10, ep11⟩ := List.getElem?_of_mem (show ((wa, .inr (10, [.ref b_wa])) : Nat × va_E) ∈ ws from m1wa)
        refine gF (v := .ref b_wa) hx hb hown hE hK hP qp10 ep11 rfl layW 0 (by decide) w1274 rfl d_W_same_19 ?_
        obtain ⟨qp12, ep13⟩ := List.getElem?_of_mem (show ((b_wa, .inl (dA 0, L.length, .inl f_wa)) : Nat × va_E) ∈ ws from m2wa)
        refine va_alen (v := nI L.length) hx hb hK hP (qp12) 0 ep13 rfl rfl d_W_same_22 ?_
        refine lv_icmp_ge hx hb d_W_same_23 (tgt := 49) rfl (fun g14 => ?_) (fun g14 => ?_)
        · have g14 := (nI_leI (a := L.length) (b := i) (by omega) (by omega)).mp g14
          refine lv_iconst (v := 1) hx hb d_W_same_49 (by decide) ?_
          exact rfZ hx hb hr (bI_nar true) hlk hS () (by unfold sameW; rw [decide_eq_true (by omega), Bool.true_and, ← show i = L.length by omega, i2]; rfl) hP hD (Nat.le_of_ble_eq_true rfl) (Nat.le_of_ble_eq_true rfl) d_W_same_50
        · have g14 := mt (nI_leI (a := L.length) (b := i) (by omega) (by omega)).mpr g14
          refine lv_aload_n hx hb d_W_same_26 rfl (lv_at hl 1 rfl) ?_
          obtain ⟨qp15, ep16⟩ := List.getElem?_of_mem (show ((wa, .inr (10, [.ref b_wa])) : Nat × va_E) ∈ ws from m1wa)
          refine gF (v := .ref b_wa) hx hb hown hE hK hP qp15 ep16 rfl layW 0 (by decide) w1274 rfl d_W_same_27 ?_
          refine lv_iload_n hx hb d_W_same_30 rfl (lv_at hl 0 rfl) ?_
          obtain ⟨qp17, ep18⟩ := List.getElem?_of_mem (show ((b_wa, .inl (dA 0, L.length, .inl f_wa)) : Nat × va_E) ∈ ws from m2wa)
          refine nbld (f := f_wa) (n := L.length) hx hb hK hP (qp17) 0 ep18 rfl (i) (by omega) (by omega) d_W_same_31 ?_
          refine tpi (y := (L.getD i 0)) (hfwa i (by omega)) ?_
          refine lv_aload_n hx hb d_W_same_32 rfl (lv_at hl 2 rfl) ?_
          obtain ⟨qp19, ep20⟩ := List.getElem?_of_mem (show ((wb, .inr (10, [.ref b_wb])) : Nat × va_E) ∈ ws from m1wb)
          refine gF (v := .ref b_wb) hx hb hown hE hK hP qp19 ep20 rfl layW 0 (by decide) w1274 rfl d_W_same_33 ?_
          refine lv_iload_n hx hb d_W_same_36 rfl (lv_at hl 0 rfl) ?_
          obtain ⟨qp21, ep22⟩ := List.getElem?_of_mem (show ((b_wb, .inl (dA 0, M.length, .inl f_wb)) : Nat × va_E) ∈ ws from m2wb)
          refine nbld (f := f_wb) (n := M.length) hx hb hK hP (qp21) 0 ep22 rfl (i) (by omega) (by omega) d_W_same_37 ?_
          refine tpi (y := (M.getD i 0)) (hfwb i (by omega)) ?_
          refine lv_icmp_eq hx hb d_W_same_38 (tgt := 43) rfl (fun g23 => ?_) (fun g23 => ?_)
          · have g23 := g23
            refine lv_iinc (k := 0) (v := nI (i + 1)) hx hb d_W_same_43 hl rfl (iincN (i) 1 1 (by decide)) (by decide) rfl (fun ls hl => ?_)
            have hl : lv_has ls 3 [(2, .int (nI (i + 1))), (0, .ref wa), (1, .ref wb)] := hl
            refine lv_goto hx hb d_W_same_46 (tgt := 17) rfl ?_
            exact ih17 _ (by omega) (i + 1) (by omega) (by rw [allB_s, i2, Bool.true_and]; exact decide_eq_true g23) rfl H _ ls hP hD hS (lv_sub hl [0, 1, 2] rfl)
          · have g23 := g23
            refine lv_iconst (v := 0) hx hb d_W_same_41 (by decide) ?_
            exact rfZ hx hb hr (bI_nar false) hlk hS () (by unfold sameW; rw [allB_1 (f := smB L M) (k := i) (n := L.length) (by omega) (decide_eq_false g23), Bool.and_false]; rfl) hP hD (Nat.le_of_ble_eq_true rfl) (Nat.le_of_ble_eq_true rfl) d_W_same_42
    exact L17 _ 0 (Nat.zero_le _) rfl rfl H _ ls hP hD hS (lv_sub hl [0, 1, 2] rfl)
  · have g9 := mt (nI_eq (a := L.length) (b := M.length) (by omega) (by omega)).mpr g9
    refine lv_iconst (v := 0) hx hb d_W_same_13 (by decide) ?_
    exact rfZ hx hb hr (bI_nar false) hlk hS () (by unfold sameW; rw [decide_eq_false g9]; rfl) hP hD (Nat.le_of_ble_eq_true rfl) (Nat.le_of_ble_eq_true rfl) d_W_same_14
theorem d_W_beginsWith_0 : decode prog_12_method_5_code 0 = .ok (.aload_n 1, 1) := by decide +kernel
theorem d_W_beginsWith_1 : decode prog_12_method_5_code 1 = .ok (.getfield 15, 3) := by decide +kernel
theorem d_W_beginsWith_4 : decode prog_12_method_5_code 4 = .ok (.arraylength, 1) := by decide +kernel
theorem d_W_beginsWith_5 : decode prog_12_method_5_code 5 = .ok (.aload_n 0, 1) := by decide +kernel
theorem d_W_beginsWith_6 : decode prog_12_method_5_code 6 = .ok (.getfield 15, 3) := by decide +kernel
theorem d_W_beginsWith_9 : decode prog_12_method_5_code 9 = .ok (.arraylength, 1) := by decide +kernel
theorem d_W_beginsWith_10 : decode prog_12_method_5_code 10 = .ok (.if_icmp .le 5, 3) := by decide +kernel
theorem d_W_beginsWith_15 : decode prog_12_method_5_code 15 = .ok (.iconst 0, 1) := by decide +kernel
theorem d_W_beginsWith_16 : decode prog_12_method_5_code 16 = .ok (.istore_n 2, 1) := by decide +kernel
theorem d_W_beginsWith_17 : decode prog_12_method_5_code 17 = .ok (.iload_n 2, 1) := by decide +kernel
theorem d_W_beginsWith_18 : decode prog_12_method_5_code 18 = .ok (.aload_n 1, 1) := by decide +kernel
theorem d_W_beginsWith_19 : decode prog_12_method_5_code 19 = .ok (.getfield 15, 3) := by decide +kernel
theorem d_W_beginsWith_22 : decode prog_12_method_5_code 22 = .ok (.arraylength, 1) := by decide +kernel
theorem d_W_beginsWith_23 : decode prog_12_method_5_code 23 = .ok (.if_icmp .ge 26, 3) := by decide +kernel
theorem d_W_beginsWith_49 : decode prog_12_method_5_code 49 = .ok (.iconst 1, 1) := by decide +kernel
theorem d_W_beginsWith_50 : decode prog_12_method_5_code 50 = .ok (.ireturn, 1) := by decide +kernel
theorem d_W_beginsWith_26 : decode prog_12_method_5_code 26 = .ok (.aload_n 0, 1) := by decide +kernel
theorem d_W_beginsWith_27 : decode prog_12_method_5_code 27 = .ok (.getfield 15, 3) := by decide +kernel
theorem d_W_beginsWith_30 : decode prog_12_method_5_code 30 = .ok (.iload_n 2, 1) := by decide +kernel
theorem d_W_beginsWith_31 : decode prog_12_method_5_code 31 = .ok (.baload, 1) := by decide +kernel
theorem d_W_beginsWith_32 : decode prog_12_method_5_code 32 = .ok (.aload_n 1, 1) := by decide +kernel
theorem d_W_beginsWith_33 : decode prog_12_method_5_code 33 = .ok (.getfield 15, 3) := by decide +kernel
theorem d_W_beginsWith_36 : decode prog_12_method_5_code 36 = .ok (.iload_n 2, 1) := by decide +kernel
theorem d_W_beginsWith_37 : decode prog_12_method_5_code 37 = .ok (.baload, 1) := by decide +kernel
theorem d_W_beginsWith_38 : decode prog_12_method_5_code 38 = .ok (.if_icmp .eq 5, 3) := by decide +kernel
theorem d_W_beginsWith_43 : decode prog_12_method_5_code 43 = .ok (.iinc 2 1, 3) := by decide +kernel
theorem d_W_beginsWith_46 : decode prog_12_method_5_code 46 = .ok (.goto (-29), 3) := by decide +kernel
theorem d_W_beginsWith_41 : decode prog_12_method_5_code 41 = .ok (.iconst 0, 1) := by decide +kernel
theorem d_W_beginsWith_42 : decode prog_12_method_5_code 42 = .ok (.ireturn, 1) := by decide +kernel
theorem d_W_beginsWith_13 : decode prog_12_method_5_code 13 = .ok (.iconst 0, 1) := by decide +kernel
theorem d_W_beginsWith_14 : decode prog_12_method_5_code 14 = .ok (.ireturn, 1) := by decide +kernel
set_option maxHeartbeats 4000000 in
set_option maxRecDepth 100000 in
theorem v_Wbegs (l : Launch) (D : va_G) (dA : Nat → ClassId) (sz : Nat) (ws : va_W) (wa : Nat) (L : List Int32) (wb : Nat) (M : List Int32) (hwwa : isWo dA ws wa L) (hlwa : L.length ≤ 65536) (hwwb : isWo dA ws wb M) (hlwb : M.length ≤ 65536) : Met l ⟨"SeriesVault$Word", "beginsWith", "(LSeriesVault$Word;)Z"⟩ [Cond.code ⟨"SeriesVault$Word", "beginsWith", "(LSeriesVault$Word;)Z"⟩ prog_12_method_5_code 3 (some FieldType.boolean)] { frames := 1, cells := 0, slots := 0, locals := 0 } (pC D dA [.ref wa, .ref wb] (ws) sz) (va_Qi (fun (r9 : Int32) (u9 : Unit) => r9 = bI (begW L M)) (fun (u9 : Unit) t9 => bW D (va_A (ws) sz) (ws) t9) (va_A (ws) sz)) 0 0 (va_A (ws) sz) := by
  refine mkC (y := ⟨"SeriesVault$Word", "beginsWith", "(LSeriesVault$Word;)Z"⟩) (cc := prog_12_method_5_code) (maxL := 3) (av := [.ref wa, .ref wb]) (ws := ws) (sz := sz) (Qc := fun A => va_Qi (fun (r9 : Int32) (u9 : Unit) => r9 = bI (begW L M)) (fun (u9 : Unit) t9 => bW D A (ws) t9) A) (by decide) (Nat.le_of_ble_eq_true rfl) ?_
  intro A p e s m below meth c ls hsz hB
  obtain ⟨hx, hb, hr, hml, hown, hin, hlk, hE, hK, hP, hD, hS, hA, hN, hl⟩ := hB
  have hown : s.vm.findClass "SeriesVault$Word" = some m.cls := hown
  have hl : lv_has ls 3 [(0, .ref wa), (1, .ref wb)] := hl
  obtain ⟨H, hH⟩ : ∃ z, z = s.heap := ⟨_, rfl⟩
  have hP : va_P D vwCl (ws) H := by rw [hH]; exact hP
  have hS : va_S A s.heap H [] := by rw [hH]; exact hS
  rw [← hH]
  obtain ⟨b_wa, f_wa, m1wa, m2wa, y_wa, hfwa⟩ := hwwa
  obtain ⟨b_wb, f_wb, m1wb, m2wb, y_wb, hfwb⟩ := hwwb
  refine lv_aload_n hx hb d_W_beginsWith_0 rfl (lv_at hl 1 rfl) ?_
  obtain ⟨qp1, ep2⟩ := List.getElem?_of_mem (show ((wb, .inr (10, [.ref b_wb])) : Nat × va_E) ∈ ws from m1wb)
  refine gF (v := .ref b_wb) hx hb hown hE hK hP qp1 ep2 rfl layW 0 (by decide) w1274 rfl d_W_beginsWith_1 ?_
  obtain ⟨qp3, ep4⟩ := List.getElem?_of_mem (show ((b_wb, .inl (dA 0, M.length, .inl f_wb)) : Nat × va_E) ∈ ws from m2wb)
  refine va_alen (v := nI M.length) hx hb hK hP (qp3) 0 ep4 rfl rfl d_W_beginsWith_4 ?_
  refine lv_aload_n hx hb d_W_beginsWith_5 rfl (lv_at hl 0 rfl) ?_
  obtain ⟨qp5, ep6⟩ := List.getElem?_of_mem (show ((wa, .inr (10, [.ref b_wa])) : Nat × va_E) ∈ ws from m1wa)
  refine gF (v := .ref b_wa) hx hb hown hE hK hP qp5 ep6 rfl layW 0 (by decide) w1274 rfl d_W_beginsWith_6 ?_
  obtain ⟨qp7, ep8⟩ := List.getElem?_of_mem (show ((b_wa, .inl (dA 0, L.length, .inl f_wa)) : Nat × va_E) ∈ ws from m2wa)
  refine va_alen (v := nI L.length) hx hb hK hP (qp7) 0 ep8 rfl rfl d_W_beginsWith_9 ?_
  refine lv_icmp_le hx hb d_W_beginsWith_10 (tgt := 15) rfl (fun g9 => ?_) (fun g9 => ?_)
  · have g9 := (nI_leI (a := M.length) (b := L.length) (by omega) (by omega)).mp g9
    refine lv_iconst (v := 0) hx hb d_W_beginsWith_15 (by decide) ?_
    refine lv_istore_n hx hb d_W_beginsWith_16 rfl hl (by decide) rfl (fun ls hl => ?_)
    have hl : lv_has ls 3 [(2, .int 0), (0, .ref wa), (1, .ref wb)] := hl
    have L17 : ∀ (k9 : Nat) (i : Nat) (i1 : i ≤ M.length) (i2 : allB i (smB L M) = true) (hk9 : M.length - i = k9), ∀ (H : Heap) (locs : List Loc) (ls : Array Slot) (hP : va_P D vwCl (ws) H) (hD : va_D A (ws)) (hS : va_S A s.heap H locs) (hl : lv_has ls 3 [(2, .int (nI i)), (0, .ref wa), (1, .ref wb)]), W p l e ({ frames := 1, cells := 0, slots := 0, locals := 0 } : Room) s m ([.ref wa, .ref wb] : List Value).toArray below meth c H locs 0 0 (MQ below (va_Qi (fun (r9 : Int32) (u9 : Unit) => r9 = bI (begW L M)) (fun (u9 : Unit) t9 => bW D A (ws) t9) A) ([.ref wa, .ref wb] : List Value).toArray s 0 0 A) (F0 m 17 ls []) := by
      intro k9
      induction k9 using Nat.strongRecOn with
      | ind k9 ih17 =>
        intro i i1 i2 hk9 H locs ls hP hD hS hl
        refine lv_iload_n hx hb d_W_beginsWith_17 rfl (lv_at hl 0 rfl) ?_
        refine lv_aload_n hx hb d_W_beginsWith_18 rfl (lv_at hl 2 rfl) ?_
        obtain ⟨qp10, ep11⟩ := List.getElem?_of_mem (show ((wb, .inr (10, [.ref b_wb])) : Nat × va_E) ∈ ws from m1wb)
        refine gF (v := .ref b_wb) hx hb hown hE hK hP qp10 ep11 rfl layW 0 (by decide) w1274 rfl d_W_beginsWith_19 ?_
        obtain ⟨qp12, ep13⟩ := List.getElem?_of_mem (show ((b_wb, .inl (dA 0, M.length, .inl f_wb)) : Nat × va_E) ∈ ws from m2wb)
        refine va_alen (v := nI M.length) hx hb hK hP (qp12) 0 ep13 rfl rfl d_W_beginsWith_22 ?_
        refine lv_icmp_ge hx hb d_W_beginsWith_23 (tgt := 49) rfl (fun g14 => ?_) (fun g14 => ?_)
        · have g14 := (nI_leI (a := M.length) (b := i) (by omega) (by omega)).mp g14
          refine lv_iconst (v := 1) hx hb d_W_beginsWith_49 (by decide) ?_
          exact rfZ hx hb hr (bI_nar true) hlk hS () (by unfold begW; rw [decide_eq_true (by omega), Bool.true_and, ← show i = M.length by omega, i2]; rfl) hP hD (Nat.le_of_ble_eq_true rfl) (Nat.le_of_ble_eq_true rfl) d_W_beginsWith_50
        · have g14 := mt (nI_leI (a := M.length) (b := i) (by omega) (by omega)).mpr g14
          refine lv_aload_n hx hb d_W_beginsWith_26 rfl (lv_at hl 1 rfl) ?_
          obtain ⟨qp15, ep16⟩ := List.getElem?_of_mem (show ((wa, .inr (10, [.ref b_wa])) : Nat × va_E) ∈ ws from m1wa)
          refine gF (v := .ref b_wa) hx hb hown hE hK hP qp15 ep16 rfl layW 0 (by decide) w1274 rfl d_W_beginsWith_27 ?_
          refine lv_iload_n hx hb d_W_beginsWith_30 rfl (lv_at hl 0 rfl) ?_
          obtain ⟨qp17, ep18⟩ := List.getElem?_of_mem (show ((b_wa, .inl (dA 0, L.length, .inl f_wa)) : Nat × va_E) ∈ ws from m2wa)
          refine nbld (f := f_wa) (n := L.length) hx hb hK hP (qp17) 0 ep18 rfl (i) (by omega) (by omega) d_W_beginsWith_31 ?_
          refine tpi (y := (L.getD i 0)) (hfwa i (by omega)) ?_
          refine lv_aload_n hx hb d_W_beginsWith_32 rfl (lv_at hl 2 rfl) ?_
          obtain ⟨qp19, ep20⟩ := List.getElem?_of_mem (show ((wb, .inr (10, [.ref b_wb])) : Nat × va_E) ∈ ws from m1wb)
          refine gF (v := .ref b_wb) hx hb hown hE hK hP qp19 ep20 rfl layW 0 (by decide) w1274 rfl d_W_beginsWith_33 ?_
          refine lv_iload_n hx hb d_W_beginsWith_36 rfl (lv_at hl 0 rfl) ?_
          obtain ⟨qp21, ep22⟩ := List.getElem?_of_mem (show ((b_wb, .inl (dA 0, M.length, .inl f_wb)) : Nat × va_E) ∈ ws from m2wb)
          refine nbld (f := f_wb) (n := M.length) hx hb hK hP (qp21) 0 ep22 rfl (i) (by omega) (by omega) d_W_beginsWith_37 ?_
          refine tpi (y := (M.getD i 0)) (hfwb i (by omega)) ?_
          refine lv_icmp_eq hx hb d_W_beginsWith_38 (tgt := 43) rfl (fun g23 => ?_) (fun g23 => ?_)
          · have g23 := g23
            refine lv_iinc (k := 0) (v := nI (i + 1)) hx hb d_W_beginsWith_43 hl rfl (iincN (i) 1 1 (by decide)) (by decide) rfl (fun ls hl => ?_)
            have hl : lv_has ls 3 [(2, .int (nI (i + 1))), (0, .ref wa), (1, .ref wb)] := hl
            refine lv_goto hx hb d_W_beginsWith_46 (tgt := 17) rfl ?_
            exact ih17 _ (by omega) (i + 1) (by omega) (by rw [allB_s, i2, Bool.true_and]; exact decide_eq_true g23) rfl H _ ls hP hD hS (lv_sub hl [0, 1, 2] rfl)
          · have g23 := g23
            refine lv_iconst (v := 0) hx hb d_W_beginsWith_41 (by decide) ?_
            exact rfZ hx hb hr (bI_nar false) hlk hS () (by unfold begW; rw [allB_1 (f := smB L M) (k := i) (n := M.length) (by omega) (decide_eq_false g23), Bool.and_false]; rfl) hP hD (Nat.le_of_ble_eq_true rfl) (Nat.le_of_ble_eq_true rfl) d_W_beginsWith_42
    exact L17 _ 0 (Nat.zero_le _) rfl rfl H _ ls hP hD hS (lv_sub hl [0, 1, 2] rfl)
  · have g9 := mt (nI_leI (a := M.length) (b := L.length) (by omega) (by omega)).mpr g9
    refine lv_iconst (v := 0) hx hb d_W_beginsWith_13 (by decide) ?_
    exact rfZ hx hb hr (bI_nar false) hlk hS () (by unfold begW; rw [decide_eq_false g9]; rfl) hP hD (Nat.le_of_ble_eq_true rfl) (Nat.le_of_ble_eq_true rfl) d_W_beginsWith_14
theorem d_W_compare_0 : decode prog_12_method_3_code 0 = .ok (.aload_n 0, 1) := by decide +kernel
theorem d_W_compare_1 : decode prog_12_method_3_code 1 = .ok (.getfield 15, 3) := by decide +kernel
theorem d_W_compare_4 : decode prog_12_method_3_code 4 = .ok (.arraylength, 1) := by decide +kernel
theorem d_W_compare_5 : decode prog_12_method_3_code 5 = .ok (.aload_n 1, 1) := by decide +kernel
theorem d_W_compare_6 : decode prog_12_method_3_code 6 = .ok (.getfield 15, 3) := by decide +kernel
theorem d_W_compare_9 : decode prog_12_method_3_code 9 = .ok (.arraylength, 1) := by decide +kernel
theorem d_W_compare_10 : decode prog_12_method_3_code 10 = .ok (.invokestatic 21, 3) := by decide +kernel
theorem d_W_compare_13 : decode prog_12_method_3_code 13 = .ok (.istore_n 2, 1) := by decide +kernel
theorem d_W_compare_14 : decode prog_12_method_3_code 14 = .ok (.iconst 0, 1) := by decide +kernel
theorem d_W_compare_15 : decode prog_12_method_3_code 15 = .ok (.istore_n 3, 1) := by decide +kernel
theorem d_W_compare_16 : decode prog_12_method_3_code 16 = .ok (.iload_n 3, 1) := by decide +kernel
theorem d_W_compare_17 : decode prog_12_method_3_code 17 = .ok (.iload_n 2, 1) := by decide +kernel
theorem d_W_compare_18 : decode prog_12_method_3_code 18 = .ok (.if_icmp .ge 46, 3) := by decide +kernel
theorem d_W_compare_64 : decode prog_12_method_3_code 64 = .ok (.aload_n 0, 1) := by decide +kernel
theorem d_W_compare_65 : decode prog_12_method_3_code 65 = .ok (.getfield 15, 3) := by decide +kernel
theorem d_W_compare_68 : decode prog_12_method_3_code 68 = .ok (.arraylength, 1) := by decide +kernel
theorem d_W_compare_69 : decode prog_12_method_3_code 69 = .ok (.aload_n 1, 1) := by decide +kernel
theorem d_W_compare_70 : decode prog_12_method_3_code 70 = .ok (.getfield 15, 3) := by decide +kernel
theorem d_W_compare_73 : decode prog_12_method_3_code 73 = .ok (.arraylength, 1) := by decide +kernel
theorem d_W_compare_74 : decode prog_12_method_3_code 74 = .ok (.isub, 1) := by decide +kernel
theorem d_W_compare_75 : decode prog_12_method_3_code 75 = .ok (.ireturn, 1) := by decide +kernel
theorem d_W_compare_21 : decode prog_12_method_3_code 21 = .ok (.aload_n 0, 1) := by decide +kernel
theorem d_W_compare_22 : decode prog_12_method_3_code 22 = .ok (.getfield 15, 3) := by decide +kernel
theorem d_W_compare_25 : decode prog_12_method_3_code 25 = .ok (.iload_n 3, 1) := by decide +kernel
theorem d_W_compare_26 : decode prog_12_method_3_code 26 = .ok (.baload, 1) := by decide +kernel
theorem d_W_compare_27 : decode prog_12_method_3_code 27 = .ok (.aload_n 1, 1) := by decide +kernel
theorem d_W_compare_28 : decode prog_12_method_3_code 28 = .ok (.getfield 15, 3) := by decide +kernel
theorem d_W_compare_31 : decode prog_12_method_3_code 31 = .ok (.iload_n 3, 1) := by decide +kernel
theorem d_W_compare_32 : decode prog_12_method_3_code 32 = .ok (.baload, 1) := by decide +kernel
theorem d_W_compare_33 : decode prog_12_method_3_code 33 = .ok (.if_icmp .eq 25, 3) := by decide +kernel
theorem d_W_compare_58 : decode prog_12_method_3_code 58 = .ok (.iinc 3 1, 3) := by decide +kernel
theorem d_W_compare_61 : decode prog_12_method_3_code 61 = .ok (.goto (-45), 3) := by decide +kernel
theorem d_W_compare_36 : decode prog_12_method_3_code 36 = .ok (.aload_n 0, 1) := by decide +kernel
theorem d_W_compare_37 : decode prog_12_method_3_code 37 = .ok (.getfield 15, 3) := by decide +kernel
theorem d_W_compare_40 : decode prog_12_method_3_code 40 = .ok (.iload_n 3, 1) := by decide +kernel
theorem d_W_compare_41 : decode prog_12_method_3_code 41 = .ok (.baload, 1) := by decide +kernel
theorem d_W_compare_42 : decode prog_12_method_3_code 42 = .ok (.sipush 255, 3) := by decide +kernel
theorem d_W_compare_45 : decode prog_12_method_3_code 45 = .ok (.iand, 1) := by decide +kernel
theorem d_W_compare_46 : decode prog_12_method_3_code 46 = .ok (.aload_n 1, 1) := by decide +kernel
theorem d_W_compare_47 : decode prog_12_method_3_code 47 = .ok (.getfield 15, 3) := by decide +kernel
theorem d_W_compare_50 : decode prog_12_method_3_code 50 = .ok (.iload_n 3, 1) := by decide +kernel
theorem d_W_compare_51 : decode prog_12_method_3_code 51 = .ok (.baload, 1) := by decide +kernel
theorem d_W_compare_52 : decode prog_12_method_3_code 52 = .ok (.sipush 255, 3) := by decide +kernel
theorem d_W_compare_55 : decode prog_12_method_3_code 55 = .ok (.iand, 1) := by decide +kernel
theorem d_W_compare_56 : decode prog_12_method_3_code 56 = .ok (.isub, 1) := by decide +kernel
theorem d_W_compare_57 : decode prog_12_method_3_code 57 = .ok (.ireturn, 1) := by decide +kernel
theorem w1275 : Cond.methodLink "SeriesVault$Word" 21 ⟨"java/lang/Math", "min", "(II)I"⟩ ∈ aW := aw_of (tb_4 (List.mem_of_getElem? (i := 228) rfl)) rfl
set_option maxHeartbeats 4000000 in
set_option maxRecDepth 100000 in
theorem v_Wcmp (l : Launch) (D : va_G) (dA : Nat → ClassId) (sz : Nat) (ws : va_W) (wa : Nat) (L : List Int32) (wb : Nat) (M : List Int32) (hwwa : isWo dA ws wa L) (hlwa : L.length ≤ 65536) (hwwb : isWo dA ws wb M) (hlwb : M.length ≤ 65536) : Met l ⟨"SeriesVault$Word", "compare", "(LSeriesVault$Word;)I"⟩ [Cond.code ⟨"SeriesVault$Word", "compare", "(LSeriesVault$Word;)I"⟩ prog_12_method_3_code 4 (some FieldType.int)] { frames := 1, cells := 0, slots := 0, locals := 13 } (pC D dA [.ref wa, .ref wb] (ws) sz) (va_Qi (fun (r9 : Int32) (u9 : Unit) => r9 = cmpW L M) (fun (u9 : Unit) t9 => bW D (va_A (ws) sz) (ws) t9) (va_A (ws) sz)) 0 0 (va_A (ws) sz) := by
  refine mkC (y := ⟨"SeriesVault$Word", "compare", "(LSeriesVault$Word;)I"⟩) (cc := prog_12_method_3_code) (maxL := 4) (av := [.ref wa, .ref wb]) (ws := ws) (sz := sz) (Qc := fun A => va_Qi (fun (r9 : Int32) (u9 : Unit) => r9 = cmpW L M) (fun (u9 : Unit) t9 => bW D A (ws) t9) A) (by decide) (Nat.le_of_ble_eq_true rfl) ?_
  intro A p e s m below meth c ls hsz hB
  obtain ⟨hx, hb, hr, hml, hown, hin, hlk, hE, hK, hP, hD, hS, hA, hN, hl⟩ := hB
  have hown : s.vm.findClass "SeriesVault$Word" = some m.cls := hown
  have hl : lv_has ls 4 [(0, .ref wa), (1, .ref wb)] := hl
  obtain ⟨H, hH⟩ : ∃ z, z = s.heap := ⟨_, rfl⟩
  have hP : va_P D vwCl (ws) H := by rw [hH]; exact hP
  have hS : va_S A s.heap H [] := by rw [hH]; exact hS
  rw [← hH]
  obtain ⟨b_wa, f_wa, m1wa, m2wa, y_wa, hfwa⟩ := hwwa
  obtain ⟨b_wb, f_wb, m1wb, m2wb, y_wb, hfwb⟩ := hwwb
  refine lv_aload_n hx hb d_W_compare_0 rfl (lv_at hl 0 rfl) ?_
  obtain ⟨qp1, ep2⟩ := List.getElem?_of_mem (show ((wa, .inr (10, [.ref b_wa])) : Nat × va_E) ∈ ws from m1wa)
  refine gF (v := .ref b_wa) hx hb hown hE hK hP qp1 ep2 rfl layW 0 (by decide) w1274 rfl d_W_compare_1 ?_
  obtain ⟨qp3, ep4⟩ := List.getElem?_of_mem (show ((b_wa, .inl (dA 0, L.length, .inl f_wa)) : Nat × va_E) ∈ ws from m2wa)
  refine va_alen (v := nI L.length) hx hb hK hP (qp3) 0 ep4 rfl rfl d_W_compare_4 ?_
  refine lv_aload_n hx hb d_W_compare_5 rfl (lv_at hl 1 rfl) ?_
  obtain ⟨qp5, ep6⟩ := List.getElem?_of_mem (show ((wb, .inr (10, [.ref b_wb])) : Nat × va_E) ∈ ws from m1wb)
  refine gF (v := .ref b_wb) hx hb hown hE hK hP qp5 ep6 rfl layW 0 (by decide) w1274 rfl d_W_compare_6 ?_
  obtain ⟨qp7, ep8⟩ := List.getElem?_of_mem (show ((b_wb, .inl (dA 0, M.length, .inl f_wb)) : Nat × va_E) ∈ ws from m2wb)
  refine va_alen (v := nI M.length) hx hb hK hP (qp7) 0 ep8 rfl rfl d_W_compare_9 ?_
  refine va_mmin hx hb (hml.trans hl.1.symm) hown (hE.t w1275 rfl) (hE.t w548 rfl) (hE.t w549 rfl) (hE.t w550 rfl) (Nat.le_of_ble_eq_true rfl) (Nat.le_of_ble_eq_true rfl) (Nat.le_of_ble_eq_true rfl) (Nat.le_of_ble_eq_true rfl) d_W_compare_10 (tpi (y := nI (min L.length M.length)) (nI_min (a := L.length) (b := M.length) (by omega) (by omega)) ?_)
  refine lv_istore_n hx hb d_W_compare_13 rfl hl (by decide) rfl (fun ls hl => ?_)
  have hl : lv_has ls 4 [(2, .int (nI (min L.length M.length))), (0, .ref wa), (1, .ref wb)] := hl
  refine lv_iconst (v := 0) hx hb d_W_compare_14 (by decide) ?_
  refine lv_istore_n hx hb d_W_compare_15 rfl hl (by decide) rfl (fun ls hl => ?_)
  have hl : lv_has ls 4 [(3, .int 0), (2, .int (nI (min L.length M.length))), (0, .ref wa), (1, .ref wb)] := hl
  have L16 : ∀ (k9 : Nat) (i : Nat) (i1 : i ≤ min L.length M.length) (i2 : frst (dfB L M) (min L.length M.length - i) i = frst (dfB L M) (min L.length M.length) 0) (hk9 : min L.length M.length - i = k9), ∀ (H : Heap) (locs : List Loc) (ls : Array Slot) (hP : va_P D vwCl (ws) H) (hD : va_D A (ws)) (hS : va_S A s.heap H locs) (hl : lv_has ls 4 [(3, .int (nI i)), (2, .int (nI (min L.length M.length))), (0, .ref wa), (1, .ref wb)]), W p l e ({ frames := 1, cells := 0, slots := 0, locals := 13 } : Room) s m ([.ref wa, .ref wb] : List Value).toArray below meth c H locs 0 0 (MQ below (va_Qi (fun (r9 : Int32) (u9 : Unit) => r9 = cmpW L M) (fun (u9 : Unit) t9 => bW D A (ws) t9) A) ([.ref wa, .ref wb] : List Value).toArray s 0 0 A) (F0 m 16 ls []) := by
    intro k9
    induction k9 using Nat.strongRecOn with
    | ind k9 ih16 =>
      intro i i1 i2 hk9 H locs ls hP hD hS hl
      refine lv_iload_n hx hb d_W_compare_16 rfl (lv_at hl 0 rfl) ?_
      refine lv_iload_n hx hb d_W_compare_17 rfl (lv_at hl 1 rfl) ?_
      refine lv_icmp_ge hx hb d_W_compare_18 (tgt := 64) rfl (fun g9 => ?_) (fun g9 => ?_)
      · have g9 := (nI_leI (a := min L.length M.length) (b := i) (by omega) (by omega)).mp g9
        refine lv_aload_n hx hb d_W_compare_64 rfl (lv_at hl 2 rfl) ?_
        obtain ⟨qp10, ep11⟩ := List.getElem?_of_mem (show ((wa, .inr (10, [.ref b_wa])) : Nat × va_E) ∈ ws from m1wa)
        refine gF (v := .ref b_wa) hx hb hown hE hK hP qp10 ep11 rfl layW 0 (by decide) w1274 rfl d_W_compare_65 ?_
        obtain ⟨qp12, ep13⟩ := List.getElem?_of_mem (show ((b_wa, .inl (dA 0, L.length, .inl f_wa)) : Nat × va_E) ∈ ws from m2wa)
        refine va_alen (v := nI L.length) hx hb hK hP (qp12) 0 ep13 rfl rfl d_W_compare_68 ?_
        refine lv_aload_n hx hb d_W_compare_69 rfl (lv_at hl 3 rfl) ?_
        obtain ⟨qp14, ep15⟩ := List.getElem?_of_mem (show ((wb, .inr (10, [.ref b_wb])) : Nat × va_E) ∈ ws from m1wb)
        refine gF (v := .ref b_wb) hx hb hown hE hK hP qp14 ep15 rfl layW 0 (by decide) w1274 rfl d_W_compare_70 ?_
        obtain ⟨qp16, ep17⟩ := List.getElem?_of_mem (show ((b_wb, .inl (dA 0, M.length, .inl f_wb)) : Nat × va_E) ∈ ws from m2wb)
        refine va_alen (v := nI M.length) hx hb hK hP (qp16) 0 ep17 rfl rfl d_W_compare_73 ?_
        refine lv_isub hx hb d_W_compare_74 ?_
        exact rfI hx hb hr hlk hS () (by rw [cmpW_n (by rw [← i2, show min L.length M.length - i = 0 by omega]; rfl)]) hP hD (Nat.le_of_ble_eq_true rfl) (Nat.le_of_ble_eq_true rfl) d_W_compare_75
      · have g9 := mt (nI_leI (a := min L.length M.length) (b := i) (by omega) (by omega)).mpr g9
        refine lv_aload_n hx hb d_W_compare_21 rfl (lv_at hl 2 rfl) ?_
        obtain ⟨qp18, ep19⟩ := List.getElem?_of_mem (show ((wa, .inr (10, [.ref b_wa])) : Nat × va_E) ∈ ws from m1wa)
        refine gF (v := .ref b_wa) hx hb hown hE hK hP qp18 ep19 rfl layW 0 (by decide) w1274 rfl d_W_compare_22 ?_
        refine lv_iload_n hx hb d_W_compare_25 rfl (lv_at hl 0 rfl) ?_
        obtain ⟨qp20, ep21⟩ := List.getElem?_of_mem (show ((b_wa, .inl (dA 0, L.length, .inl f_wa)) : Nat × va_E) ∈ ws from m2wa)
        refine nbld (f := f_wa) (n := L.length) hx hb hK hP (qp20) 0 ep21 rfl (i) (by omega) (by omega) d_W_compare_26 ?_
        refine tpi (y := (L.getD i 0)) (hfwa i (by omega)) ?_
        refine lv_aload_n hx hb d_W_compare_27 rfl (lv_at hl 3 rfl) ?_
        obtain ⟨qp22, ep23⟩ := List.getElem?_of_mem (show ((wb, .inr (10, [.ref b_wb])) : Nat × va_E) ∈ ws from m1wb)
        refine gF (v := .ref b_wb) hx hb hown hE hK hP qp22 ep23 rfl layW 0 (by decide) w1274 rfl d_W_compare_28 ?_
        refine lv_iload_n hx hb d_W_compare_31 rfl (lv_at hl 0 rfl) ?_
        obtain ⟨qp24, ep25⟩ := List.getElem?_of_mem (show ((b_wb, .inl (dA 0, M.length, .inl f_wb)) : Nat × va_E) ∈ ws from m2wb)
        refine nbld (f := f_wb) (n := M.length) hx hb hK hP (qp24) 0 ep25 rfl (i) (by omega) (by omega) d_W_compare_32 ?_
        refine tpi (y := (M.getD i 0)) (hfwb i (by omega)) ?_
        refine lv_icmp_eq hx hb d_W_compare_33 (tgt := 58) rfl (fun g26 => ?_) (fun g26 => ?_)
        · have g26 := g26
          refine lv_iinc (k := 0) (v := nI (i + 1)) hx hb d_W_compare_58 hl rfl (iincN (i) 1 1 (by decide)) (by decide) rfl (fun ls hl => ?_)
          have hl : lv_has ls 4 [(3, .int (nI (i + 1))), (2, .int (nI (min L.length M.length))), (0, .ref wa), (1, .ref wb)] := hl
          refine lv_goto hx hb d_W_compare_61 (tgt := 16) rfl ?_
          exact ih16 _ (by omega) (i + 1) (by omega) (by rw [← i2, frst_f (n := min L.length M.length - i) (by omega) (show dfB L M i = false by unfold dfB; rw [decide_eq_true g26]; rfl), show min L.length M.length - i - 1 = min L.length M.length - (i + 1) by omega]) rfl H _ ls hP hD hS (lv_sub hl [0, 1, 2, 3] rfl)
        · have g26 := g26
          refine lv_aload_n hx hb d_W_compare_36 rfl (lv_at hl 2 rfl) ?_
          obtain ⟨qp27, ep28⟩ := List.getElem?_of_mem (show ((wa, .inr (10, [.ref b_wa])) : Nat × va_E) ∈ ws from m1wa)
          refine gF (v := .ref b_wa) hx hb hown hE hK hP qp27 ep28 rfl layW 0 (by decide) w1274 rfl d_W_compare_37 ?_
          refine lv_iload_n hx hb d_W_compare_40 rfl (lv_at hl 0 rfl) ?_
          obtain ⟨qp29, ep30⟩ := List.getElem?_of_mem (show ((b_wa, .inl (dA 0, L.length, .inl f_wa)) : Nat × va_E) ∈ ws from m2wa)
          refine nbld (f := f_wa) (n := L.length) hx hb hK hP (qp29) 0 ep30 rfl (i) (by omega) (by omega) d_W_compare_41 ?_
          refine tpi (y := (L.getD i 0)) (hfwa i (by omega)) ?_
          refine lv_sipush (v := 255) hx hb d_W_compare_42 (by decide) ?_
          refine lv_iand hx hb d_W_compare_45 ?_
          refine lv_aload_n hx hb d_W_compare_46 rfl (lv_at hl 3 rfl) ?_
          obtain ⟨qp31, ep32⟩ := List.getElem?_of_mem (show ((wb, .inr (10, [.ref b_wb])) : Nat × va_E) ∈ ws from m1wb)
          refine gF (v := .ref b_wb) hx hb hown hE hK hP qp31 ep32 rfl layW 0 (by decide) w1274 rfl d_W_compare_47 ?_
          refine lv_iload_n hx hb d_W_compare_50 rfl (lv_at hl 0 rfl) ?_
          obtain ⟨qp33, ep34⟩ := List.getElem?_of_mem (show ((b_wb, .inl (dA 0, M.length, .inl f_wb)) : Nat × va_E) ∈ ws from m2wb)
          refine nbld (f := f_wb) (n := M.length) hx hb hK hP (qp33) 0 ep34 rfl (i) (by omega) (by omega) d_W_compare_51 ?_
          refine tpi (y := (M.getD i 0)) (hfwb i (by omega)) ?_
          refine lv_sipush (v := 255) hx hb d_W_compare_52 (by decide) ?_
          refine lv_iand hx hb d_W_compare_55 ?_
          refine lv_isub hx hb d_W_compare_56 ?_
          exact rfI hx hb hr hlk hS () (by rw [cmpW_s (i := i) (by rw [← i2, frst_t (n := min L.length M.length - i) (by omega) (show dfB L M i = true by unfold dfB; rw [decide_eq_false g26]; rfl)])]) hP hD (Nat.le_of_ble_eq_true rfl) (Nat.le_of_ble_eq_true rfl) d_W_compare_57
  exact L16 _ 0 (Nat.zero_le _) rfl rfl H _ ls hP hD hS (lv_sub hl [0, 1, 2, 3] rfl)
end
section
/-! Series: labels, their text. -/
abbrev LB : Type := List Int32 × List Int32
def lab (S : List LB) (i : Nat) : LB := S.getD i ([], [])
def joinP (S : List LB) : Nat → List Int32
  | 0 => []
  | i + 1 => joinP S i ++ ((if i = 0 then [] else [44]) ++ ((lab S i).1 ++ (61 :: (lab S i).2)))
def joinT (S : List LB) : List Int32 := joinP S S.length
theorem jp_len (S : List LB) (i : Nat) : (joinP S (i + 1)).length = (joinP S i).length + ((lab S i).1.length + (lab S i).2.length + (if i = 0 then 1 else 2)) := by
  show (joinP S i ++ ((if i = 0 then [] else [44]) ++ ((lab S i).1 ++ (61 :: (lab S i).2)))).length = _
  rw [List.length_append, List.length_append, List.length_append, List.length_cons]
  split
  · simp; omega
  · simp; omega
theorem jp_mono (S : List LB) {i n : Nat} (h : i ≤ n) : (joinP S i).length ≤ (joinP S n).length := by
  induction n with
  | zero => rw [show i = 0 by omega]; exact Nat.le_refl _
  | succ n ih =>
    by_cases e : i = n + 1
    · rw [e]; exact Nat.le_refl _
    · have := ih (by omega)
      have := jp_len S n
      omega
def serOk (S : List LB) : Prop := S.length ≤ 6 ∧ ∀ i, i < S.length → (lab S i).1.length ≤ 24 ∧ (lab S i).2.length ≤ 24
theorem jp_le {S : List LB} (h : serOk S) : ∀ {i : Nat}, i ≤ S.length → (joinP S i).length ≤ 50 * i
  | 0, _ => Nat.le_refl _
  | i + 1, hi => by
    have h1 := jp_le h (i := i) (by omega)
    have h2 := h.2 i (by omega)
    have h3 := jp_len S i
    have h4 : (if i = 0 then 1 else 2) ≤ 2 := by split <;> omega
    omega
theorem jt_le {S : List LB} (h : serOk S) : (joinT S).length ≤ 300 := by
  have h1 := jp_le h (Nat.le_refl S.length)
  have h2 := h.1
  unfold joinT
  omega
/-- a row begins with these bytes -/
def preF (f : Nat → Int32) (L : List Int32) : Prop := ∀ q, q < L.length → f q = L.getD q 0
theorem getD_l {A B : List Int32} {q : Nat} (h : q < A.length) : (A ++ B).getD q 0 = A.getD q 0 := by
  rw [List.getD_eq_getElem?_getD, List.getD_eq_getElem?_getD, List.getElem?_append_left h]
theorem getD_r {A B : List Int32} {q : Nat} (h : A.length ≤ q) : (A ++ B).getD q 0 = B.getD (q - A.length) 0 := by
  rw [List.getD_eq_getElem?_getD, List.getD_eq_getElem?_getD, List.getElem?_append_right h]
theorem preF_app {f g : Nat → Int32} {A B : List Int32} (h : preF f A) (h1 : ∀ q, q < A.length → g q = f q) (h2 : ∀ j, j < B.length → g (A.length + j) = B.getD j 0) : preF g (A ++ B) := by
  intro q hq
  rw [List.length_append] at hq
  by_cases e : q < A.length
  · rw [getD_l e, h1 q e, h q e]
  · rw [getD_r (by omega), ← h2 (q - A.length) (by omega)]
    congr 1
    omega
theorem preF_up {f : Nat → Int32} {A : List Int32} {v : Int32} {n : Nat} (h : preF f A) (hn : n = A.length) : preF (va_up f n v) (A ++ [v]) := by
  subst hn
  refine preF_app h (fun q hq => va_up_ne _ _ (Nat.ne_of_lt hq)) (fun j hj => ?_)
  have hj : j = 0 := by simp at hj; omega
  subst hj
  exact va_up_self _ _ _
theorem preF_cp {f g : Nat → Int32} {A B : List Int32} {n : Nat} (h : preF f A) (hn : n = A.length) (hg : ∀ q, g q = if n ≤ q ∧ q < n + B.length then B.getD (q - n) 0 else f q) : preF g (A ++ B) := by
  subst hn
  refine preF_app h (fun q hq => ?_) (fun j hj => ?_)
  · rw [hg, if_neg (by omega)]
  · rw [hg, if_pos (by omega)]
    congr 1
    omega
def isSer (dA : Nat → ClassId) (ws : va_W) (a : Nat) (S : List LB) : Prop := ∃ (na va no tx : Nat) (fn fv : Nat → Option Nat), (a, .inr (11, [.ref na, .ref va, .ref no, .ref tx])) ∈ ws ∧ (na, .inl (dA 6, S.length, .inr (.inr (.inr (.inr fn))))) ∈ ws ∧ (va, .inl (dA 6, S.length, .inr (.inr (.inr (.inr fv))))) ∈ ws ∧ isWo dA ws no [] ∧ isWo dA ws tx (joinT S) ∧ ∀ i, i < S.length → ∃ p q : Nat, fn i = some p ∧ isWo dA ws p (lab S i).1 ∧ fv i = some q ∧ isWo dA ws q (lab S i).2
theorem isSer_m {dA : Nat → ClassId} {ws ws' : va_W} {a : Nat} {S : List LB} (hs : ∀ c, c ∈ ws → c ∈ ws') (h : isSer dA ws a S) : isSer dA ws' a S := by
  obtain ⟨na, va, no, tx, fn, fv, h1, h2, h3, h4, h5, h6⟩ := h
  refine ⟨na, va, no, tx, fn, fv, hs _ h1, hs _ h2, hs _ h3, isWo_m hs h4, isWo_m hs h5, fun i hi => ?_⟩
  obtain ⟨p, q, e1, w1, e2, w2⟩ := h6 i hi
  exact ⟨p, q, e1, isWo_m hs w1, e2, isWo_m hs w2⟩
def vsB (S : List LB) (M : List Int32) (i : Nat) : Bool := sameW (lab S i).1 M
def valS (S : List LB) (M : List Int32) : List Int32 := match frst (vsB S M) S.length 0 with
  | none => []
  | some i => (lab S i).2
theorem valS_n {S : List LB} {M : List Int32} (h : frst (vsB S M) S.length 0 = none) : valS S M = [] := by unfold valS; rw [h]
theorem valS_s {S : List LB} {M : List Int32} {i : Nat} (h : frst (vsB S M) S.length 0 = some i) : valS S M = (lab S i).2 := by unfold valS; rw [h]
theorem cpW_at {f g : Nat → Int32} {L : List Int32} {k : Nat} (hf : ∀ i, i < L.length → f i = L.getD i 0) : ∀ q, va_cpy f g 0 k L.length q = if k ≤ q ∧ q < k + L.length then L.getD (q - k) 0 else g q := by
  intro q
  unfold va_cpy
  by_cases e : k ≤ q ∧ q < k + L.length
  · rw [if_pos e, if_pos e, Nat.zero_add]
    exact hf _ (by omega)
  · rw [if_neg e, if_neg e]
theorem d_S_units_0 : decode prog_7_method_4_code 0 = .ok (.iconst 1, 1) := by decide +kernel
theorem d_S_units_1 : decode prog_7_method_4_code 1 = .ok (.aload_n 0, 1) := by decide +kernel
theorem d_S_units_2 : decode prog_7_method_4_code 2 = .ok (.getfield 27, 3) := by decide +kernel
theorem d_S_units_5 : decode prog_7_method_4_code 5 = .ok (.getfield 34, 3) := by decide +kernel
theorem d_S_units_8 : decode prog_7_method_4_code 8 = .ok (.arraylength, 1) := by decide +kernel
theorem d_S_units_9 : decode prog_7_method_4_code 9 = .ok (.bipush 32, 2) := by decide +kernel
theorem d_S_units_11 : decode prog_7_method_4_code 11 = .ok (.iadd, 1) := by decide +kernel
theorem d_S_units_12 : decode prog_7_method_4_code 12 = .ok (.iconst 1, 1) := by decide +kernel
theorem d_S_units_13 : decode prog_7_method_4_code 13 = .ok (.isub, 1) := by decide +kernel
theorem d_S_units_14 : decode prog_7_method_4_code 14 = .ok (.bipush 32, 2) := by decide +kernel
theorem d_S_units_16 : decode prog_7_method_4_code 16 = .ok (.idiv, 1) := by decide +kernel
theorem d_S_units_17 : decode prog_7_method_4_code 17 = .ok (.iadd, 1) := by decide +kernel
theorem d_S_units_18 : decode prog_7_method_4_code 18 = .ok (.ireturn, 1) := by decide +kernel
theorem w1276 : Cond.fieldLink "SeriesVault$Series" 27 "SeriesVault$Series" "text" "LSeriesVault$Word;" ∈ aW := aw_of (tb_5 (List.mem_of_getElem? (i := 7) rfl)) rfl
theorem w1277 : Cond.fieldLinkNest "SeriesVault$Series" 34 "SeriesVault$Word" "bytes" "[B" "SeriesVault" ∈ aW := aw_of (tb_4 (List.mem_of_getElem? (i := 220) rfl)) rfl
set_option maxHeartbeats 4000000 in
set_option maxRecDepth 100000 in
theorem v_Sunits (l : Launch) (D : va_G) (dA : Nat → ClassId) (sz : Nat) (ws : va_W) (a : Nat) (S : List LB) (hsr : isSer dA ws a S) (hso : serOk S) : Met l ⟨"SeriesVault$Series", "units", "()I"⟩ [Cond.code ⟨"SeriesVault$Series", "units", "()I"⟩ prog_7_method_4_code 1 (some FieldType.int)] { frames := 1, cells := 0, slots := 0, locals := 0 } (pC D dA [.ref a] (ws) sz) (va_Qi (fun (r9 : Int32) (u9 : Unit) => r9 = nI (1 + ((joinT S).length + 32 - 1) / 32)) (fun (u9 : Unit) t9 => bW D (va_A (ws) sz) (ws) t9) (va_A (ws) sz)) 0 0 (va_A (ws) sz) := by
  refine mkC (y := ⟨"SeriesVault$Series", "units", "()I"⟩) (cc := prog_7_method_4_code) (maxL := 1) (av := [.ref a]) (ws := ws) (sz := sz) (Qc := fun A => va_Qi (fun (r9 : Int32) (u9 : Unit) => r9 = nI (1 + ((joinT S).length + 32 - 1) / 32)) (fun (u9 : Unit) t9 => bW D A (ws) t9) A) (by decide) (Nat.le_of_ble_eq_true rfl) ?_
  intro A p e s m below meth c ls hsz hB
  obtain ⟨hx, hb, hr, hml, hown, hin, hlk, hE, hK, hP, hD, hS, hA, hN, hl⟩ := hB
  have hown : s.vm.findClass "SeriesVault$Series" = some m.cls := hown
  have hl : lv_has ls 1 [(0, .ref a)] := hl
  obtain ⟨H, hH⟩ : ∃ z, z = s.heap := ⟨_, rfl⟩
  have hP : va_P D vwCl (ws) H := by rw [hH]; exact hP
  have hS : va_S A s.heap H [] := by rw [hH]; exact hS
  rw [← hH]
  obtain ⟨na, va, no, tx, fn, fv, n1, n2, n3, wno, wtx, hel⟩ := hsr
  have so1 := hso.1
  obtain ⟨b_tx, f_tx, m1tx, m2tx, y_tx, hf_tx⟩ := wtx
  have jl := jt_le hso
  refine lv_iconst (v := 1) hx hb d_S_units_0 (by decide) ?_
  refine lv_aload_n hx hb d_S_units_1 rfl (lv_at hl 0 rfl) ?_
  obtain ⟨qp1, ep2⟩ := List.getElem?_of_mem (show ((a, .inr (11, [.ref na, .ref va, .ref no, .ref tx])) : Nat × va_E) ∈ ws from n1)
  refine gF (v := .ref tx) hx hb hown hE hK hP qp1 ep2 rfl layS 3 (by decide) w1276 rfl d_S_units_2 ?_
  obtain ⟨qp3, ep4⟩ := List.getElem?_of_mem (show ((tx, .inr (10, [.ref b_tx])) : Nat × va_E) ∈ ws from m1tx)
  refine gFN (v := .ref b_tx) hx hb hown hE hK hP qp3 ep4 rfl layW 0 (by decide) w1277 rfl d_S_units_5 ?_
  obtain ⟨qp5, ep6⟩ := List.getElem?_of_mem (show ((b_tx, .inl (dA 0, (joinT S).length, .inl f_tx)) : Nat × va_E) ∈ ws from m2tx)
  refine va_alen (v := nI ((joinT S).length)) hx hb hK hP (qp5) 0 ep6 rfl rfl d_S_units_8 ?_
  refine lv_bipush (v := 32) hx hb d_S_units_9 (by decide) ?_
  refine lv_iadd hx hb d_S_units_11 (tpi (y := nI (((joinT S).length) + 32)) (nI_add ((joinT S).length) (32)) ?_)
  refine lv_iconst (v := 1) hx hb d_S_units_12 (by decide) ?_
  refine lv_isub hx hb d_S_units_13 (tpi (y := nI ((((joinT S).length) + 32) - 1)) (pk_sub (a := ((joinT S).length) + 32) (b := 1) (by omega)) ?_)
  refine lv_bipush (v := 32) hx hb d_S_units_14 (by decide) ?_
  refine lv_idiv hx hb d_S_units_16 (by decide) (tpi (y := nI (((((joinT S).length) + 32) - 1) / 32)) (pk_div (a := (((joinT S).length) + 32) - 1) (d := 32) (by omega) (by omega) (by omega)) ?_)
  refine lv_iadd hx hb d_S_units_17 (tpi (y := nI (1 + (((((joinT S).length) + 32) - 1) / 32))) (nI_add (1) (((((joinT S).length) + 32) - 1) / 32)) ?_)
  exact rfI hx hb hr hlk hS () rfl hP hD (Nat.le_of_ble_eq_true rfl) (Nat.le_of_ble_eq_true rfl) d_S_units_18
theorem d_S_valueOf_0 : decode prog_7_method_5_code 0 = .ok (.iconst 0, 1) := by decide +kernel
theorem d_S_valueOf_1 : decode prog_7_method_5_code 1 = .ok (.istore_n 2, 1) := by decide +kernel
theorem d_S_valueOf_2 : decode prog_7_method_5_code 2 = .ok (.iload_n 2, 1) := by decide +kernel
theorem d_S_valueOf_3 : decode prog_7_method_5_code 3 = .ok (.aload_n 0, 1) := by decide +kernel
theorem d_S_valueOf_4 : decode prog_7_method_5_code 4 = .ok (.getfield 9, 3) := by decide +kernel
theorem d_S_valueOf_7 : decode prog_7_method_5_code 7 = .ok (.arraylength, 1) := by decide +kernel
theorem d_S_valueOf_8 : decode prog_7_method_5_code 8 = .ok (.if_icmp .ge 29, 3) := by decide +kernel
theorem d_S_valueOf_37 : decode prog_7_method_5_code 37 = .ok (.aload_n 0, 1) := by decide +kernel
theorem d_S_valueOf_38 : decode prog_7_method_5_code 38 = .ok (.getfield 31, 3) := by decide +kernel
theorem d_S_valueOf_41 : decode prog_7_method_5_code 41 = .ok (.areturn, 1) := by decide +kernel
theorem d_S_valueOf_11 : decode prog_7_method_5_code 11 = .ok (.aload_n 0, 1) := by decide +kernel
theorem d_S_valueOf_12 : decode prog_7_method_5_code 12 = .ok (.getfield 9, 3) := by decide +kernel
theorem d_S_valueOf_15 : decode prog_7_method_5_code 15 = .ok (.iload_n 2, 1) := by decide +kernel
theorem d_S_valueOf_16 : decode prog_7_method_5_code 16 = .ok (.aaload, 1) := by decide +kernel
theorem d_S_valueOf_17 : decode prog_7_method_5_code 17 = .ok (.aload_n 1, 1) := by decide +kernel
theorem d_S_valueOf_18 : decode prog_7_method_5_code 18 = .ok (.invokevirtual 48, 3) := by decide +kernel
theorem d_S_valueOf_21 : decode prog_7_method_5_code 21 = .ok (.ifCond .eq 10, 3) := by decide +kernel
theorem d_S_valueOf_31 : decode prog_7_method_5_code 31 = .ok (.iinc 2 1, 3) := by decide +kernel
theorem d_S_valueOf_34 : decode prog_7_method_5_code 34 = .ok (.goto (-32), 3) := by decide +kernel
theorem d_S_valueOf_24 : decode prog_7_method_5_code 24 = .ok (.aload_n 0, 1) := by decide +kernel
theorem d_S_valueOf_25 : decode prog_7_method_5_code 25 = .ok (.getfield 15, 3) := by decide +kernel
theorem d_S_valueOf_28 : decode prog_7_method_5_code 28 = .ok (.iload_n 2, 1) := by decide +kernel
theorem d_S_valueOf_29 : decode prog_7_method_5_code 29 = .ok (.aaload, 1) := by decide +kernel
theorem d_S_valueOf_30 : decode prog_7_method_5_code 30 = .ok (.areturn, 1) := by decide +kernel
theorem w1278 : Cond.fieldLink "SeriesVault$Series" 9 "SeriesVault$Series" "names" "[LSeriesVault$Word;" ∈ aW := aw_of (tb_5 (List.mem_of_getElem? (i := 4) rfl)) rfl
theorem w1279 : Cond.fieldLink "SeriesVault$Series" 31 "SeriesVault$Series" "nothing" "LSeriesVault$Word;" ∈ aW := aw_of (tb_5 (List.mem_of_getElem? (i := 6) rfl)) rfl
theorem w1280 : Cond.methodLink "SeriesVault$Series" 48 ⟨"SeriesVault$Word", "same", "(LSeriesVault$Word;)Z"⟩ ∈ aW := aw_of (tb_7 (List.mem_of_getElem? (i := 201) rfl)) rfl
theorem w1281 : Cond.initialized "SeriesVault$Word" ∈ aW := aw_of (tb_1 (List.mem_of_getElem? (i := 23) rfl)) rfl
theorem w1282 : Cond.code ⟨"SeriesVault$Word", "same", "(LSeriesVault$Word;)Z"⟩ prog_12_method_4_code 3 (some FieldType.boolean) ∈ aW := aw_of (tb_5 (List.mem_of_getElem? (i := 25) rfl)) rfl
theorem w1283 : Cond.instanceMethod ⟨"SeriesVault$Word", "same", "(LSeriesVault$Word;)Z"⟩ ∈ aW := aw_of (tb_5 (List.mem_of_getElem? (i := 23) rfl)) rfl
theorem w1284 : Cond.selects "SeriesVault$Word" ⟨"SeriesVault$Word", "same", "(LSeriesVault$Word;)Z"⟩ ⟨"SeriesVault$Word", "same", "(LSeriesVault$Word;)Z"⟩ ∈ aW := aw_of (tb_5 (List.mem_of_getElem? (i := 24) rfl)) rfl
theorem w1285 : Cond.fieldLink "SeriesVault$Series" 15 "SeriesVault$Series" "values" "[LSeriesVault$Word;" ∈ aW := aw_of (tb_5 (List.mem_of_getElem? (i := 5) rfl)) rfl
set_option maxHeartbeats 4000000 in
set_option maxRecDepth 100000 in
theorem v_SvalueOf (l : Launch) (D : va_G) (dA : Nat → ClassId) (sz : Nat) (ws : va_W) (a : Nat) (S : List LB) (wb : Nat) (M : List Int32) (hsr : isSer dA ws a S) (hso : serOk S) (hwwb : isWo dA ws wb M) (hlwb : M.length ≤ 65536) : Met l ⟨"SeriesVault$Series", "valueOf", "(LSeriesVault$Word;)LSeriesVault$Word;"⟩ [Cond.code ⟨"SeriesVault$Series", "valueOf", "(LSeriesVault$Word;)LSeriesVault$Word;"⟩ prog_7_method_5_code 3 (some (FieldType.object "SeriesVault$Word"))] { frames := 2, cells := 0, slots := 0, locals := 22 } (pC D dA [.ref a, .ref wb] (ws) sz) (va_Qr (fun (_ : Unit) => True) (fun (u9 : Unit) (r9 : Nat) t9 => (isWo dA ws r9 (valS S M)) ∧ bW D (va_A (ws) sz) (ws) t9) (va_A (ws) sz)) 0 0 (va_A (ws) sz) := by
  refine mkC (y := ⟨"SeriesVault$Series", "valueOf", "(LSeriesVault$Word;)LSeriesVault$Word;"⟩) (cc := prog_7_method_5_code) (maxL := 3) (av := [.ref a, .ref wb]) (ws := ws) (sz := sz) (Qc := fun A => va_Qr (fun (_ : Unit) => True) (fun (u9 : Unit) (r9 : Nat) t9 => (isWo dA ws r9 (valS S M)) ∧ bW D A (ws) t9) A) (by decide) (Nat.le_of_ble_eq_true rfl) ?_
  intro A p e s m below meth c ls hsz hB
  obtain ⟨hx, hb, hr, hml, hown, hin, hlk, hE, hK, hP, hD, hS, hA, hN, hl⟩ := hB
  have hown : s.vm.findClass "SeriesVault$Series" = some m.cls := hown
  have hl : lv_has ls 3 [(0, .ref a), (1, .ref wb)] := hl
  obtain ⟨H, hH⟩ : ∃ z, z = s.heap := ⟨_, rfl⟩
  have hP : va_P D vwCl (ws) H := by rw [hH]; exact hP
  have hS : va_S A s.heap H [] := by rw [hH]; exact hS
  rw [← hH]
  obtain ⟨na, va, no, tx, fn, fv, n1, n2, n3, wno, wtx, hel⟩ := hsr
  have so1 := hso.1
  refine lv_iconst (v := 0) hx hb d_S_valueOf_0 (by decide) ?_
  refine lv_istore_n hx hb d_S_valueOf_1 rfl hl (by decide) rfl (fun ls hl => ?_)
  have hl : lv_has ls 3 [(2, .int 0), (0, .ref a), (1, .ref wb)] := hl
  have L2 : ∀ (k9 : Nat) (i : Nat) (i1 : i ≤ S.length) (i2 : frst (vsB S M) (S.length - i) i = frst (vsB S M) S.length 0) (hk9 : S.length - i = k9), ∀ (H : Heap) (locs : List Loc) (ls : Array Slot) (hP : va_P D vwCl (ws) H) (hD : va_D A (ws)) (hS : va_S A s.heap H locs) (hl : lv_has ls 3 [(2, .int (nI i)), (0, .ref a), (1, .ref wb)]), W p l e ({ frames := 2, cells := 0, slots := 0, locals := 22 } : Room) s m ([.ref a, .ref wb] : List Value).toArray below meth c H locs 0 0 (MQ below (va_Qr (fun (_ : Unit) => True) (fun (u9 : Unit) (r9 : Nat) t9 => (isWo dA ws r9 (valS S M)) ∧ bW D A (ws) t9) A) ([.ref a, .ref wb] : List Value).toArray s 0 0 A) (F0 m 2 ls []) := by
    intro k9
    induction k9 using Nat.strongRecOn with
    | ind k9 ih2 =>
      intro i i1 i2 hk9 H locs ls hP hD hS hl
      refine lv_iload_n hx hb d_S_valueOf_2 rfl (lv_at hl 0 rfl) ?_
      refine lv_aload_n hx hb d_S_valueOf_3 rfl (lv_at hl 1 rfl) ?_
      obtain ⟨qp1, ep2⟩ := List.getElem?_of_mem (show ((a, .inr (11, [.ref na, .ref va, .ref no, .ref tx])) : Nat × va_E) ∈ ws from n1)
      refine gF (v := .ref na) hx hb hown hE hK hP qp1 ep2 rfl layS 0 (by decide) w1278 rfl d_S_valueOf_4 ?_
      obtain ⟨qp3, ep4⟩ := List.getElem?_of_mem (show ((na, .inl (dA 6, S.length, .inr (.inr (.inr (.inr fn))))) : Nat × va_E) ∈ ws from n2)
      refine va_alen (v := nI S.length) hx hb hK hP (qp3) 6 ep4 rfl rfl d_S_valueOf_7 ?_
      refine lv_icmp_ge hx hb d_S_valueOf_8 (tgt := 37) rfl (fun g5 => ?_) (fun g5 => ?_)
      · have g5 := (nI_leI (a := S.length) (b := i) (by omega) (by omega)).mp g5
        refine lv_aload_n hx hb d_S_valueOf_37 rfl (lv_at hl 1 rfl) ?_
        obtain ⟨qp6, ep7⟩ := List.getElem?_of_mem (show ((a, .inr (11, [.ref na, .ref va, .ref no, .ref tx])) : Nat × va_E) ∈ ws from n1)
        refine gF (v := .ref no) hx hb hown hE hK hP qp6 ep7 rfl layS 2 (by decide) w1279 rfl d_S_valueOf_38 ?_
        exact rkR hx hb hr (Or.inl ⟨_, rfl⟩) hlk hS () (by rw [valS_n (by rw [← i2, show S.length - i = 0 by omega]; rfl)]; exact wno) hP hD (Nat.le_of_ble_eq_true rfl) (Nat.le_of_ble_eq_true rfl) d_S_valueOf_41
      · have g5 := mt (nI_leI (a := S.length) (b := i) (by omega) (by omega)).mpr g5
        obtain ⟨p1, q1, e1, w1, e2, w2⟩ := hel i (by omega)
        have so2 := hso.2 i (by omega)
        have w1c := w1
        have w2c := w2
        obtain ⟨b1, f1, k1, k2, y1, hf1⟩ := w1c
        obtain ⟨b2, f2, k3, k4, y2, hf2⟩ := w2c
        refine lv_aload_n hx hb d_S_valueOf_11 rfl (lv_at hl 1 rfl) ?_
        obtain ⟨qp8, ep9⟩ := List.getElem?_of_mem (show ((a, .inr (11, [.ref na, .ref va, .ref no, .ref tx])) : Nat × va_E) ∈ ws from n1)
        refine gF (v := .ref na) hx hb hown hE hK hP qp8 ep9 rfl layS 0 (by decide) w1278 rfl d_S_valueOf_12 ?_
        refine lv_iload_n hx hb d_S_valueOf_15 rfl (lv_at hl 0 rfl) ?_
        obtain ⟨qp10, ep11⟩ := List.getElem?_of_mem (show ((na, .inl (dA 6, S.length, .inr (.inr (.inr (.inr fn))))) : Nat × va_E) ∈ ws from n2)
        refine nqld (f := fn) (n := S.length) hx hb hK hP (qp10) 6 ep11 rfl (i) (by omega) (by omega) e1 d_S_valueOf_16 ?_
        refine lv_aload_n hx hb d_S_valueOf_17 rfl (lv_at hl 2 rfl) ?_
        obtain ⟨qp12, ep13⟩ := List.getElem?_of_mem (show ((p1, .inr (10, [.ref b1])) : Nat × va_E) ∈ ws from k1)
        refine jkI (wr := []) (rnV (As := [.ref wb]) (rest := []) hx hb hml hown hE hK (hN _ _ hS) hP hD (v_Wsame l D dA H.size ws p1 ((lab S i).1) wb M w1 (show (lab S i).1.length ≤ 65536 by omega) hwwb hlwb) (q0 := qp12) ep13 rfl w1282 w1280 w1283 w1284 w1281 rfl rfl ⟨⟨by decide, by decide⟩, rfl⟩ ⟨(Nat.le_of_ble_eq_true rfl), (Nat.le_of_ble_eq_true rfl)⟩ rfl hl.1 rfl (Nat.le_of_ble_eq_true rfl) d_S_valueOf_18 ⟨(Nat.le_of_ble_eq_true rfl), (Nat.le_of_ble_eq_true rfl)⟩) hP hD hS hA (fun r14 u15 H locs hp9 hP hD hS => ?_)
        have hP : va_P D vwCl (ws) H := hP
        have hD : va_D A (ws) := hD
        replace hp9 : bI (sameW ((lab S i).1) M) = r14 := Eq.symm hp9
        subst hp9
        refine lv_if_eq hx hb d_S_valueOf_21 (tgt := 31) rfl (fun g16 => ?_) (fun g16 => ?_)
        · have g16 := bI_0 g16
          refine lv_iinc (k := 0) (v := nI (i + 1)) hx hb d_S_valueOf_31 hl rfl (iincN (i) 1 1 (by decide)) (by decide) rfl (fun ls hl => ?_)
          have hl : lv_has ls 3 [(2, .int (nI (i + 1))), (0, .ref a), (1, .ref wb)] := hl
          refine lv_goto hx hb d_S_valueOf_34 (tgt := 2) rfl ?_
          exact ih2 _ (by omega) (i + 1) (by omega) (by rw [← i2, frst_f (n := S.length - i) (by omega) (show vsB S M i = false from g16), show S.length - i - 1 = S.length - (i + 1) by omega]) rfl H _ ls hP hD hS (lv_sub hl [0, 1, 2] rfl)
        · have g16 := bI_n0 g16
          refine lv_aload_n hx hb d_S_valueOf_24 rfl (lv_at hl 1 rfl) ?_
          obtain ⟨qp17, ep18⟩ := List.getElem?_of_mem (show ((a, .inr (11, [.ref na, .ref va, .ref no, .ref tx])) : Nat × va_E) ∈ ws from n1)
          refine gF (v := .ref va) hx hb hown hE hK hP qp17 ep18 rfl layS 1 (by decide) w1285 rfl d_S_valueOf_25 ?_
          refine lv_iload_n hx hb d_S_valueOf_28 rfl (lv_at hl 0 rfl) ?_
          obtain ⟨qp19, ep20⟩ := List.getElem?_of_mem (show ((va, .inl (dA 6, S.length, .inr (.inr (.inr (.inr fv))))) : Nat × va_E) ∈ ws from n3)
          refine nqld (f := fv) (n := S.length) hx hb hK hP (qp19) 6 ep20 rfl (i) (by omega) (by omega) e2 d_S_valueOf_29 ?_
          exact rkR hx hb hr (Or.inl ⟨_, rfl⟩) hlk hS () (by rw [valS_s (i := i) (by rw [← i2, frst_t (n := S.length - i) (by omega) (show vsB S M i = true from g16)])]; exact w2) hP hD (Nat.le_of_ble_eq_true rfl) (Nat.le_of_ble_eq_true rfl) d_S_valueOf_30
  exact L2 _ 0 (Nat.zero_le _) rfl rfl H _ ls hP hD hS (lv_sub hl [0, 1, 2] rfl)
theorem d_S_copyWord_0 : decode prog_7_method_3_code 0 = .ok (.aload_n 0, 1) := by decide +kernel
theorem d_S_copyWord_1 : decode prog_7_method_3_code 1 = .ok (.getfield 34, 3) := by decide +kernel
theorem d_S_copyWord_4 : decode prog_7_method_3_code 4 = .ok (.iconst 0, 1) := by decide +kernel
theorem d_S_copyWord_5 : decode prog_7_method_3_code 5 = .ok (.aload_n 1, 1) := by decide +kernel
theorem d_S_copyWord_6 : decode prog_7_method_3_code 6 = .ok (.iload_n 2, 1) := by decide +kernel
theorem d_S_copyWord_7 : decode prog_7_method_3_code 7 = .ok (.aload_n 0, 1) := by decide +kernel
theorem d_S_copyWord_8 : decode prog_7_method_3_code 8 = .ok (.getfield 34, 3) := by decide +kernel
theorem d_S_copyWord_11 : decode prog_7_method_3_code 11 = .ok (.arraylength, 1) := by decide +kernel
theorem d_S_copyWord_12 : decode prog_7_method_3_code 12 = .ok (.invokestatic 42, 3) := by decide +kernel
theorem d_S_copyWord_15 : decode prog_7_method_3_code 15 = .ok (.iload_n 2, 1) := by decide +kernel
theorem d_S_copyWord_16 : decode prog_7_method_3_code 16 = .ok (.aload_n 0, 1) := by decide +kernel
theorem d_S_copyWord_17 : decode prog_7_method_3_code 17 = .ok (.getfield 34, 3) := by decide +kernel
theorem d_S_copyWord_20 : decode prog_7_method_3_code 20 = .ok (.arraylength, 1) := by decide +kernel
theorem d_S_copyWord_21 : decode prog_7_method_3_code 21 = .ok (.iadd, 1) := by decide +kernel
theorem d_S_copyWord_22 : decode prog_7_method_3_code 22 = .ok (.ireturn, 1) := by decide +kernel
theorem w1286 : Cond.methodLink "SeriesVault$Series" 42 ⟨"java/lang/System", "arraycopy", "(Ljava/lang/Object;ILjava/lang/Object;II)V"⟩ ∈ aW := aw_of (tb_5 (List.mem_of_getElem? (i := 1) rfl)) rfl
set_option maxHeartbeats 4000000 in
set_option maxRecDepth 100000 in
theorem v_copyWord (l : Launch) (D : va_G) (dA : Nat → ClassId) (sz : Nat) (ws : va_W) (wa : Nat) (L : List Int32) (ra : Nat) (N : Nat) (g : Nat → Int32) (k : Nat) (hwwa : isWo dA ws wa L) (hlwa : L.length ≤ 65536) (h1 : k + L.length ≤ N) (h2 : N ≤ 65536) : Met l ⟨"SeriesVault$Series", "copyWord", "(LSeriesVault$Word;[BI)I"⟩ [Cond.code ⟨"SeriesVault$Series", "copyWord", "(LSeriesVault$Word;[BI)I"⟩ prog_7_method_3_code 3 (some FieldType.int)] { frames := 1, cells := 0, slots := 0, locals := 40 } (pC D dA [.ref wa, .ref ra, .int (nI k)] ([(ra, .inl (dA 0, N, .inl g))] ++ (ws)) sz) (va_Qi (fun (r9 : Int32) (u9 : (Nat → Int32)) => r9 = nI (k + L.length) ∧ (∀ q, u9 q = if k ≤ q ∧ q < k + L.length then L.getD (q - k) 0 else g q) ∧ (byteF g → byteF u9)) (fun (u9 : (Nat → Int32)) t9 => bW D (va_A ([(ra, .inl (dA 0, N, .inl g))] ++ (ws)) sz) ([(ra, .inl (dA 0, N, .inl u9))] ++ (ws)) t9) (va_A ([(ra, .inl (dA 0, N, .inl g))] ++ (ws)) sz)) 0 0 (va_A ([(ra, .inl (dA 0, N, .inl g))] ++ (ws)) sz) := by
  refine mkC (y := ⟨"SeriesVault$Series", "copyWord", "(LSeriesVault$Word;[BI)I"⟩) (cc := prog_7_method_3_code) (maxL := 3) (av := [.ref wa, .ref ra, .int (nI k)]) (ws := [(ra, .inl (dA 0, N, .inl g))] ++ (ws)) (sz := sz) (Qc := fun A => va_Qi (fun (r9 : Int32) (u9 : (Nat → Int32)) => r9 = nI (k + L.length) ∧ (∀ q, u9 q = if k ≤ q ∧ q < k + L.length then L.getD (q - k) 0 else g q) ∧ (byteF g → byteF u9)) (fun (u9 : (Nat → Int32)) t9 => bW D A ([(ra, .inl (dA 0, N, .inl u9))] ++ (ws)) t9) A) (by decide) (Nat.le_of_ble_eq_true rfl) ?_
  intro A p e s m below meth c ls hsz hB
  obtain ⟨hx, hb, hr, hml, hown, hin, hlk, hE, hK, hP, hD, hS, hA, hN, hl⟩ := hB
  have hown : s.vm.findClass "SeriesVault$Series" = some m.cls := hown
  have hl : lv_has ls 3 [(0, .ref wa), (1, .ref ra), (2, .int (nI k))] := hl
  obtain ⟨H, hH⟩ : ∃ z, z = s.heap := ⟨_, rfl⟩
  have hP : va_P D vwCl ([(ra, .inl (dA 0, N, .inl g))] ++ (ws)) H := by rw [hH]; exact hP
  have hS : va_S A s.heap H [] := by rw [hH]; exact hS
  rw [← hH]
  obtain ⟨b_wa, f_wa, m1wa, m2wa, y_wa, hfwa⟩ := hwwa
  refine lv_aload_n hx hb d_S_copyWord_0 rfl (lv_at hl 0 rfl) ?_
  obtain ⟨qp1, ep2⟩ := List.getElem?_of_mem (show ((wa, .inr (10, [.ref b_wa])) : Nat × va_E) ∈ [(ra, .inl (dA 0, N, .inl g))] ++ (ws) from (List.mem_append_right _ m1wa))
  refine gFN (v := .ref b_wa) hx hb hown hE hK hP qp1 ep2 rfl layW 0 (by decide) w1277 rfl d_S_copyWord_1 ?_
  refine lv_iconst (v := 0) hx hb d_S_copyWord_4 (by decide) ?_
  refine lv_aload_n hx hb d_S_copyWord_5 rfl (lv_at hl 1 rfl) ?_
  refine lv_iload_n hx hb d_S_copyWord_6 rfl (lv_at hl 2 rfl) ?_
  refine lv_aload_n hx hb d_S_copyWord_7 rfl (lv_at hl 0 rfl) ?_
  obtain ⟨qp3, ep4⟩ := List.getElem?_of_mem (show ((wa, .inr (10, [.ref b_wa])) : Nat × va_E) ∈ [(ra, .inl (dA 0, N, .inl g))] ++ (ws) from (List.mem_append_right _ m1wa))
  refine gFN (v := .ref b_wa) hx hb hown hE hK hP qp3 ep4 rfl layW 0 (by decide) w1277 rfl d_S_copyWord_8 ?_
  obtain ⟨qp5, ep6⟩ := List.getElem?_of_mem (show ((b_wa, .inl (dA 0, L.length, .inl f_wa)) : Nat × va_E) ∈ [(ra, .inl (dA 0, N, .inl g))] ++ (ws) from (List.mem_append_right _ m2wa))
  refine va_alen (v := nI L.length) hx hb hK hP (qp5) 0 ep6 rfl rfl d_S_copyWord_11 ?_
  obtain ⟨qp7, ep8⟩ := List.getElem?_of_mem (show ((b_wa, .inl (dA 0, L.length, .inl f_wa)) : Nat × va_E) ∈ [(ra, .inl (dA 0, N, .inl g))] ++ (ws) from (List.mem_append_right _ m2wa))
  refine ncpyi (f := f_wa) (g := g) (n0 := L.length) (n1 := N) hx hb (hml.trans hl.1.symm) hown (hE.t w1286 rfl) (hE.t w720 rfl) (hE.t w721 rfl) (hE.t w722 rfl) hK hP hD hS (qp7) (0) 0 ep8 rfl rfl rfl (0) (k) (L.length) (by omega) (by omega) (by omega) (by omega) (by omega) (fun _ _ => byte_fit y_wa _) (Nat.le_of_ble_eq_true rfl) (Nat.le_of_ble_eq_true rfl) d_S_copyWord_12 (fun H locs hP hD hS => ?_)
  have hP : va_P D vwCl ([(ra, .inl (dA 0, N, .inl (va_cpy f_wa g 0 k L.length)))] ++ (ws)) H := hP
  have hD : va_D A ([(ra, .inl (dA 0, N, .inl (va_cpy f_wa g 0 k L.length)))] ++ (ws)) := hD
  refine lv_iload_n hx hb d_S_copyWord_15 rfl (lv_at hl 2 rfl) ?_
  refine lv_aload_n hx hb d_S_copyWord_16 rfl (lv_at hl 0 rfl) ?_
  obtain ⟨qp9, ep10⟩ := List.getElem?_of_mem (show ((wa, .inr (10, [.ref b_wa])) : Nat × va_E) ∈ [(ra, .inl (dA 0, N, .inl (va_cpy f_wa g 0 k L.length)))] ++ (ws) from (List.mem_append_right _ m1wa))
  refine gFN (v := .ref b_wa) hx hb hown hE hK hP qp9 ep10 rfl layW 0 (by decide) w1277 rfl d_S_copyWord_17 ?_
  obtain ⟨qp11, ep12⟩ := List.getElem?_of_mem (show ((b_wa, .inl (dA 0, L.length, .inl f_wa)) : Nat × va_E) ∈ [(ra, .inl (dA 0, N, .inl (va_cpy f_wa g 0 k L.length)))] ++ (ws) from (List.mem_append_right _ m2wa))
  refine va_alen (v := nI L.length) hx hb hK hP (qp11) 0 ep12 rfl rfl d_S_copyWord_20 ?_
  refine lv_iadd hx hb d_S_copyWord_21 (tpi (y := nI (k + L.length)) (nI_add (k) (L.length)) ?_)
  exact rfI hx hb hr hlk hS (va_cpy f_wa g 0 k L.length) ⟨rfl, cpW_at hfwa, fun hg => byteF_cpy y_wa hg⟩ hP hD (Nat.le_of_ble_eq_true rfl) (Nat.le_of_ble_eq_true rfl) d_S_copyWord_22
theorem d_S_joined_0 : decode prog_7_method_2_code 0 = .ok (.iconst 0, 1) := by decide +kernel
theorem d_S_joined_1 : decode prog_7_method_2_code 1 = .ok (.istore_n 2, 1) := by decide +kernel
theorem d_S_joined_2 : decode prog_7_method_2_code 2 = .ok (.iconst 0, 1) := by decide +kernel
theorem d_S_joined_3 : decode prog_7_method_2_code 3 = .ok (.istore_n 3, 1) := by decide +kernel
theorem d_S_joined_4 : decode prog_7_method_2_code 4 = .ok (.iload_n 3, 1) := by decide +kernel
theorem d_S_joined_5 : decode prog_7_method_2_code 5 = .ok (.aload_n 0, 1) := by decide +kernel
theorem d_S_joined_6 : decode prog_7_method_2_code 6 = .ok (.arraylength, 1) := by decide +kernel
theorem d_S_joined_7 : decode prog_7_method_2_code 7 = .ok (.if_icmp .ge 37, 3) := by decide +kernel
theorem d_S_joined_44 : decode prog_7_method_2_code 44 = .ok (.iload_n 2, 1) := by decide +kernel
theorem d_S_joined_45 : decode prog_7_method_2_code 45 = .ok (.newarray .byte, 2) := by decide +kernel
theorem d_S_joined_47 : decode prog_7_method_2_code 47 = .ok (.astore_n 3, 1) := by decide +kernel
theorem d_S_joined_48 : decode prog_7_method_2_code 48 = .ok (.iconst 0, 1) := by decide +kernel
theorem d_S_joined_49 : decode prog_7_method_2_code 49 = .ok (.istore 4, 2) := by decide +kernel
theorem d_S_joined_51 : decode prog_7_method_2_code 51 = .ok (.iconst 0, 1) := by decide +kernel
theorem d_S_joined_52 : decode prog_7_method_2_code 52 = .ok (.istore 5, 2) := by decide +kernel
theorem d_S_joined_54 : decode prog_7_method_2_code 54 = .ok (.iload 5, 2) := by decide +kernel
theorem d_S_joined_56 : decode prog_7_method_2_code 56 = .ok (.aload_n 0, 1) := by decide +kernel
theorem d_S_joined_57 : decode prog_7_method_2_code 57 = .ok (.arraylength, 1) := by decide +kernel
theorem d_S_joined_58 : decode prog_7_method_2_code 58 = .ok (.if_icmp .ge 55, 3) := by decide +kernel
theorem d_S_joined_113 : decode prog_7_method_2_code 113 = .ok (.aload_n 3, 1) := by decide +kernel
theorem d_S_joined_114 : decode prog_7_method_2_code 114 = .ok (.areturn, 1) := by decide +kernel
theorem d_S_joined_61 : decode prog_7_method_2_code 61 = .ok (.iload 5, 2) := by decide +kernel
theorem d_S_joined_63 : decode prog_7_method_2_code 63 = .ok (.ifCond .le 12, 3) := by decide +kernel
theorem d_S_joined_75 : decode prog_7_method_2_code 75 = .ok (.aload_n 0, 1) := by decide +kernel
theorem d_S_joined_76 : decode prog_7_method_2_code 76 = .ok (.iload 5, 2) := by decide +kernel
theorem d_S_joined_78 : decode prog_7_method_2_code 78 = .ok (.aaload, 1) := by decide +kernel
theorem d_S_joined_79 : decode prog_7_method_2_code 79 = .ok (.aload_n 3, 1) := by decide +kernel
theorem d_S_joined_80 : decode prog_7_method_2_code 80 = .ok (.iload 4, 2) := by decide +kernel
theorem d_S_joined_82 : decode prog_7_method_2_code 82 = .ok (.invokestatic 38, 3) := by decide +kernel
theorem d_S_joined_85 : decode prog_7_method_2_code 85 = .ok (.istore 4, 2) := by decide +kernel
theorem d_S_joined_87 : decode prog_7_method_2_code 87 = .ok (.aload_n 3, 1) := by decide +kernel
theorem d_S_joined_88 : decode prog_7_method_2_code 88 = .ok (.iload 4, 2) := by decide +kernel
theorem d_S_joined_90 : decode prog_7_method_2_code 90 = .ok (.bipush 61, 2) := by decide +kernel
theorem d_S_joined_92 : decode prog_7_method_2_code 92 = .ok (.bastore, 1) := by decide +kernel
theorem d_S_joined_93 : decode prog_7_method_2_code 93 = .ok (.aload_n 1, 1) := by decide +kernel
theorem d_S_joined_94 : decode prog_7_method_2_code 94 = .ok (.iload 5, 2) := by decide +kernel
theorem d_S_joined_96 : decode prog_7_method_2_code 96 = .ok (.aaload, 1) := by decide +kernel
theorem d_S_joined_97 : decode prog_7_method_2_code 97 = .ok (.aload_n 3, 1) := by decide +kernel
theorem d_S_joined_98 : decode prog_7_method_2_code 98 = .ok (.iload 4, 2) := by decide +kernel
theorem d_S_joined_100 : decode prog_7_method_2_code 100 = .ok (.iconst 1, 1) := by decide +kernel
theorem d_S_joined_101 : decode prog_7_method_2_code 101 = .ok (.iadd, 1) := by decide +kernel
theorem d_S_joined_102 : decode prog_7_method_2_code 102 = .ok (.invokestatic 38, 3) := by decide +kernel
theorem d_S_joined_105 : decode prog_7_method_2_code 105 = .ok (.istore 4, 2) := by decide +kernel
theorem d_S_joined_107 : decode prog_7_method_2_code 107 = .ok (.iinc 5 1, 3) := by decide +kernel
theorem d_S_joined_110 : decode prog_7_method_2_code 110 = .ok (.goto (-56), 3) := by decide +kernel
theorem d_S_joined_66 : decode prog_7_method_2_code 66 = .ok (.aload_n 3, 1) := by decide +kernel
theorem d_S_joined_67 : decode prog_7_method_2_code 67 = .ok (.iload 4, 2) := by decide +kernel
theorem d_S_joined_69 : decode prog_7_method_2_code 69 = .ok (.bipush 44, 2) := by decide +kernel
theorem d_S_joined_71 : decode prog_7_method_2_code 71 = .ok (.bastore, 1) := by decide +kernel
theorem d_S_joined_72 : decode prog_7_method_2_code 72 = .ok (.iinc 4 1, 3) := by decide +kernel
theorem d_S_joined_10 : decode prog_7_method_2_code 10 = .ok (.iload_n 2, 1) := by decide +kernel
theorem d_S_joined_11 : decode prog_7_method_2_code 11 = .ok (.aload_n 0, 1) := by decide +kernel
theorem d_S_joined_12 : decode prog_7_method_2_code 12 = .ok (.iload_n 3, 1) := by decide +kernel
theorem d_S_joined_13 : decode prog_7_method_2_code 13 = .ok (.aaload, 1) := by decide +kernel
theorem d_S_joined_14 : decode prog_7_method_2_code 14 = .ok (.getfield 34, 3) := by decide +kernel
theorem d_S_joined_17 : decode prog_7_method_2_code 17 = .ok (.arraylength, 1) := by decide +kernel
theorem d_S_joined_18 : decode prog_7_method_2_code 18 = .ok (.aload_n 1, 1) := by decide +kernel
theorem d_S_joined_19 : decode prog_7_method_2_code 19 = .ok (.iload_n 3, 1) := by decide +kernel
theorem d_S_joined_20 : decode prog_7_method_2_code 20 = .ok (.aaload, 1) := by decide +kernel
theorem d_S_joined_21 : decode prog_7_method_2_code 21 = .ok (.getfield 34, 3) := by decide +kernel
theorem d_S_joined_24 : decode prog_7_method_2_code 24 = .ok (.arraylength, 1) := by decide +kernel
theorem d_S_joined_25 : decode prog_7_method_2_code 25 = .ok (.iadd, 1) := by decide +kernel
theorem d_S_joined_26 : decode prog_7_method_2_code 26 = .ok (.iload_n 3, 1) := by decide +kernel
theorem d_S_joined_27 : decode prog_7_method_2_code 27 = .ok (.ifCond .ne 7, 3) := by decide +kernel
theorem d_S_joined_34 : decode prog_7_method_2_code 34 = .ok (.iconst 2, 1) := by decide +kernel
theorem d_S_joined_35 : decode prog_7_method_2_code 35 = .ok (.iadd, 1) := by decide +kernel
theorem d_S_joined_36 : decode prog_7_method_2_code 36 = .ok (.iadd, 1) := by decide +kernel
theorem d_S_joined_37 : decode prog_7_method_2_code 37 = .ok (.istore_n 2, 1) := by decide +kernel
theorem d_S_joined_38 : decode prog_7_method_2_code 38 = .ok (.iinc 3 1, 3) := by decide +kernel
theorem d_S_joined_41 : decode prog_7_method_2_code 41 = .ok (.goto (-37), 3) := by decide +kernel
theorem d_S_joined_30 : decode prog_7_method_2_code 30 = .ok (.iconst 1, 1) := by decide +kernel
theorem d_S_joined_31 : decode prog_7_method_2_code 31 = .ok (.goto 4, 3) := by decide +kernel
theorem w1287 : Cond.methodLink "SeriesVault$Series" 38 ⟨"SeriesVault$Series", "copyWord", "(LSeriesVault$Word;[BI)I"⟩ ∈ aW := aw_of (tb_4 (List.mem_of_getElem? (i := 238) rfl)) rfl
theorem w1288 : Cond.initialized "SeriesVault$Series" ∈ aW := aw_of (tb_1 (List.mem_of_getElem? (i := 31) rfl)) rfl
theorem w1289 : Cond.code ⟨"SeriesVault$Series", "copyWord", "(LSeriesVault$Word;[BI)I"⟩ prog_7_method_3_code 3 (some FieldType.int) ∈ aW := aw_of (tb_5 (List.mem_of_getElem? (i := 0) rfl)) rfl
theorem w1290 : Cond.static ⟨"SeriesVault$Series", "copyWord", "(LSeriesVault$Word;[BI)I"⟩ ∈ aW := aw_of (tb_4 (List.mem_of_getElem? (i := 239) rfl)) rfl
set_option maxHeartbeats 4000000 in
set_option maxRecDepth 100000 in
theorem v_joined (l : Launch) (D : va_G) (dA : Nat → ClassId) (sz : Nat) (ws : va_W) (na : Nat) (va : Nat) (S : List LB) (fn : Nat → Option Nat) (fv : Nat → Option Nat) (n2 : (na, .inl (dA 6, S.length, .inr (.inr (.inr (.inr fn))))) ∈ ws) (n3 : (va, .inl (dA 6, S.length, .inr (.inr (.inr (.inr fv))))) ∈ ws) (hel : ∀ i, i < S.length → ∃ p q : Nat, fn i = some p ∧ isWo dA ws p (lab S i).1 ∧ fv i = some q ∧ isWo dA ws q (lab S i).2) (hso : serOk S) : Met l ⟨"SeriesVault$Series", "joined", "([LSeriesVault$Word;[LSeriesVault$Word;)[B"⟩ [Cond.code ⟨"SeriesVault$Series", "joined", "([LSeriesVault$Word;[LSeriesVault$Word;)[B"⟩ prog_7_method_2_code 6 (some (FieldType.array FieldType.byte))] { frames := 2, cells := 1, slots := (joinT S).length, locals := 62 } (pC D dA [.ref na, .ref va] (ws) sz) (va_Qr (fun (_ : (Nat → Int32)) => True) (fun (u9 : (Nat → Int32)) (r9 : Nat) t9 => (byteF u9 ∧ preF u9 (joinT S)) ∧ bW D (va_A (ws) sz) ([(r9, .inl (dA 0, (joinT S).length, .inl u9))] ++ (ws)) t9) (va_A (ws) sz)) 1 ((joinT S).length) (va_A (ws) sz) := by
  refine mkC (y := ⟨"SeriesVault$Series", "joined", "([LSeriesVault$Word;[LSeriesVault$Word;)[B"⟩) (cc := prog_7_method_2_code) (maxL := 6) (av := [.ref na, .ref va]) (ws := ws) (sz := sz) (Qc := fun A => va_Qr (fun (_ : (Nat → Int32)) => True) (fun (u9 : (Nat → Int32)) (r9 : Nat) t9 => (byteF u9 ∧ preF u9 (joinT S)) ∧ bW D A ([(r9, .inl (dA 0, (joinT S).length, .inl u9))] ++ (ws)) t9) A) (by decide) (Nat.le_of_ble_eq_true rfl) ?_
  intro A p e s m below meth c ls hsz hB
  obtain ⟨hx, hb, hr, hml, hown, hin, hlk, hE, hK, hP, hD, hS, hA, hN, hl⟩ := hB
  have hown : s.vm.findClass "SeriesVault$Series" = some m.cls := hown
  have hl : lv_has ls 6 [(0, .ref na), (1, .ref va)] := hl
  obtain ⟨H, hH⟩ : ∃ z, z = s.heap := ⟨_, rfl⟩
  have hP : va_P D vwCl (ws) H := by rw [hH]; exact hP
  have hS : va_S A s.heap H [] := by rw [hH]; exact hS
  rw [← hH]
  have so1 := hso.1
  have jl := jt_le hso
  refine lv_iconst (v := 0) hx hb d_S_joined_0 (by decide) ?_
  refine lv_istore_n hx hb d_S_joined_1 rfl hl (by decide) rfl (fun ls hl => ?_)
  have hl : lv_has ls 6 [(2, .int 0), (0, .ref na), (1, .ref va)] := hl
  refine lv_iconst (v := 0) hx hb d_S_joined_2 (by decide) ?_
  refine lv_istore_n hx hb d_S_joined_3 rfl hl (by decide) rfl (fun ls hl => ?_)
  have hl : lv_has ls 6 [(3, .int 0), (2, .int 0), (0, .ref na), (1, .ref va)] := hl
  have L4 : ∀ (k9 : Nat) (i : Nat) (n : Nat) (i1 : i ≤ S.length) (i2 : n = (joinP S i).length) (hk9 : S.length - i = k9), ∀ (H : Heap) (locs : List Loc) (ls : Array Slot) (hP : va_P D vwCl (ws) H) (hD : va_D A (ws)) (hS : va_S A s.heap H locs) (hl : lv_has ls 6 [(2, .int (nI n)), (3, .int (nI i)), (0, .ref na), (1, .ref va)]), W p l e ({ frames := 2, cells := 1, slots := (joinT S).length, locals := 62 } : Room) s m ([.ref na, .ref va] : List Value).toArray below meth c H locs 0 0 (MQ below (va_Qr (fun (_ : (Nat → Int32)) => True) (fun (u9 : (Nat → Int32)) (r9 : Nat) t9 => (byteF u9 ∧ preF u9 (joinT S)) ∧ bW D A ([(r9, .inl (dA 0, (joinT S).length, .inl u9))] ++ (ws)) t9) A) ([.ref na, .ref va] : List Value).toArray s 1 ((joinT S).length) A) (F0 m 4 ls []) := by
    intro k9
    induction k9 using Nat.strongRecOn with
    | ind k9 ih4 =>
      intro i n i1 i2 hk9 H locs ls hP hD hS hl
      refine lv_iload_n hx hb d_S_joined_4 rfl (lv_at hl 1 rfl) ?_
      refine lv_aload_n hx hb d_S_joined_5 rfl (lv_at hl 2 rfl) ?_
      obtain ⟨qp1, ep2⟩ := List.getElem?_of_mem (show ((na, .inl (dA 6, S.length, .inr (.inr (.inr (.inr fn))))) : Nat × va_E) ∈ ws from n2)
      refine va_alen (v := nI S.length) hx hb hK hP (qp1) 6 ep2 rfl rfl d_S_joined_6 ?_
      refine lv_icmp_ge hx hb d_S_joined_7 (tgt := 44) rfl (fun g3 => ?_) (fun g3 => ?_)
      · have g3 := (nI_leI (a := S.length) (b := i) (by omega) (by omega)).mp g3
        refine lv_iload_n hx hb d_S_joined_44 rfl (lv_at hl 0 rfl) ?_
        refine tpi (y := nI (joinT S).length) (by rw [i2, show i = S.length by omega]; rfl) ?_
        refine nnA (atype := .byte) (ty := .byte) (N' := (joinT S).length) (a0 := ((joinT S).length, .inl (fun _ => 0))) hx hb hE rfl w496 hK hP hD hS hA 0 rfl (fun _ => rfl) (by omega) (show ((joinT S).length) * 1 ≤ 536870912 by omega) (show 0 + 1 ≤ 1 by omega) (show 0 + ((joinT S).length) ≤ (joinT S).length by omega) d_S_joined_45 (fun rw0 H hP hD hS => ?_)
        have hP : va_P D vwCl ([(rw0, .inl (dA 0, (joinT S).length, .inl (fun _ => 0)))] ++ (ws)) H := hP
        have hD : va_D A ([(rw0, .inl (dA 0, (joinT S).length, .inl (fun _ => 0)))] ++ (ws)) := hD
        refine lv_astore_n hx hb d_S_joined_47 rfl hl (by decide) rfl (fun ls hl => ?_)
        have hl : lv_has ls 6 [(3, .ref rw0), (2, .int (nI n)), (0, .ref na), (1, .ref va)] := hl
        refine lv_iconst (v := 0) hx hb d_S_joined_48 (by decide) ?_
        refine lv_istore hx hb d_S_joined_49 hl (by decide) rfl (fun ls hl => ?_)
        have hl : lv_has ls 6 [(4, .int 0), (3, .ref rw0), (2, .int (nI n)), (0, .ref na), (1, .ref va)] := hl
        refine lv_iconst (v := 0) hx hb d_S_joined_51 (by decide) ?_
        refine lv_istore hx hb d_S_joined_52 hl (by decide) rfl (fun ls hl => ?_)
        have hl : lv_has ls 6 [(5, .int 0), (4, .int 0), (3, .ref rw0), (2, .int (nI n)), (0, .ref na), (1, .ref va)] := hl
        have L54 : ∀ (k9 : Nat) (i : Nat) (f : Nat → Int32) (n : Nat) (i1 : i ≤ S.length) (i2 : n = (joinP S i).length) (yb : byteF f) (pr : preF f (joinP S i)) (hk9 : S.length - i = k9), ∀ (H : Heap) (locs : List Loc) (ls : Array Slot) (hP : va_P D vwCl ([(rw0, .inl (dA 0, (joinT S).length, .inl f))] ++ (ws)) H) (hD : va_D A ([(rw0, .inl (dA 0, (joinT S).length, .inl f))] ++ (ws))) (hS : va_S A s.heap H locs) (hl : lv_has ls 6 [(5, .int (nI i)), (4, .int (nI n)), (0, .ref na), (1, .ref va), (3, .ref rw0)]), W p l e ({ frames := 2, cells := 1, slots := (joinT S).length, locals := 62 } : Room) s m ([.ref na, .ref va] : List Value).toArray below meth c H locs (0 + 1) (0 + ((joinT S).length)) (MQ below (va_Qr (fun (_ : (Nat → Int32)) => True) (fun (u9 : (Nat → Int32)) (r9 : Nat) t9 => (byteF u9 ∧ preF u9 (joinT S)) ∧ bW D A ([(r9, .inl (dA 0, (joinT S).length, .inl u9))] ++ (ws)) t9) A) ([.ref na, .ref va] : List Value).toArray s 1 ((joinT S).length) A) (F0 m 54 ls []) := by
          intro k9
          induction k9 using Nat.strongRecOn with
          | ind k9 ih54 =>
            intro i f n i1 i2 yb pr hk9 H locs ls hP hD hS hl
            refine lv_iload hx hb d_S_joined_54 (lv_at hl 0 rfl) ?_
            refine lv_aload_n hx hb d_S_joined_56 rfl (lv_at hl 2 rfl) ?_
            obtain ⟨qp4, ep5⟩ := List.getElem?_of_mem (show ((na, .inl (dA 6, S.length, .inr (.inr (.inr (.inr fn))))) : Nat × va_E) ∈ [(rw0, .inl (dA 0, (joinT S).length, .inl f))] ++ (ws) from (List.mem_append_right _ n2))
            refine va_alen (v := nI S.length) hx hb hK hP (qp4) 6 ep5 rfl rfl d_S_joined_57 ?_
            refine lv_icmp_ge hx hb d_S_joined_58 (tgt := 113) rfl (fun g6 => ?_) (fun g6 => ?_)
            · have g6 := (nI_leI (a := S.length) (b := i) (by omega) (by omega)).mp g6
              refine lv_aload_n hx hb d_S_joined_113 rfl (lv_at hl 4 rfl) ?_
              exact rkR hx hb hr (Or.inr ⟨_, rfl⟩) hlk hS f ⟨yb, by rw [show i = S.length by omega] at pr; exact pr⟩ hP hD (show 0 + 1 ≤ 1 by omega) (show 0 + ((joinT S).length) ≤ (joinT S).length by omega) d_S_joined_114
            · have g6 := mt (nI_leI (a := S.length) (b := i) (by omega) (by omega)).mpr g6
              obtain ⟨p1, q1, e1, w1, e2, w2⟩ := hel i (by omega)
              have so2 := hso.2 i (by omega)
              have w1c := w1
              have w2c := w2
              obtain ⟨b1, f1, k1, k2, y1, hf1⟩ := w1c
              obtain ⟨b2, f2, k3, k4, y2, hf2⟩ := w2c
              have jq := jp_len S i
              have jm := jp_mono S (show i + 1 ≤ S.length by omega)
              have jt0 : (joinT S).length = (joinP S S.length).length := rfl
              have jq2 : (if i = 0 then 1 else 2) ≤ 2 := by split <;> omega
              have jq1 : 1 ≤ (if i = 0 then 1 else 2) := by split <;> omega
              have jq3 : (if i = 0 then 1 else 2) = if 0 < i then 2 else 1 := by (by_cases z9 : i = 0) <;> simp [z9] <;> omega
              refine lv_iload hx hb d_S_joined_61 (lv_at hl 0 rfl) ?_
              refine lv_if_le hx hb d_S_joined_63 (tgt := 75) rfl (fun g7 => ?_) (fun g7 => ?_)
              · have g7 := (nI_leI (a := i) (b := 0) (by omega) (by decide)).mp g7
                have jr : (if i = 0 then 1 else 2) = 1 := if_pos (by omega)
                have pr1 : preF f (joinP S i) := pr
                have pl1 : n = ((joinP S i)).length := by rw [i2]
                refine lv_aload_n hx hb d_S_joined_75 rfl (lv_at hl 2 rfl) ?_
                refine lv_iload hx hb d_S_joined_76 (lv_at hl 0 rfl) ?_
                obtain ⟨qp8, ep9⟩ := List.getElem?_of_mem (show ((na, .inl (dA 6, S.length, .inr (.inr (.inr (.inr fn))))) : Nat × va_E) ∈ [(rw0, .inl (dA 0, (joinT S).length, .inl f))] ++ (ws) from (List.mem_append_right _ n2))
                refine nqld (f := fn) (n := S.length) hx hb hK hP (qp8) 6 ep9 rfl (i) (by omega) (by omega) e1 d_S_joined_78 ?_
                refine lv_aload_n hx hb d_S_joined_79 rfl (lv_at hl 4 rfl) ?_
                refine lv_iload hx hb d_S_joined_80 (lv_at hl 1 rfl) ?_
                refine jkI (wr := []) (rnS (As := [.ref p1, .ref rw0, .int (nI n)]) (rest := []) hx hb hml hown hE hK (hN _ _ hS) hP hD (v_copyWord l D dA H.size ws p1 ((lab S i).1) rw0 ((joinT S).length) f n (isWo_m (fun _ hm => hm) w1) (show (lab S i).1.length ≤ 65536 by omega) (show n + ((lab S i).1).length ≤ ((joinT S).length) from by omega) (show ((joinT S).length) ≤ 65536 from by omega)) w1289 w1287 w1290 w1288 rfl rfl ⟨⟨by decide, by decide⟩, rfl⟩ ⟨(Nat.le_of_ble_eq_true rfl), (Nat.le_of_ble_eq_true rfl)⟩ rfl hl.1 rfl (Nat.le_of_ble_eq_true rfl) d_S_joined_82 ⟨(show 0 + 1 + 0 ≤ 1 by omega), (show 0 + ((joinT S).length) + 0 ≤ (joinT S).length by omega)⟩) hP hD hS hA (fun r10 u11 H locs hp9 hP hD hS => ?_)
                obtain ⟨g212, h9u⟩ : ∃ z9, z9 = u11 := ⟨_, rfl⟩
                subst h9u
                have hP : va_P D vwCl ([(rw0, .inl (dA 0, (joinT S).length, .inl g212))] ++ (ws)) H := hP
                have hD : va_D A ([(rw0, .inl (dA 0, (joinT S).length, .inl g212))] ++ (ws)) := hD
                obtain ⟨hp9, f_c_13, f_y_14⟩ := hp9
                replace hp9 : nI (n + ((lab S i).1).length) = r10 := Eq.symm hp9
                subst hp9
                have pr2 := preF_cp pr1 pl1 f_c_13
                have pl2 : n + ((lab S i).1).length = ((joinP S i) ++ (lab S i).1).length := by rw [List.length_append, pl1]
                refine lv_istore hx hb d_S_joined_85 hl (by decide) rfl (fun ls hl => ?_)
                have hl : lv_has ls 6 [(4, .int (nI (n + ((lab S i).1).length))), (5, .int (nI i)), (0, .ref na), (1, .ref va), (3, .ref rw0)] := hl
                refine lv_aload_n hx hb d_S_joined_87 rfl (lv_at hl 4 rfl) ?_
                refine lv_iload hx hb d_S_joined_88 (lv_at hl 0 rfl) ?_
                refine lv_bipush (v := 61) hx hb d_S_joined_90 (by decide) ?_
                refine nbst (n := (joinT S).length) hx hb hK hP hD hS (0) 0 rfl rfl (n + ((lab S i).1).length) (by omega) (by omega) 61 (by decide) d_S_joined_92 (fun H locs hP hD hS => ?_)
                have hP : va_P D vwCl ([(rw0, .inl (dA 0, (joinT S).length, .inl (va_up g212 (n + ((lab S i).1).length) 61)))] ++ (ws)) H := hP
                have hD : va_D A ([(rw0, .inl (dA 0, (joinT S).length, .inl (va_up g212 (n + ((lab S i).1).length) 61)))] ++ (ws)) := hD
                have pr3 := preF_up (v := 61) pr2 pl2
                have pl3 : n + ((lab S i).1).length + 1 = (((joinP S i) ++ (lab S i).1) ++ [61]).length := by rw [List.length_append, ← pl2]; rfl
                refine lv_aload_n hx hb d_S_joined_93 rfl (lv_at hl 3 rfl) ?_
                refine lv_iload hx hb d_S_joined_94 (lv_at hl 1 rfl) ?_
                obtain ⟨qp15, ep16⟩ := List.getElem?_of_mem (show ((va, .inl (dA 6, S.length, .inr (.inr (.inr (.inr fv))))) : Nat × va_E) ∈ [(rw0, .inl (dA 0, (joinT S).length, .inl (va_up g212 (n + ((lab S i).1).length) 61)))] ++ (ws) from (List.mem_append_right _ n3))
                refine nqld (f := fv) (n := S.length) hx hb hK hP (qp15) 6 ep16 rfl (i) (by omega) (by omega) e2 d_S_joined_96 ?_
                refine lv_aload_n hx hb d_S_joined_97 rfl (lv_at hl 4 rfl) ?_
                refine lv_iload hx hb d_S_joined_98 (lv_at hl 0 rfl) ?_
                refine lv_iconst (v := 1) hx hb d_S_joined_100 (by decide) ?_
                refine lv_iadd hx hb d_S_joined_101 (tpi (y := nI ((n + ((lab S i).1).length) + 1)) (nI_add (n + ((lab S i).1).length) (1)) ?_)
                refine jkI (wr := []) (rnS (As := [.ref q1, .ref rw0, .int (nI ((n + ((lab S i).1).length) + 1))]) (rest := []) hx hb hml hown hE hK (hN _ _ hS) hP hD (v_copyWord l D dA H.size ws q1 ((lab S i).2) rw0 ((joinT S).length) (va_up g212 (n + ((lab S i).1).length) 61) ((n + ((lab S i).1).length) + 1) (isWo_m (fun _ hm => hm) w2) (show (lab S i).2.length ≤ 65536 by omega) (show ((n + ((lab S i).1).length) + 1) + ((lab S i).2).length ≤ ((joinT S).length) from by omega) (show ((joinT S).length) ≤ 65536 from by omega)) w1289 w1287 w1290 w1288 rfl rfl ⟨⟨by decide, by decide⟩, rfl⟩ ⟨(Nat.le_of_ble_eq_true rfl), (Nat.le_of_ble_eq_true rfl)⟩ rfl hl.1 rfl (Nat.le_of_ble_eq_true rfl) d_S_joined_102 ⟨(show 0 + 1 + 0 + 0 ≤ 1 by omega), (show 0 + ((joinT S).length) + 0 + 0 ≤ (joinT S).length by omega)⟩) hP hD hS hA (fun r17 u18 H locs hp9 hP hD hS => ?_)
                obtain ⟨g219, h9u⟩ : ∃ z9, z9 = u18 := ⟨_, rfl⟩
                subst h9u
                have hP : va_P D vwCl ([(rw0, .inl (dA 0, (joinT S).length, .inl g219))] ++ (ws)) H := hP
                have hD : va_D A ([(rw0, .inl (dA 0, (joinT S).length, .inl g219))] ++ (ws)) := hD
                obtain ⟨hp9, f_c_20, f_y_21⟩ := hp9
                replace hp9 : nI (((n + ((lab S i).1).length) + 1) + ((lab S i).2).length) = r17 := Eq.symm hp9
                subst hp9
                have pr4 := preF_cp pr3 pl3 f_c_20
                refine lv_istore hx hb d_S_joined_105 hl (by decide) rfl (fun ls hl => ?_)
                have hl : lv_has ls 6 [(4, .int (nI (((n + ((lab S i).1).length) + 1) + ((lab S i).2).length))), (5, .int (nI i)), (0, .ref na), (1, .ref va), (3, .ref rw0)] := hl
                refine lv_iinc (k := 1) (v := nI (i + 1)) hx hb d_S_joined_107 hl rfl (iincN (i) 1 1 (by decide)) (by decide) rfl (fun ls hl => ?_)
                have hl : lv_has ls 6 [(5, .int (nI (i + 1))), (4, .int (nI (((n + ((lab S i).1).length) + 1) + ((lab S i).2).length))), (0, .ref na), (1, .ref va), (3, .ref rw0)] := hl
                refine lv_goto hx hb d_S_joined_110 (tgt := 54) rfl ?_
                exact ih54 _ (by omega) (i + 1) g219 (((n + ((lab S i).1).length) + 1) + ((lab S i).2).length) (by omega) (by rw [i2, jp_len, if_pos (by omega)]; omega) (f_y_21 (byteF_up (f_y_14 yb) (by decide))) (by rw [show joinP S (i + 1) = ((joinP S i ++ (lab S i).1) ++ [61]) ++ (lab S i).2 from by show joinP S i ++ _ = _; rw [if_pos (by omega)]; simp [List.append_assoc]]; exact pr4) rfl H _ ls hP hD hS (lv_sub hl [0, 1, 2, 3, 4] rfl)
              · have g7 := mt (nI_leI (a := i) (b := 0) (by omega) (by decide)).mpr g7
                refine lv_aload_n hx hb d_S_joined_66 rfl (lv_at hl 4 rfl) ?_
                refine lv_iload hx hb d_S_joined_67 (lv_at hl 1 rfl) ?_
                refine lv_bipush (v := 44) hx hb d_S_joined_69 (by decide) ?_
                refine nbst (n := (joinT S).length) hx hb hK hP hD hS (0) 0 rfl rfl (n) (by omega) (by omega) 44 (by decide) d_S_joined_71 (fun H locs hP hD hS => ?_)
                have hP : va_P D vwCl ([(rw0, .inl (dA 0, (joinT S).length, .inl (va_up f n 44)))] ++ (ws)) H := hP
                have hD : va_D A ([(rw0, .inl (dA 0, (joinT S).length, .inl (va_up f n 44)))] ++ (ws)) := hD
                refine lv_iinc (k := 1) (v := nI (n + 1)) hx hb d_S_joined_72 hl rfl (iincN (n) 1 1 (by decide)) (by decide) rfl (fun ls hl => ?_)
                have hl : lv_has ls 6 [(4, .int (nI (n + 1))), (5, .int (nI i)), (0, .ref na), (1, .ref va), (3, .ref rw0)] := hl
                have jr : (if i = 0 then 1 else 2) = 2 := if_neg (by omega)
                have pr1 : preF (va_up f n 44) (joinP S i ++ [44]) := preF_up pr i2
                have pl1 : n + 1 = ((joinP S i ++ [44])).length := by rw [i2]; rw [List.length_append]; rfl
                refine lv_aload_n hx hb d_S_joined_75 rfl (lv_at hl 2 rfl) ?_
                refine lv_iload hx hb d_S_joined_76 (lv_at hl 1 rfl) ?_
                obtain ⟨qp22, ep23⟩ := List.getElem?_of_mem (show ((na, .inl (dA 6, S.length, .inr (.inr (.inr (.inr fn))))) : Nat × va_E) ∈ [(rw0, .inl (dA 0, (joinT S).length, .inl (va_up f n 44)))] ++ (ws) from (List.mem_append_right _ n2))
                refine nqld (f := fn) (n := S.length) hx hb hK hP (qp22) 6 ep23 rfl (i) (by omega) (by omega) e1 d_S_joined_78 ?_
                refine lv_aload_n hx hb d_S_joined_79 rfl (lv_at hl 4 rfl) ?_
                refine lv_iload hx hb d_S_joined_80 (lv_at hl 0 rfl) ?_
                refine jkI (wr := []) (rnS (As := [.ref p1, .ref rw0, .int (nI (n + 1))]) (rest := []) hx hb hml hown hE hK (hN _ _ hS) hP hD (v_copyWord l D dA H.size ws p1 ((lab S i).1) rw0 ((joinT S).length) (va_up f n 44) (n + 1) (isWo_m (fun _ hm => hm) w1) (show (lab S i).1.length ≤ 65536 by omega) (show (n + 1) + ((lab S i).1).length ≤ ((joinT S).length) from by omega) (show ((joinT S).length) ≤ 65536 from by omega)) w1289 w1287 w1290 w1288 rfl rfl ⟨⟨by decide, by decide⟩, rfl⟩ ⟨(Nat.le_of_ble_eq_true rfl), (Nat.le_of_ble_eq_true rfl)⟩ rfl hl.1 rfl (Nat.le_of_ble_eq_true rfl) d_S_joined_82 ⟨(show 0 + 1 + 0 ≤ 1 by omega), (show 0 + ((joinT S).length) + 0 ≤ (joinT S).length by omega)⟩) hP hD hS hA (fun r24 u25 H locs hp9 hP hD hS => ?_)
                obtain ⟨g226, h9u⟩ : ∃ z9, z9 = u25 := ⟨_, rfl⟩
                subst h9u
                have hP : va_P D vwCl ([(rw0, .inl (dA 0, (joinT S).length, .inl g226))] ++ (ws)) H := hP
                have hD : va_D A ([(rw0, .inl (dA 0, (joinT S).length, .inl g226))] ++ (ws)) := hD
                obtain ⟨hp9, f_c_27, f_y_28⟩ := hp9
                replace hp9 : nI ((n + 1) + ((lab S i).1).length) = r24 := Eq.symm hp9
                subst hp9
                have pr2 := preF_cp pr1 pl1 f_c_27
                have pl2 : (n + 1) + ((lab S i).1).length = ((joinP S i ++ [44]) ++ (lab S i).1).length := by rw [List.length_append, pl1]
                refine lv_istore hx hb d_S_joined_85 hl (by decide) rfl (fun ls hl => ?_)
                have hl : lv_has ls 6 [(4, .int (nI ((n + 1) + ((lab S i).1).length))), (5, .int (nI i)), (0, .ref na), (1, .ref va), (3, .ref rw0)] := hl
                refine lv_aload_n hx hb d_S_joined_87 rfl (lv_at hl 4 rfl) ?_
                refine lv_iload hx hb d_S_joined_88 (lv_at hl 0 rfl) ?_
                refine lv_bipush (v := 61) hx hb d_S_joined_90 (by decide) ?_
                refine nbst (n := (joinT S).length) hx hb hK hP hD hS (0) 0 rfl rfl ((n + 1) + ((lab S i).1).length) (by omega) (by omega) 61 (by decide) d_S_joined_92 (fun H locs hP hD hS => ?_)
                have hP : va_P D vwCl ([(rw0, .inl (dA 0, (joinT S).length, .inl (va_up g226 ((n + 1) + ((lab S i).1).length) 61)))] ++ (ws)) H := hP
                have hD : va_D A ([(rw0, .inl (dA 0, (joinT S).length, .inl (va_up g226 ((n + 1) + ((lab S i).1).length) 61)))] ++ (ws)) := hD
                have pr3 := preF_up (v := 61) pr2 pl2
                have pl3 : (n + 1) + ((lab S i).1).length + 1 = (((joinP S i ++ [44]) ++ (lab S i).1) ++ [61]).length := by rw [List.length_append, ← pl2]; rfl
                refine lv_aload_n hx hb d_S_joined_93 rfl (lv_at hl 3 rfl) ?_
                refine lv_iload hx hb d_S_joined_94 (lv_at hl 1 rfl) ?_
                obtain ⟨qp29, ep30⟩ := List.getElem?_of_mem (show ((va, .inl (dA 6, S.length, .inr (.inr (.inr (.inr fv))))) : Nat × va_E) ∈ [(rw0, .inl (dA 0, (joinT S).length, .inl (va_up g226 ((n + 1) + ((lab S i).1).length) 61)))] ++ (ws) from (List.mem_append_right _ n3))
                refine nqld (f := fv) (n := S.length) hx hb hK hP (qp29) 6 ep30 rfl (i) (by omega) (by omega) e2 d_S_joined_96 ?_
                refine lv_aload_n hx hb d_S_joined_97 rfl (lv_at hl 4 rfl) ?_
                refine lv_iload hx hb d_S_joined_98 (lv_at hl 0 rfl) ?_
                refine lv_iconst (v := 1) hx hb d_S_joined_100 (by decide) ?_
                refine lv_iadd hx hb d_S_joined_101 (tpi (y := nI (((n + 1) + ((lab S i).1).length) + 1)) (nI_add ((n + 1) + ((lab S i).1).length) (1)) ?_)
                refine jkI (wr := []) (rnS (As := [.ref q1, .ref rw0, .int (nI (((n + 1) + ((lab S i).1).length) + 1))]) (rest := []) hx hb hml hown hE hK (hN _ _ hS) hP hD (v_copyWord l D dA H.size ws q1 ((lab S i).2) rw0 ((joinT S).length) (va_up g226 ((n + 1) + ((lab S i).1).length) 61) (((n + 1) + ((lab S i).1).length) + 1) (isWo_m (fun _ hm => hm) w2) (show (lab S i).2.length ≤ 65536 by omega) (show (((n + 1) + ((lab S i).1).length) + 1) + ((lab S i).2).length ≤ ((joinT S).length) from by omega) (show ((joinT S).length) ≤ 65536 from by omega)) w1289 w1287 w1290 w1288 rfl rfl ⟨⟨by decide, by decide⟩, rfl⟩ ⟨(Nat.le_of_ble_eq_true rfl), (Nat.le_of_ble_eq_true rfl)⟩ rfl hl.1 rfl (Nat.le_of_ble_eq_true rfl) d_S_joined_102 ⟨(show 0 + 1 + 0 + 0 ≤ 1 by omega), (show 0 + ((joinT S).length) + 0 + 0 ≤ (joinT S).length by omega)⟩) hP hD hS hA (fun r31 u32 H locs hp9 hP hD hS => ?_)
                obtain ⟨g233, h9u⟩ : ∃ z9, z9 = u32 := ⟨_, rfl⟩
                subst h9u
                have hP : va_P D vwCl ([(rw0, .inl (dA 0, (joinT S).length, .inl g233))] ++ (ws)) H := hP
                have hD : va_D A ([(rw0, .inl (dA 0, (joinT S).length, .inl g233))] ++ (ws)) := hD
                obtain ⟨hp9, f_c_34, f_y_35⟩ := hp9
                replace hp9 : nI ((((n + 1) + ((lab S i).1).length) + 1) + ((lab S i).2).length) = r31 := Eq.symm hp9
                subst hp9
                have pr4 := preF_cp pr3 pl3 f_c_34
                refine lv_istore hx hb d_S_joined_105 hl (by decide) rfl (fun ls hl => ?_)
                have hl : lv_has ls 6 [(4, .int (nI ((((n + 1) + ((lab S i).1).length) + 1) + ((lab S i).2).length))), (5, .int (nI i)), (0, .ref na), (1, .ref va), (3, .ref rw0)] := hl
                refine lv_iinc (k := 1) (v := nI (i + 1)) hx hb d_S_joined_107 hl rfl (iincN (i) 1 1 (by decide)) (by decide) rfl (fun ls hl => ?_)
                have hl : lv_has ls 6 [(5, .int (nI (i + 1))), (4, .int (nI ((((n + 1) + ((lab S i).1).length) + 1) + ((lab S i).2).length))), (0, .ref na), (1, .ref va), (3, .ref rw0)] := hl
                refine lv_goto hx hb d_S_joined_110 (tgt := 54) rfl ?_
                exact ih54 _ (by omega) (i + 1) g233 ((((n + 1) + ((lab S i).1).length) + 1) + ((lab S i).2).length) (by omega) (by rw [i2, jp_len, if_neg (by omega)]; omega) (f_y_35 (byteF_up (f_y_28 (byteF_up yb (by decide))) (by decide))) (by rw [show joinP S (i + 1) = (((joinP S i ++ [44]) ++ (lab S i).1) ++ [61]) ++ (lab S i).2 from by show joinP S i ++ _ = _; rw [if_neg (by omega)]; simp [List.append_assoc]]; exact pr4) rfl H _ ls hP hD hS (lv_sub hl [0, 1, 2, 3, 4] rfl)
        exact L54 _ 0 (fun _ => 0) 0 (Nat.zero_le _) rfl byteF_0 (fun q hq => absurd hq (Nat.not_lt_zero q)) rfl H _ ls hP hD hS (lv_sub hl [0, 1, 4, 5, 2] rfl)
      · have g3 := mt (nI_leI (a := S.length) (b := i) (by omega) (by omega)).mpr g3
        obtain ⟨p1, q1, e1, w1, e2, w2⟩ := hel i (by omega)
        have so2 := hso.2 i (by omega)
        have w1c := w1
        have w2c := w2
        obtain ⟨b1, f1, k1, k2, y1, hf1⟩ := w1c
        obtain ⟨b2, f2, k3, k4, y2, hf2⟩ := w2c
        have jq := jp_len S i
        have jm := jp_mono S (show i + 1 ≤ S.length by omega)
        refine lv_iload_n hx hb d_S_joined_10 rfl (lv_at hl 0 rfl) ?_
        refine lv_aload_n hx hb d_S_joined_11 rfl (lv_at hl 2 rfl) ?_
        refine lv_iload_n hx hb d_S_joined_12 rfl (lv_at hl 1 rfl) ?_
        obtain ⟨qp36, ep37⟩ := List.getElem?_of_mem (show ((na, .inl (dA 6, S.length, .inr (.inr (.inr (.inr fn))))) : Nat × va_E) ∈ ws from n2)
        refine nqld (f := fn) (n := S.length) hx hb hK hP (qp36) 6 ep37 rfl (i) (by omega) (by omega) e1 d_S_joined_13 ?_
        obtain ⟨qp38, ep39⟩ := List.getElem?_of_mem (show ((p1, .inr (10, [.ref b1])) : Nat × va_E) ∈ ws from k1)
        refine gFN (v := .ref b1) hx hb hown hE hK hP qp38 ep39 rfl layW 0 (by decide) w1277 rfl d_S_joined_14 ?_
        obtain ⟨qp40, ep41⟩ := List.getElem?_of_mem (show ((b1, .inl (dA 0, (lab S i).1.length, .inl f1)) : Nat × va_E) ∈ ws from k2)
        refine va_alen (v := nI ((lab S i).1.length)) hx hb hK hP (qp40) 0 ep41 rfl rfl d_S_joined_17 ?_
        refine lv_aload_n hx hb d_S_joined_18 rfl (lv_at hl 3 rfl) ?_
        refine lv_iload_n hx hb d_S_joined_19 rfl (lv_at hl 1 rfl) ?_
        obtain ⟨qp42, ep43⟩ := List.getElem?_of_mem (show ((va, .inl (dA 6, S.length, .inr (.inr (.inr (.inr fv))))) : Nat × va_E) ∈ ws from n3)
        refine nqld (f := fv) (n := S.length) hx hb hK hP (qp42) 6 ep43 rfl (i) (by omega) (by omega) e2 d_S_joined_20 ?_
        obtain ⟨qp44, ep45⟩ := List.getElem?_of_mem (show ((q1, .inr (10, [.ref b2])) : Nat × va_E) ∈ ws from k3)
        refine gFN (v := .ref b2) hx hb hown hE hK hP qp44 ep45 rfl layW 0 (by decide) w1277 rfl d_S_joined_21 ?_
        obtain ⟨qp46, ep47⟩ := List.getElem?_of_mem (show ((b2, .inl (dA 0, (lab S i).2.length, .inl f2)) : Nat × va_E) ∈ ws from k4)
        refine va_alen (v := nI ((lab S i).2.length)) hx hb hK hP (qp46) 0 ep47 rfl rfl d_S_joined_24 ?_
        refine lv_iadd hx hb d_S_joined_25 (tpi (y := nI (((lab S i).1.length) + ((lab S i).2.length))) (nI_add ((lab S i).1.length) ((lab S i).2.length)) ?_)
        refine lv_iload_n hx hb d_S_joined_26 rfl (lv_at hl 1 rfl) ?_
        refine lv_if_ne hx hb d_S_joined_27 (tgt := 34) rfl (fun g48 => ?_) (fun g48 => ?_)
        · have g48 := mt (nI_eq (a := i) (b := 0) (by omega) (by decide)).mpr g48
          refine lv_iconst (v := 2) hx hb d_S_joined_34 (by decide) ?_
          refine lv_iadd hx hb d_S_joined_35 (tpi (y := nI ((((lab S i).1.length) + ((lab S i).2.length)) + 2)) (nI_add (((lab S i).1.length) + ((lab S i).2.length)) (2)) ?_)
          refine lv_iadd hx hb d_S_joined_36 (tpi (y := nI (n + ((((lab S i).1.length) + ((lab S i).2.length)) + 2))) (nI_add (n) ((((lab S i).1.length) + ((lab S i).2.length)) + 2)) ?_)
          refine lv_istore_n hx hb d_S_joined_37 rfl hl (by decide) rfl (fun ls hl => ?_)
          have hl : lv_has ls 6 [(2, .int (nI (n + ((((lab S i).1.length) + ((lab S i).2.length)) + 2)))), (3, .int (nI i)), (0, .ref na), (1, .ref va)] := hl
          refine lv_iinc (k := 1) (v := nI (i + 1)) hx hb d_S_joined_38 hl rfl (iincN (i) 1 1 (by decide)) (by decide) rfl (fun ls hl => ?_)
          have hl : lv_has ls 6 [(3, .int (nI (i + 1))), (2, .int (nI (n + ((((lab S i).1.length) + ((lab S i).2.length)) + 2)))), (0, .ref na), (1, .ref va)] := hl
          refine lv_goto hx hb d_S_joined_41 (tgt := 4) rfl ?_
          exact ih4 _ (by omega) (i + 1) (n + ((((lab S i).1.length) + ((lab S i).2.length)) + 2)) (by omega) (by rw [i2, jp_len, if_neg (by omega)]) rfl H _ ls hP hD hS (lv_sub hl [1, 0, 2, 3] rfl)
        · have g48 := (nI_eq (a := i) (b := 0) (by omega) (by decide)).mp g48
          refine lv_iconst (v := 1) hx hb d_S_joined_30 (by decide) ?_
          refine lv_goto hx hb d_S_joined_31 (tgt := 35) rfl ?_
          refine lv_iadd hx hb d_S_joined_35 (tpi (y := nI ((((lab S i).1.length) + ((lab S i).2.length)) + 1)) (nI_add (((lab S i).1.length) + ((lab S i).2.length)) (1)) ?_)
          refine lv_iadd hx hb d_S_joined_36 (tpi (y := nI (n + ((((lab S i).1.length) + ((lab S i).2.length)) + 1))) (nI_add (n) ((((lab S i).1.length) + ((lab S i).2.length)) + 1)) ?_)
          refine lv_istore_n hx hb d_S_joined_37 rfl hl (by decide) rfl (fun ls hl => ?_)
          have hl : lv_has ls 6 [(2, .int (nI (n + ((((lab S i).1.length) + ((lab S i).2.length)) + 1)))), (3, .int (nI i)), (0, .ref na), (1, .ref va)] := hl
          refine lv_iinc (k := 1) (v := nI (i + 1)) hx hb d_S_joined_38 hl rfl (iincN (i) 1 1 (by decide)) (by decide) rfl (fun ls hl => ?_)
          have hl : lv_has ls 6 [(3, .int (nI (i + 1))), (2, .int (nI (n + ((((lab S i).1.length) + ((lab S i).2.length)) + 1)))), (0, .ref na), (1, .ref va)] := hl
          refine lv_goto hx hb d_S_joined_41 (tgt := 4) rfl ?_
          exact ih4 _ (by omega) (i + 1) (n + ((((lab S i).1.length) + ((lab S i).2.length)) + 1)) (by omega) (by rw [i2, jp_len, if_pos (by omega)]) rfl H _ ls hP hD hS (lv_sub hl [1, 0, 2, 3] rfl)
  exact L4 _ 0 0 (Nat.zero_le _) rfl rfl H _ ls hP hD hS (lv_sub hl [1, 0, 2, 3] rfl)
end
