theorem cpE_s {o f : Nat → Nat} {i : Nat} (h : ∀ z, f z = cnt i (cpE o z)) : ∀ z, va_up f (o i + 1) (f (o i + 1) + 1) z = cnt (i + 1) (cpE o z) := by
  intro z
  unfold va_up
  by_cases e : z = o i + 1
  · subst e
    rw [if_pos rfl, h, cnt_t (show cpE o (o i + 1) i = true from decide_eq_true rfl)]
  · rw [if_neg e, h, cnt_f (show cpE o z i = false from decide_eq_false (fun q => e q.symm))]
theorem cp_j1 {o f : Nat → Nat} {n : Nat} (h : ∀ z, f z = cnt n (cpE o z)) : ∀ z, z ≤ 0 → f z = cnt n (cpL o z) := by
  intro z hz
  have hz : z = 0 := by omega
  subst hz
  rw [h, cnt_0 (f := cpE o 0) (fun j _ => decide_eq_false (Nat.succ_ne_zero _)), cnt_0 (f := cpL o 0) (fun j _ => decide_eq_false (Nat.not_lt_zero _))]
theorem cp_j2 {o f : Nat → Nat} {n k : Nat} (h1 : ∀ z, z ≤ k → f z = cnt n (cpL o z)) (h2 : ∀ z, k < z → f z = cnt n (cpE o z)) : (∀ z, z ≤ k + 1 → va_up f (k + 1) (f (k + 1) + f k) z = cnt n (cpL o z)) ∧ ∀ z, k + 1 < z → va_up f (k + 1) (f (k + 1) + f k) z = cnt n (cpE o z) := by
  unfold va_up
  refine ⟨fun z hz => ?_, fun z hz => ?_⟩
  · by_cases e : z = k + 1
    · subst e
      rw [if_pos rfl, h2 _ (by omega), h1 k (Nat.le_refl _), cp_s]
      omega
    · rw [if_neg e, h1 z (by omega)]
  · rw [if_neg (by omega), h2 z (by omega)]
theorem upA {α : Type} {P : α → Prop} {f : Nat → α} {k : Nat} {v : α} (h : ∀ q, P (f q)) (hv : P v) : ∀ q, P (va_up f k v q) := by
  intro q
  unfold va_up
  split
  · exact hv
  · exact h q
/-- the parcel of n points that are laid so -/
def mkP (n : Nat) (O : Nat → Nat) (T V : Nat → Int64) : PT := (n, O, T, V, cnt n (chB O), 64 * cnt n (chB O) + (bcG O T V n).1, (64 * cnt n (chB O) + (bcG O T V n).1 + 32256 - 1) / 32256, grG T n)
theorem d_C_chunkPlaces_0 : decode prog_4_method_2_code 0 = .ok (.iload_n 1, 1) := by decide +kernel
theorem d_C_chunkPlaces_1 : decode prog_4_method_2_code 1 = .ok (.iconst 1, 1) := by decide +kernel
theorem d_C_chunkPlaces_2 : decode prog_4_method_2_code 2 = .ok (.iadd, 1) := by decide +kernel
theorem d_C_chunkPlaces_3 : decode prog_4_method_2_code 3 = .ok (.newarray .int, 2) := by decide +kernel
theorem d_C_chunkPlaces_5 : decode prog_4_method_2_code 5 = .ok (.astore_n 2, 1) := by decide +kernel
theorem d_C_chunkPlaces_6 : decode prog_4_method_2_code 6 = .ok (.iconst 0, 1) := by decide +kernel
theorem d_C_chunkPlaces_7 : decode prog_4_method_2_code 7 = .ok (.istore_n 3, 1) := by decide +kernel
theorem d_C_chunkPlaces_8 : decode prog_4_method_2_code 8 = .ok (.iload_n 3, 1) := by decide +kernel
theorem d_C_chunkPlaces_9 : decode prog_4_method_2_code 9 = .ok (.aload_n 0, 1) := by decide +kernel
theorem d_C_chunkPlaces_10 : decode prog_4_method_2_code 10 = .ok (.getfield 9, 3) := by decide +kernel
theorem d_C_chunkPlaces_13 : decode prog_4_method_2_code 13 = .ok (.if_icmp .ge 23, 3) := by decide +kernel
theorem d_C_chunkPlaces_36 : decode prog_4_method_2_code 36 = .ok (.iconst 0, 1) := by decide +kernel
theorem d_C_chunkPlaces_37 : decode prog_4_method_2_code 37 = .ok (.istore_n 3, 1) := by decide +kernel
theorem d_C_chunkPlaces_38 : decode prog_4_method_2_code 38 = .ok (.iload_n 3, 1) := by decide +kernel
theorem d_C_chunkPlaces_39 : decode prog_4_method_2_code 39 = .ok (.iload_n 1, 1) := by decide +kernel
theorem d_C_chunkPlaces_40 : decode prog_4_method_2_code 40 = .ok (.if_icmp .ge 20, 3) := by decide +kernel
theorem d_C_chunkPlaces_60 : decode prog_4_method_2_code 60 = .ok (.aload_n 2, 1) := by decide +kernel
theorem d_C_chunkPlaces_61 : decode prog_4_method_2_code 61 = .ok (.areturn, 1) := by decide +kernel
theorem d_C_chunkPlaces_43 : decode prog_4_method_2_code 43 = .ok (.aload_n 2, 1) := by decide +kernel
theorem d_C_chunkPlaces_44 : decode prog_4_method_2_code 44 = .ok (.iload_n 3, 1) := by decide +kernel
theorem d_C_chunkPlaces_45 : decode prog_4_method_2_code 45 = .ok (.iconst 1, 1) := by decide +kernel
theorem d_C_chunkPlaces_46 : decode prog_4_method_2_code 46 = .ok (.iadd, 1) := by decide +kernel
theorem d_C_chunkPlaces_47 : decode prog_4_method_2_code 47 = .ok (.dup2, 1) := by decide +kernel
theorem d_C_chunkPlaces_48 : decode prog_4_method_2_code 48 = .ok (.iaload, 1) := by decide +kernel
theorem d_C_chunkPlaces_49 : decode prog_4_method_2_code 49 = .ok (.aload_n 2, 1) := by decide +kernel
theorem d_C_chunkPlaces_50 : decode prog_4_method_2_code 50 = .ok (.iload_n 3, 1) := by decide +kernel
theorem d_C_chunkPlaces_51 : decode prog_4_method_2_code 51 = .ok (.iaload, 1) := by decide +kernel
theorem d_C_chunkPlaces_52 : decode prog_4_method_2_code 52 = .ok (.iadd, 1) := by decide +kernel
theorem d_C_chunkPlaces_53 : decode prog_4_method_2_code 53 = .ok (.iastore, 1) := by decide +kernel
theorem d_C_chunkPlaces_54 : decode prog_4_method_2_code 54 = .ok (.iinc 3 1, 3) := by decide +kernel
theorem d_C_chunkPlaces_57 : decode prog_4_method_2_code 57 = .ok (.goto (-19), 3) := by decide +kernel
theorem d_C_chunkPlaces_16 : decode prog_4_method_2_code 16 = .ok (.aload_n 2, 1) := by decide +kernel
theorem d_C_chunkPlaces_17 : decode prog_4_method_2_code 17 = .ok (.aload_n 0, 1) := by decide +kernel
theorem d_C_chunkPlaces_18 : decode prog_4_method_2_code 18 = .ok (.getfield 33, 3) := by decide +kernel
theorem d_C_chunkPlaces_21 : decode prog_4_method_2_code 21 = .ok (.iload_n 3, 1) := by decide +kernel
theorem d_C_chunkPlaces_22 : decode prog_4_method_2_code 22 = .ok (.iaload, 1) := by decide +kernel
theorem d_C_chunkPlaces_23 : decode prog_4_method_2_code 23 = .ok (.iconst 1, 1) := by decide +kernel
theorem d_C_chunkPlaces_24 : decode prog_4_method_2_code 24 = .ok (.iadd, 1) := by decide +kernel
theorem d_C_chunkPlaces_25 : decode prog_4_method_2_code 25 = .ok (.dup2, 1) := by decide +kernel
theorem d_C_chunkPlaces_26 : decode prog_4_method_2_code 26 = .ok (.iaload, 1) := by decide +kernel
theorem d_C_chunkPlaces_27 : decode prog_4_method_2_code 27 = .ok (.iconst 1, 1) := by decide +kernel
theorem d_C_chunkPlaces_28 : decode prog_4_method_2_code 28 = .ok (.iadd, 1) := by decide +kernel
theorem d_C_chunkPlaces_29 : decode prog_4_method_2_code 29 = .ok (.iastore, 1) := by decide +kernel
theorem d_C_chunkPlaces_30 : decode prog_4_method_2_code 30 = .ok (.iinc 3 1, 3) := by decide +kernel
theorem d_C_chunkPlaces_33 : decode prog_4_method_2_code 33 = .ok (.goto (-25), 3) := by decide +kernel
theorem w1224 : Cond.fieldLinkNest "SeriesVault$Parcel" 9 "SeriesVault$Points" "size" "I" "SeriesVault" ∈ aW := aw_of (tb_1 (List.mem_of_getElem? (i := 119) rfl)) rfl
theorem w1225 : Cond.fieldLinkNest "SeriesVault$Parcel" 33 "SeriesVault$Points" "owners" "[I" "SeriesVault" ∈ aW := aw_of (tb_1 (List.mem_of_getElem? (i := 111) rfl)) rfl
set_option maxHeartbeats 4000000 in
set_option maxRecDepth 100000 in
theorem v_chunkPlaces (l : Launch) (D : va_G) (dA : Nat → ClassId) (sz : Nat) (ws : va_W) (pa : Nat) (oa : Nat) (ta : Nat) (va : Nat) (N : Nat) (n : Nat) (o : Nat → Nat) (t : Nat → Int64) (v : Nat → Int64) (w : Nat) (m1 : (pa, .inr (2, [.ref oa, .ref ta, .ref va, .int (nI n)])) ∈ ws) (m2 : (oa, .inl (dA 1, N, .inl (fun z9 => nI (o z9)))) ∈ ws) (m3 : (ta, .inl (dA 2, N, .inr (.inl t))) ∈ ws) (m4 : (va, .inl (dA 2, N, .inr (.inl v))) ∈ ws) (hn : n ≤ 12000) (hN : n ≤ N) (hN2 : N ≤ 65536) (hw : w ≤ 256) (ho : ∀ i : Nat, i < n → o i < w) : Met l ⟨"SeriesVault$Parcel", "chunkPlaces", "(LSeriesVault$Points;I)[I"⟩ [Cond.code ⟨"SeriesVault$Parcel", "chunkPlaces", "(LSeriesVault$Points;I)[I"⟩ prog_4_method_2_code 4 (some (FieldType.array FieldType.int))] { frames := 1, cells := 1, slots := w + 1, locals := 0 } (pC D dA [.ref pa, .int (nI w)] (ws) sz) (va_Qr (fun (_ : (Nat → Nat)) => True) (fun (u9 : (Nat → Nat)) (r9 : Nat) t9 => (∀ z, z ≤ w → u9 z = cnt n (cpL o z)) ∧ bW D (va_A (ws) sz) ([(r9, .inl (dA 1, w + 1, .inl (fun z9 => nI (u9 z9))))] ++ (ws)) t9) (va_A (ws) sz)) 1 (w + 1) (va_A (ws) sz) := by
  refine mkC (y := ⟨"SeriesVault$Parcel", "chunkPlaces", "(LSeriesVault$Points;I)[I"⟩) (cc := prog_4_method_2_code) (maxL := 4) (av := [.ref pa, .int (nI w)]) (ws := ws) (sz := sz) (Qc := fun A => va_Qr (fun (_ : (Nat → Nat)) => True) (fun (u9 : (Nat → Nat)) (r9 : Nat) t9 => (∀ z, z ≤ w → u9 z = cnt n (cpL o z)) ∧ bW D A ([(r9, .inl (dA 1, w + 1, .inl (fun z9 => nI (u9 z9))))] ++ (ws)) t9) A) (by decide) (Nat.le_of_ble_eq_true rfl) ?_
  intro A p e s m below meth c ls hsz hB
  obtain ⟨hx, hb, hr, hml, hown, hin, hlk, hE, hK, hP, hD, hS, hA, hN, hl⟩ := hB
  have hown : s.vm.findClass "SeriesVault$Parcel" = some m.cls := hown
  have hl : lv_has ls 4 [(0, .ref pa), (1, .int (nI w))] := hl
  obtain ⟨H, hH⟩ : ∃ z, z = s.heap := ⟨_, rfl⟩
  have hP : va_P D vwCl (ws) H := by rw [hH]; exact hP
  have hS : va_S A s.heap H [] := by rw [hH]; exact hS
  rw [← hH]
  refine lv_iload_n hx hb d_C_chunkPlaces_0 rfl (lv_at hl 1 rfl) ?_
  refine lv_iconst (v := 1) hx hb d_C_chunkPlaces_1 (by decide) ?_
  refine lv_iadd hx hb d_C_chunkPlaces_2 (tpi (y := nI (w + 1)) (nI_add (w) (1)) ?_)
  refine nnA (atype := .int) (ty := .int) (N' := w + 1) (a0 := (w + 1, .inl (fun z9 => nI ((fun _ => 0) z9)))) hx hb hE rfl w184 hK hP hD hS hA 1 rfl (fun _ => rfl) (by omega) (show (w + 1) * 4 ≤ 536870912 by omega) (show 0 + 1 ≤ 1 by omega) (show 0 + (w + 1) ≤ w + 1 by omega) d_C_chunkPlaces_3 (fun qq H hP hD hS => ?_)
  have hP : va_P D vwCl ([(qq, .inl (dA 1, w + 1, .inl (fun z9 => nI ((fun _ => 0) z9))))] ++ (ws)) H := hP
  have hD : va_D A ([(qq, .inl (dA 1, w + 1, .inl (fun z9 => nI ((fun _ => 0) z9))))] ++ (ws)) := hD
  refine lv_astore_n hx hb d_C_chunkPlaces_5 rfl hl (by decide) rfl (fun ls hl => ?_)
  have hl : lv_has ls 4 [(2, .ref qq), (0, .ref pa), (1, .int (nI w))] := hl
  refine lv_iconst (v := 0) hx hb d_C_chunkPlaces_6 (by decide) ?_
  refine lv_istore_n hx hb d_C_chunkPlaces_7 rfl hl (by decide) rfl (fun ls hl => ?_)
  have hl : lv_has ls 4 [(3, .int 0), (2, .ref qq), (0, .ref pa), (1, .int (nI w))] := hl
  have L8 : ∀ (k9 : Nat) (i : Nat) (f : Nat → Nat) (i1 : i ≤ n) (i2 : ∀ z, f z = cnt i (cpE o z)) (hk9 : n - i = k9), ∀ (H : Heap) (locs : List Loc) (ls : Array Slot) (hP : va_P D vwCl ([(qq, .inl (dA 1, w + 1, .inl (fun z9 => nI (f z9))))] ++ (ws)) H) (hD : va_D A ([(qq, .inl (dA 1, w + 1, .inl (fun z9 => nI (f z9))))] ++ (ws))) (hS : va_S A s.heap H locs) (hl : lv_has ls 4 [(3, .int (nI i)), (0, .ref pa), (1, .int (nI w)), (2, .ref qq)]), W p l e ({ frames := 1, cells := 1, slots := w + 1, locals := 0 } : Room) s m ([.ref pa, .int (nI w)] : List Value).toArray below meth c H locs (0 + 1) (0 + (w + 1)) (MQ below (va_Qr (fun (_ : (Nat → Nat)) => True) (fun (u9 : (Nat → Nat)) (r9 : Nat) t9 => (∀ z, z ≤ w → u9 z = cnt n (cpL o z)) ∧ bW D A ([(r9, .inl (dA 1, w + 1, .inl (fun z9 => nI (u9 z9))))] ++ (ws)) t9) A) ([.ref pa, .int (nI w)] : List Value).toArray s 1 (w + 1) A) (F0 m 8 ls []) := by
    intro k9
    induction k9 using Nat.strongRecOn with
    | ind k9 ih8 =>
      intro i f i1 i2 hk9 H locs ls hP hD hS hl
      refine lv_iload_n hx hb d_C_chunkPlaces_8 rfl (lv_at hl 0 rfl) ?_
      refine lv_aload_n hx hb d_C_chunkPlaces_9 rfl (lv_at hl 1 rfl) ?_
      obtain ⟨qp1, ep2⟩ := List.getElem?_of_mem (show ((pa, .inr (2, [.ref oa, .ref ta, .ref va, .int (nI n)])) : Nat × va_E) ∈ [(qq, .inl (dA 1, w + 1, .inl (fun z9 => nI (f z9))))] ++ (ws) from (List.mem_append_right _ m1))
      refine gFN (v := .int (nI n)) hx hb hown hE hK hP qp1 ep2 rfl layP 3 (by decide) w1224 rfl d_C_chunkPlaces_10 ?_
      refine lv_icmp_ge hx hb d_C_chunkPlaces_13 (tgt := 36) rfl (fun g3 => ?_) (fun g3 => ?_)
      · have g3 := (nI_leI (a := n) (b := i) (by omega) (by omega)).mp g3
        refine lv_iconst (v := 0) hx hb d_C_chunkPlaces_36 (by decide) ?_
        refine lv_istore_n hx hb d_C_chunkPlaces_37 rfl hl (by decide) rfl (fun ls hl => ?_)
        have hl : lv_has ls 4 [(3, .int 0), (0, .ref pa), (1, .int (nI w)), (2, .ref qq)] := hl
        have L38 : ∀ (k9 : Nat) (k : Nat) (f : Nat → Nat) (j0 : k ≤ w) (j1 : ∀ z, z ≤ k → f z = cnt n (cpL o z)) (j2 : ∀ z, k < z → f z = cnt n (cpE o z)) (hk9 : w - k = k9), ∀ (H : Heap) (locs : List Loc) (ls : Array Slot) (hP : va_P D vwCl ([(qq, .inl (dA 1, w + 1, .inl (fun z9 => nI (f z9))))] ++ (ws)) H) (hD : va_D A ([(qq, .inl (dA 1, w + 1, .inl (fun z9 => nI (f z9))))] ++ (ws))) (hS : va_S A s.heap H locs) (hl : lv_has ls 4 [(3, .int (nI k)), (0, .ref pa), (1, .int (nI w)), (2, .ref qq)]), W p l e ({ frames := 1, cells := 1, slots := w + 1, locals := 0 } : Room) s m ([.ref pa, .int (nI w)] : List Value).toArray below meth c H locs (0 + 1) (0 + (w + 1)) (MQ below (va_Qr (fun (_ : (Nat → Nat)) => True) (fun (u9 : (Nat → Nat)) (r9 : Nat) t9 => (∀ z, z ≤ w → u9 z = cnt n (cpL o z)) ∧ bW D A ([(r9, .inl (dA 1, w + 1, .inl (fun z9 => nI (u9 z9))))] ++ (ws)) t9) A) ([.ref pa, .int (nI w)] : List Value).toArray s 1 (w + 1) A) (F0 m 38 ls []) := by
          intro k9
          induction k9 using Nat.strongRecOn with
          | ind k9 ih38 =>
            intro k f j0 j1 j2 hk9 H locs ls hP hD hS hl
            refine lv_iload_n hx hb d_C_chunkPlaces_38 rfl (lv_at hl 0 rfl) ?_
            refine lv_iload_n hx hb d_C_chunkPlaces_39 rfl (lv_at hl 2 rfl) ?_
            refine lv_icmp_ge hx hb d_C_chunkPlaces_40 (tgt := 60) rfl (fun g4 => ?_) (fun g4 => ?_)
            · have g4 := (nI_leI (a := w) (b := k) (by omega) (by omega)).mp g4
              refine lv_aload_n hx hb d_C_chunkPlaces_60 rfl (lv_at hl 3 rfl) ?_
              exact rkR hx hb hr (Or.inr ⟨_, rfl⟩) hlk hS f (fun z hz => j1 z (by omega)) hP hD (show 0 + 1 ≤ 1 by omega) (show 0 + (w + 1) ≤ w + 1 by omega) d_C_chunkPlaces_61
            · have g4 := mt (nI_leI (a := w) (b := k) (by omega) (by omega)).mpr g4
              refine lv_aload_n hx hb d_C_chunkPlaces_43 rfl (lv_at hl 3 rfl) ?_
              refine lv_iload_n hx hb d_C_chunkPlaces_44 rfl (lv_at hl 0 rfl) ?_
              refine lv_iconst (v := 1) hx hb d_C_chunkPlaces_45 (by decide) ?_
              refine lv_iadd hx hb d_C_chunkPlaces_46 (tpi (y := nI (k + 1)) (nI_add (k) (1)) ?_)
              refine lv_dup2_11 hx hb d_C_chunkPlaces_47 rfl rfl ?_
              refine nild (f := (fun z9 => nI (f z9))) (n := w + 1) hx hb hK hP (0) 1 rfl rfl (k + 1) (by omega) (by omega) d_C_chunkPlaces_48 ?_
              refine lv_aload_n hx hb d_C_chunkPlaces_49 rfl (lv_at hl 3 rfl) ?_
              refine lv_iload_n hx hb d_C_chunkPlaces_50 rfl (lv_at hl 0 rfl) ?_
              refine nild (f := (fun z9 => nI (f z9))) (n := w + 1) hx hb hK hP (0) 1 rfl rfl (k) (by omega) (by omega) d_C_chunkPlaces_51 ?_
              refine lv_iadd hx hb d_C_chunkPlaces_52 (tpi (y := nI ((f (k + 1)) + (f k))) (nI_add (f (k + 1)) (f k)) ?_)
              refine nistN (v := (f (k + 1)) + (f k)) (n := w + 1) hx hb hK hP hD hS (0) 1 rfl rfl (k + 1) (by omega) (by omega) d_C_chunkPlaces_53 (fun H locs hP hD hS => ?_)
              have hP : va_P D vwCl ([(qq, .inl (dA 1, w + 1, .inl (fun z9 => nI ((va_up f (k + 1) ((f (k + 1)) + (f k))) z9))))] ++ (ws)) H := hP
              have hD : va_D A ([(qq, .inl (dA 1, w + 1, .inl (fun z9 => nI ((va_up f (k + 1) ((f (k + 1)) + (f k))) z9))))] ++ (ws)) := hD
              refine lv_iinc (k := 0) (v := nI (k + 1)) hx hb d_C_chunkPlaces_54 hl rfl (iincN (k) 1 1 (by decide)) (by decide) rfl (fun ls hl => ?_)
              have hl : lv_has ls 4 [(3, .int (nI (k + 1))), (0, .ref pa), (1, .int (nI w)), (2, .ref qq)] := hl
              refine lv_goto hx hb d_C_chunkPlaces_57 (tgt := 38) rfl ?_
              exact ih38 _ (by omega) (k + 1) (va_up f (k + 1) ((f (k + 1)) + (f k))) (by omega) (cp_j2 j1 j2).1 (cp_j2 j1 j2).2 rfl H _ ls hP hD hS (lv_sub hl [0, 1, 2, 3] rfl)
        exact L38 _ 0 f (Nat.zero_le _) (cp_j1 (by rw [← show i = n by omega]; exact i2)) (fun z _ => by rw [← show i = n by omega]; exact i2 z) rfl H _ ls hP hD hS (lv_sub hl [0, 1, 2, 3] rfl)
      · have g3 := mt (nI_leI (a := n) (b := i) (by omega) (by omega)).mpr g3
        refine lv_aload_n hx hb d_C_chunkPlaces_16 rfl (lv_at hl 3 rfl) ?_
        refine lv_aload_n hx hb d_C_chunkPlaces_17 rfl (lv_at hl 1 rfl) ?_
        obtain ⟨qp5, ep6⟩ := List.getElem?_of_mem (show ((pa, .inr (2, [.ref oa, .ref ta, .ref va, .int (nI n)])) : Nat × va_E) ∈ [(qq, .inl (dA 1, w + 1, .inl (fun z9 => nI (f z9))))] ++ (ws) from (List.mem_append_right _ m1))
        refine gFN (v := .ref oa) hx hb hown hE hK hP qp5 ep6 rfl layP 0 (by decide) w1225 rfl d_C_chunkPlaces_18 ?_
        refine lv_iload_n hx hb d_C_chunkPlaces_21 rfl (lv_at hl 0 rfl) ?_
        have c7 := ho i (by omega)
        obtain ⟨qp7, ep8⟩ := List.getElem?_of_mem (show ((oa, .inl (dA 1, N, .inl (fun z9 => nI (o z9)))) : Nat × va_E) ∈ [(qq, .inl (dA 1, w + 1, .inl (fun z9 => nI (f z9))))] ++ (ws) from (List.mem_append_right _ m2))
        refine nild (f := (fun z9 => nI (o z9))) (n := N) hx hb hK hP (qp7) 1 ep8 rfl (i) (by omega) (by omega) d_C_chunkPlaces_22 ?_
        refine lv_iconst (v := 1) hx hb d_C_chunkPlaces_23 (by decide) ?_
        refine lv_iadd hx hb d_C_chunkPlaces_24 (tpi (y := nI (o i + 1)) (nI_add (o i) (1)) ?_)
        refine lv_dup2_11 hx hb d_C_chunkPlaces_25 rfl rfl ?_
        refine nild (f := (fun z9 => nI (f z9))) (n := w + 1) hx hb hK hP (0) 1 rfl rfl (o i + 1) (by omega) (by omega) d_C_chunkPlaces_26 ?_
        refine lv_iconst (v := 1) hx hb d_C_chunkPlaces_27 (by decide) ?_
        refine lv_iadd hx hb d_C_chunkPlaces_28 (tpi (y := nI ((f (o i + 1)) + 1)) (nI_add (f (o i + 1)) (1)) ?_)
        refine nistN (v := (f (o i + 1)) + 1) (n := w + 1) hx hb hK hP hD hS (0) 1 rfl rfl (o i + 1) (by omega) (by omega) d_C_chunkPlaces_29 (fun H locs hP hD hS => ?_)
        have hP : va_P D vwCl ([(qq, .inl (dA 1, w + 1, .inl (fun z9 => nI ((va_up f (o i + 1) ((f (o i + 1)) + 1)) z9))))] ++ (ws)) H := hP
        have hD : va_D A ([(qq, .inl (dA 1, w + 1, .inl (fun z9 => nI ((va_up f (o i + 1) ((f (o i + 1)) + 1)) z9))))] ++ (ws)) := hD
        refine lv_iinc (k := 0) (v := nI (i + 1)) hx hb d_C_chunkPlaces_30 hl rfl (iincN (i) 1 1 (by decide)) (by decide) rfl (fun ls hl => ?_)
        have hl : lv_has ls 4 [(3, .int (nI (i + 1))), (0, .ref pa), (1, .int (nI w)), (2, .ref qq)] := hl
        refine lv_goto hx hb d_C_chunkPlaces_33 (tgt := 8) rfl ?_
        exact ih8 _ (by omega) (i + 1) (va_up f (o i + 1) ((f (o i + 1)) + 1)) (by omega) (cpE_s i2) rfl H _ ls hP hD hS (lv_sub hl [0, 1, 2, 3] rfl)
  exact L8 _ 0 (fun _ => 0) (Nat.zero_le _) (fun _ => rfl) rfl H _ ls hP hD hS (lv_sub hl [0, 2, 3, 1] rfl)
theorem d_C_init_0 : decode prog_4_method_1_code 0 = .ok (.aload_n 0, 1) := by decide +kernel
theorem d_C_init_1 : decode prog_4_method_1_code 1 = .ok (.invokespecial 3, 3) := by decide +kernel
theorem d_C_init_4 : decode prog_4_method_1_code 4 = .ok (.aload_n 0, 1) := by decide +kernel
theorem d_C_init_5 : decode prog_4_method_1_code 5 = .ok (.aload_n 1, 1) := by decide +kernel
theorem d_C_init_6 : decode prog_4_method_1_code 6 = .ok (.getfield 9, 3) := by decide +kernel
theorem d_C_init_9 : decode prog_4_method_1_code 9 = .ok (.putfield 15, 3) := by decide +kernel
theorem d_C_init_12 : decode prog_4_method_1_code 12 = .ok (.aload_n 0, 1) := by decide +kernel
theorem d_C_init_13 : decode prog_4_method_1_code 13 = .ok (.aload_n 0, 1) := by decide +kernel
theorem d_C_init_14 : decode prog_4_method_1_code 14 = .ok (.getfield 15, 3) := by decide +kernel
theorem d_C_init_17 : decode prog_4_method_1_code 17 = .ok (.newarray .int, 2) := by decide +kernel
theorem d_C_init_19 : decode prog_4_method_1_code 19 = .ok (.putfield 18, 3) := by decide +kernel
theorem d_C_init_22 : decode prog_4_method_1_code 22 = .ok (.aload_n 0, 1) := by decide +kernel
theorem d_C_init_23 : decode prog_4_method_1_code 23 = .ok (.aload_n 0, 1) := by decide +kernel
theorem d_C_init_24 : decode prog_4_method_1_code 24 = .ok (.getfield 15, 3) := by decide +kernel
theorem d_C_init_27 : decode prog_4_method_1_code 27 = .ok (.newarray .long, 2) := by decide +kernel
theorem d_C_init_29 : decode prog_4_method_1_code 29 = .ok (.putfield 22, 3) := by decide +kernel
theorem d_C_init_32 : decode prog_4_method_1_code 32 = .ok (.aload_n 0, 1) := by decide +kernel
theorem d_C_init_33 : decode prog_4_method_1_code 33 = .ok (.aload_n 0, 1) := by decide +kernel
theorem d_C_init_34 : decode prog_4_method_1_code 34 = .ok (.getfield 15, 3) := by decide +kernel
theorem d_C_init_37 : decode prog_4_method_1_code 37 = .ok (.newarray .long, 2) := by decide +kernel
theorem d_C_init_39 : decode prog_4_method_1_code 39 = .ok (.putfield 26, 3) := by decide +kernel
theorem d_C_init_42 : decode prog_4_method_1_code 42 = .ok (.aload_n 1, 1) := by decide +kernel
theorem d_C_init_43 : decode prog_4_method_1_code 43 = .ok (.iload_n 2, 1) := by decide +kernel
theorem d_C_init_44 : decode prog_4_method_1_code 44 = .ok (.invokestatic 29, 3) := by decide +kernel
theorem d_C_init_47 : decode prog_4_method_1_code 47 = .ok (.astore_n 3, 1) := by decide +kernel
theorem d_C_init_48 : decode prog_4_method_1_code 48 = .ok (.iconst 0, 1) := by decide +kernel
theorem d_C_init_49 : decode prog_4_method_1_code 49 = .ok (.istore 4, 2) := by decide +kernel
theorem d_C_init_51 : decode prog_4_method_1_code 51 = .ok (.iload 4, 2) := by decide +kernel
theorem d_C_init_53 : decode prog_4_method_1_code 53 = .ok (.aload_n 0, 1) := by decide +kernel
theorem d_C_init_54 : decode prog_4_method_1_code 54 = .ok (.getfield 15, 3) := by decide +kernel
theorem d_C_init_57 : decode prog_4_method_1_code 57 = .ok (.if_icmp .ge 69, 3) := by decide +kernel
theorem d_C_init_126 : decode prog_4_method_1_code 126 = .ok (.aload_n 0, 1) := by decide +kernel
theorem d_C_init_127 : decode prog_4_method_1_code 127 = .ok (.aload_n 0, 1) := by decide +kernel
theorem d_C_init_128 : decode prog_4_method_1_code 128 = .ok (.getfield 18, 3) := by decide +kernel
theorem d_C_init_131 : decode prog_4_method_1_code 131 = .ok (.invokestatic 36, 3) := by decide +kernel
theorem d_C_init_134 : decode prog_4_method_1_code 134 = .ok (.putfield 40, 3) := by decide +kernel
theorem d_C_init_137 : decode prog_4_method_1_code 137 = .ok (.aload_n 0, 1) := by decide +kernel
theorem d_C_init_138 : decode prog_4_method_1_code 138 = .ok (.bipush 64, 2) := by decide +kernel
theorem d_C_init_140 : decode prog_4_method_1_code 140 = .ok (.aload_n 0, 1) := by decide +kernel
theorem d_C_init_141 : decode prog_4_method_1_code 141 = .ok (.getfield 40, 3) := by decide +kernel
theorem d_C_init_144 : decode prog_4_method_1_code 144 = .ok (.imul, 1) := by decide +kernel
theorem d_C_init_145 : decode prog_4_method_1_code 145 = .ok (.aload_n 0, 1) := by decide +kernel
theorem d_C_init_146 : decode prog_4_method_1_code 146 = .ok (.getfield 18, 3) := by decide +kernel
theorem d_C_init_149 : decode prog_4_method_1_code 149 = .ok (.aload_n 0, 1) := by decide +kernel
theorem d_C_init_150 : decode prog_4_method_1_code 150 = .ok (.getfield 22, 3) := by decide +kernel
theorem d_C_init_153 : decode prog_4_method_1_code 153 = .ok (.aload_n 0, 1) := by decide +kernel
theorem d_C_init_154 : decode prog_4_method_1_code 154 = .ok (.getfield 26, 3) := by decide +kernel
theorem d_C_init_157 : decode prog_4_method_1_code 157 = .ok (.invokestatic 43, 3) := by decide +kernel
theorem d_C_init_160 : decode prog_4_method_1_code 160 = .ok (.iadd, 1) := by decide +kernel
theorem d_C_init_161 : decode prog_4_method_1_code 161 = .ok (.putfield 47, 3) := by decide +kernel
theorem d_C_init_164 : decode prog_4_method_1_code 164 = .ok (.aload_n 0, 1) := by decide +kernel
theorem d_C_init_165 : decode prog_4_method_1_code 165 = .ok (.aload_n 0, 1) := by decide +kernel
theorem d_C_init_166 : decode prog_4_method_1_code 166 = .ok (.getfield 47, 3) := by decide +kernel
theorem d_C_init_169 : decode prog_4_method_1_code 169 = .ok (.sipush 32256, 3) := by decide +kernel
theorem d_C_init_172 : decode prog_4_method_1_code 172 = .ok (.iadd, 1) := by decide +kernel
theorem d_C_init_173 : decode prog_4_method_1_code 173 = .ok (.iconst 1, 1) := by decide +kernel
theorem d_C_init_174 : decode prog_4_method_1_code 174 = .ok (.isub, 1) := by decide +kernel
theorem d_C_init_175 : decode prog_4_method_1_code 175 = .ok (.sipush 32256, 3) := by decide +kernel
theorem d_C_init_178 : decode prog_4_method_1_code 178 = .ok (.idiv, 1) := by decide +kernel
theorem d_C_init_179 : decode prog_4_method_1_code 179 = .ok (.putfield 50, 3) := by decide +kernel
theorem d_C_init_182 : decode prog_4_method_1_code 182 = .ok (.aload_n 0, 1) := by decide +kernel
theorem d_C_init_183 : decode prog_4_method_1_code 183 = .ok (.aload_n 0, 1) := by decide +kernel
theorem d_C_init_184 : decode prog_4_method_1_code 184 = .ok (.getfield 22, 3) := by decide +kernel
theorem d_C_init_187 : decode prog_4_method_1_code 187 = .ok (.invokestatic 53, 3) := by decide +kernel
theorem d_C_init_190 : decode prog_4_method_1_code 190 = .ok (.putfield 57, 3) := by decide +kernel
theorem d_C_init_193 : decode prog_4_method_1_code 193 = .ok (.return_, 1) := by decide +kernel
theorem d_C_init_60 : decode prog_4_method_1_code 60 = .ok (.aload_n 1, 1) := by decide +kernel
theorem d_C_init_61 : decode prog_4_method_1_code 61 = .ok (.getfield 33, 3) := by decide +kernel
theorem d_C_init_64 : decode prog_4_method_1_code 64 = .ok (.iload 4, 2) := by decide +kernel
theorem d_C_init_66 : decode prog_4_method_1_code 66 = .ok (.iaload, 1) := by decide +kernel
theorem d_C_init_67 : decode prog_4_method_1_code 67 = .ok (.istore 5, 2) := by decide +kernel
theorem d_C_init_69 : decode prog_4_method_1_code 69 = .ok (.aload_n 3, 1) := by decide +kernel
theorem d_C_init_70 : decode prog_4_method_1_code 70 = .ok (.iload 5, 2) := by decide +kernel
theorem d_C_init_72 : decode prog_4_method_1_code 72 = .ok (.iaload, 1) := by decide +kernel
theorem d_C_init_73 : decode prog_4_method_1_code 73 = .ok (.istore 6, 2) := by decide +kernel
theorem d_C_init_75 : decode prog_4_method_1_code 75 = .ok (.aload_n 0, 1) := by decide +kernel
theorem d_C_init_76 : decode prog_4_method_1_code 76 = .ok (.getfield 18, 3) := by decide +kernel
theorem d_C_init_79 : decode prog_4_method_1_code 79 = .ok (.iload 6, 2) := by decide +kernel
theorem d_C_init_81 : decode prog_4_method_1_code 81 = .ok (.iload 5, 2) := by decide +kernel
theorem d_C_init_83 : decode prog_4_method_1_code 83 = .ok (.iastore, 1) := by decide +kernel
theorem d_C_init_84 : decode prog_4_method_1_code 84 = .ok (.aload_n 0, 1) := by decide +kernel
theorem d_C_init_85 : decode prog_4_method_1_code 85 = .ok (.getfield 22, 3) := by decide +kernel
theorem d_C_init_88 : decode prog_4_method_1_code 88 = .ok (.iload 6, 2) := by decide +kernel
theorem d_C_init_90 : decode prog_4_method_1_code 90 = .ok (.aload_n 1, 1) := by decide +kernel
theorem d_C_init_91 : decode prog_4_method_1_code 91 = .ok (.getfield 34, 3) := by decide +kernel
theorem d_C_init_94 : decode prog_4_method_1_code 94 = .ok (.iload 4, 2) := by decide +kernel
theorem d_C_init_96 : decode prog_4_method_1_code 96 = .ok (.laload, 1) := by decide +kernel
theorem d_C_init_97 : decode prog_4_method_1_code 97 = .ok (.lastore, 1) := by decide +kernel
theorem d_C_init_98 : decode prog_4_method_1_code 98 = .ok (.aload_n 0, 1) := by decide +kernel
theorem d_C_init_99 : decode prog_4_method_1_code 99 = .ok (.getfield 26, 3) := by decide +kernel
theorem d_C_init_102 : decode prog_4_method_1_code 102 = .ok (.iload 6, 2) := by decide +kernel
theorem d_C_init_104 : decode prog_4_method_1_code 104 = .ok (.aload_n 1, 1) := by decide +kernel
theorem d_C_init_105 : decode prog_4_method_1_code 105 = .ok (.getfield 35, 3) := by decide +kernel
theorem d_C_init_108 : decode prog_4_method_1_code 108 = .ok (.iload 4, 2) := by decide +kernel
theorem d_C_init_110 : decode prog_4_method_1_code 110 = .ok (.laload, 1) := by decide +kernel
theorem d_C_init_111 : decode prog_4_method_1_code 111 = .ok (.lastore, 1) := by decide +kernel
theorem d_C_init_112 : decode prog_4_method_1_code 112 = .ok (.aload_n 3, 1) := by decide +kernel
theorem d_C_init_113 : decode prog_4_method_1_code 113 = .ok (.iload 5, 2) := by decide +kernel
theorem d_C_init_115 : decode prog_4_method_1_code 115 = .ok (.dup2, 1) := by decide +kernel
theorem d_C_init_116 : decode prog_4_method_1_code 116 = .ok (.iaload, 1) := by decide +kernel
theorem d_C_init_117 : decode prog_4_method_1_code 117 = .ok (.iconst 1, 1) := by decide +kernel
theorem d_C_init_118 : decode prog_4_method_1_code 118 = .ok (.iadd, 1) := by decide +kernel
theorem d_C_init_119 : decode prog_4_method_1_code 119 = .ok (.iastore, 1) := by decide +kernel
theorem d_C_init_120 : decode prog_4_method_1_code 120 = .ok (.iinc 4 1, 3) := by decide +kernel
theorem d_C_init_123 : decode prog_4_method_1_code 123 = .ok (.goto (-72), 3) := by decide +kernel
theorem w1226 : Cond.methodLink "SeriesVault$Parcel" 3 ⟨"java/lang/Object", "<init>", "()V"⟩ ∈ aW := aw_of (tb_6 (List.mem_of_getElem? (i := 6) rfl)) rfl
theorem w1227 : Cond.fieldLink "SeriesVault$Parcel" 15 "SeriesVault$Parcel" "size" "I" ∈ aW := aw_of (tb_6 (List.mem_of_getElem? (i := 53) rfl)) rfl
theorem w1228 : Cond.fieldLink "SeriesVault$Parcel" 18 "SeriesVault$Parcel" "owners" "[I" ∈ aW := aw_of (tb_6 (List.mem_of_getElem? (i := 44) rfl)) rfl
theorem w1229 : Cond.fieldLink "SeriesVault$Parcel" 22 "SeriesVault$Parcel" "times" "[J" ∈ aW := aw_of (tb_6 (List.mem_of_getElem? (i := 47) rfl)) rfl
theorem w1230 : Cond.fieldLink "SeriesVault$Parcel" 26 "SeriesVault$Parcel" "values" "[J" ∈ aW := aw_of (tb_6 (List.mem_of_getElem? (i := 50) rfl)) rfl
theorem w1231 : Cond.methodLink "SeriesVault$Parcel" 29 ⟨"SeriesVault$Parcel", "chunkPlaces", "(LSeriesVault$Points;I)[I"⟩ ∈ aW := aw_of (tb_6 (List.mem_of_getElem? (i := 7) rfl)) rfl
theorem w1232 : Cond.code ⟨"SeriesVault$Parcel", "chunkPlaces", "(LSeriesVault$Points;I)[I"⟩ prog_4_method_2_code 4 (some (FieldType.array FieldType.int)) ∈ aW := aw_of (tb_6 (List.mem_of_getElem? (i := 9) rfl)) rfl
theorem w1233 : Cond.static ⟨"SeriesVault$Parcel", "chunkPlaces", "(LSeriesVault$Points;I)[I"⟩ ∈ aW := aw_of (tb_6 (List.mem_of_getElem? (i := 8) rfl)) rfl
theorem w1234 : Cond.methodLink "SeriesVault$Parcel" 36 ⟨"SeriesVault$Parcel", "countChunks", "([I)I"⟩ ∈ aW := aw_of (tb_6 (List.mem_of_getElem? (i := 10) rfl)) rfl
theorem w1235 : Cond.code ⟨"SeriesVault$Parcel", "countChunks", "([I)I"⟩ prog_4_method_3_code 3 (some FieldType.int) ∈ aW := aw_of (tb_6 (List.mem_of_getElem? (i := 12) rfl)) rfl
theorem w1236 : Cond.static ⟨"SeriesVault$Parcel", "countChunks", "([I)I"⟩ ∈ aW := aw_of (tb_6 (List.mem_of_getElem? (i := 11) rfl)) rfl
theorem w1237 : Cond.fieldLink "SeriesVault$Parcel" 40 "SeriesVault$Parcel" "chunks" "I" ∈ aW := aw_of (tb_6 (List.mem_of_getElem? (i := 57) rfl)) rfl
theorem w1238 : Cond.methodLink "SeriesVault$Parcel" 43 ⟨"SeriesVault$Parcel", "bitsOfChunks", "([I[J[J)I"⟩ ∈ aW := aw_of (tb_6 (List.mem_of_getElem? (i := 13) rfl)) rfl
theorem w1239 : Cond.code ⟨"SeriesVault$Parcel", "bitsOfChunks", "([I[J[J)I"⟩ prog_4_method_5_code 15 (some FieldType.int) ∈ aW := aw_of (tb_6 (List.mem_of_getElem? (i := 15) rfl)) rfl
theorem w1240 : Cond.static ⟨"SeriesVault$Parcel", "bitsOfChunks", "([I[J[J)I"⟩ ∈ aW := aw_of (tb_6 (List.mem_of_getElem? (i := 14) rfl)) rfl
theorem w1241 : Cond.fieldLink "SeriesVault$Parcel" 47 "SeriesVault$Parcel" "bits" "I" ∈ aW := aw_of (tb_6 (List.mem_of_getElem? (i := 59) rfl)) rfl
theorem w1242 : Cond.fieldLink "SeriesVault$Parcel" 50 "SeriesVault$Parcel" "blocks" "I" ∈ aW := aw_of (tb_6 (List.mem_of_getElem? (i := 61) rfl)) rfl
theorem w1243 : Cond.methodLink "SeriesVault$Parcel" 53 ⟨"SeriesVault$Parcel", "greatest", "([J)J"⟩ ∈ aW := aw_of (tb_6 (List.mem_of_getElem? (i := 39) rfl)) rfl
theorem w1244 : Cond.code ⟨"SeriesVault$Parcel", "greatest", "([J)J"⟩ prog_4_method_4_code 4 (some FieldType.long) ∈ aW := aw_of (tb_6 (List.mem_of_getElem? (i := 41) rfl)) rfl
theorem w1245 : Cond.static ⟨"SeriesVault$Parcel", "greatest", "([J)J"⟩ ∈ aW := aw_of (tb_6 (List.mem_of_getElem? (i := 40) rfl)) rfl
theorem w1246 : Cond.fieldLink "SeriesVault$Parcel" 57 "SeriesVault$Parcel" "newest" "J" ∈ aW := aw_of (tb_6 (List.mem_of_getElem? (i := 64) rfl)) rfl
theorem w1247 : Cond.fieldLinkNest "SeriesVault$Parcel" 34 "SeriesVault$Points" "times" "[J" "SeriesVault" ∈ aW := aw_of (tb_1 (List.mem_of_getElem? (i := 114) rfl)) rfl
theorem w1248 : Cond.fieldLinkNest "SeriesVault$Parcel" 35 "SeriesVault$Points" "values" "[J" "SeriesVault" ∈ aW := aw_of (tb_1 (List.mem_of_getElem? (i := 117) rfl)) rfl
set_option maxHeartbeats 4000000 in
set_option maxRecDepth 100000 in
theorem v_Cinit (l : Launch) (D : va_G) (dA : Nat → ClassId) (sz : Nat) (ws : va_W) (pp : Nat) (pa : Nat) (oa : Nat) (ta : Nat) (va : Nat) (N : Nat) (n : Nat) (o : Nat → Nat) (t : Nat → Int64) (v : Nat → Int64) (w : Nat) (m1 : (pa, .inr (2, [.ref oa, .ref ta, .ref va, .int (nI n)])) ∈ ws) (m2 : (oa, .inl (dA 1, N, .inl (fun z9 => nI (o z9)))) ∈ ws) (m3 : (ta, .inl (dA 2, N, .inr (.inl t))) ∈ ws) (m4 : (va, .inl (dA 2, N, .inr (.inl v))) ∈ ws) (hn : n ≤ 12000) (hN : n ≤ N) (hN2 : N ≤ 65536) (hw : w ≤ 256) (ho : ∀ i : Nat, i < n → o i < w) : Met l ⟨"SeriesVault$Parcel", "<init>", "(LSeriesVault$Points;I)V"⟩ [Cond.code ⟨"SeriesVault$Parcel", "<init>", "(LSeriesVault$Points;I)V"⟩ prog_4_method_1_code 7 none] { frames := 4, cells := 4, slots := 3 * n + w + 1, locals := 77 } (pC D dA [.ref pp, .ref pa, .int (nI w)] ([(pp, .inr (12, [.null, .null, .null, .int 0, .int 0, .int 0, .int 0, .long 0]))] ++ (ws)) sz) (va_Qv (fun (u9 : Nat × Nat × Nat × (Nat → Nat) × (Nat → Int64) × (Nat → Int64)) => laid o n n o u9.2.2.2.1 ∧ laid o n n t u9.2.2.2.2.1 ∧ laid o n n v u9.2.2.2.2.2 ∧ ∀ q, u9.2.2.2.1 q < 256) (fun (u9 : Nat × Nat × Nat × (Nat → Nat) × (Nat → Int64) × (Nat → Int64)) t9 => bW D (va_A ([(pp, .inr (12, [.null, .null, .null, .int 0, .int 0, .int 0, .int 0, .long 0]))] ++ (ws)) sz) ([(u9.1, .inl (dA 1, n, .inl (fun z9 => nI (u9.2.2.2.1 z9))))] ++ ([(u9.2.1, .inl (dA 2, n, .inr (.inl u9.2.2.2.2.1)))] ++ ([(u9.2.2.1, .inl (dA 2, n, .inr (.inl u9.2.2.2.2.2)))] ++ ([(pp, .inr (12, [.ref u9.1, .ref u9.2.1, .ref u9.2.2.1, .int (nI n), .int (nI (cnt n (chB u9.2.2.2.1))), .int (nI (64 * cnt n (chB u9.2.2.2.1) + (bcG u9.2.2.2.1 u9.2.2.2.2.1 u9.2.2.2.2.2 n).1)), .int (nI ((64 * cnt n (chB u9.2.2.2.1) + (bcG u9.2.2.2.1 u9.2.2.2.2.1 u9.2.2.2.2.2 n).1 + 32256 - 1) / 32256)), .long (grG u9.2.2.2.2.1 n)]))] ++ (ws))))) t9) (va_A ([(pp, .inr (12, [.null, .null, .null, .int 0, .int 0, .int 0, .int 0, .long 0]))] ++ (ws)) sz)) 4 (3 * n + w + 1) (va_A ([(pp, .inr (12, [.null, .null, .null, .int 0, .int 0, .int 0, .int 0, .long 0]))] ++ (ws)) sz) := by
  refine mkC (y := ⟨"SeriesVault$Parcel", "<init>", "(LSeriesVault$Points;I)V"⟩) (cc := prog_4_method_1_code) (maxL := 7) (av := [.ref pp, .ref pa, .int (nI w)]) (ws := [(pp, .inr (12, [.null, .null, .null, .int 0, .int 0, .int 0, .int 0, .long 0]))] ++ (ws)) (sz := sz) (Qc := fun A => va_Qv (fun (u9 : Nat × Nat × Nat × (Nat → Nat) × (Nat → Int64) × (Nat → Int64)) => laid o n n o u9.2.2.2.1 ∧ laid o n n t u9.2.2.2.2.1 ∧ laid o n n v u9.2.2.2.2.2 ∧ ∀ q, u9.2.2.2.1 q < 256) (fun (u9 : Nat × Nat × Nat × (Nat → Nat) × (Nat → Int64) × (Nat → Int64)) t9 => bW D A ([(u9.1, .inl (dA 1, n, .inl (fun z9 => nI (u9.2.2.2.1 z9))))] ++ ([(u9.2.1, .inl (dA 2, n, .inr (.inl u9.2.2.2.2.1)))] ++ ([(u9.2.2.1, .inl (dA 2, n, .inr (.inl u9.2.2.2.2.2)))] ++ ([(pp, .inr (12, [.ref u9.1, .ref u9.2.1, .ref u9.2.2.1, .int (nI n), .int (nI (cnt n (chB u9.2.2.2.1))), .int (nI (64 * cnt n (chB u9.2.2.2.1) + (bcG u9.2.2.2.1 u9.2.2.2.2.1 u9.2.2.2.2.2 n).1)), .int (nI ((64 * cnt n (chB u9.2.2.2.1) + (bcG u9.2.2.2.1 u9.2.2.2.2.1 u9.2.2.2.2.2 n).1 + 32256 - 1) / 32256)), .long (grG u9.2.2.2.2.1 n)]))] ++ (ws))))) t9) A) (by decide) (Nat.le_of_ble_eq_true rfl) ?_
  intro A p e s m below meth c ls hsz hB
  obtain ⟨hx, hb, hr, hml, hown, hin, hlk, hE, hK, hP, hD, hS, hA, hN, hl⟩ := hB
  have hown : s.vm.findClass "SeriesVault$Parcel" = some m.cls := hown
  have hl : lv_has ls 7 [(0, .ref pp), (1, .ref pa), (2, .int (nI w))] := hl
  obtain ⟨H, hH⟩ : ∃ z, z = s.heap := ⟨_, rfl⟩
  have hP : va_P D vwCl ([(pp, .inr (12, [.null, .null, .null, .int 0, .int 0, .int 0, .int 0, .long 0]))] ++ (ws)) H := by rw [hH]; exact hP
  have hS : va_S A s.heap H [] := by rw [hH]; exact hS
  rw [← hH]
  refine lv_aload_n hx hb d_C_init_0 rfl (lv_at hl 0 rfl) ?_
  refine oI hx hb hown hE w1226 w182 w183 (hl.1.trans hml.symm) d_C_init_1 (Nat.le_of_ble_eq_true rfl) (Nat.le_of_ble_eq_true rfl) ?_
  refine lv_aload_n hx hb d_C_init_4 rfl (lv_at hl 0 rfl) ?_
  refine lv_aload_n hx hb d_C_init_5 rfl (lv_at hl 1 rfl) ?_
  obtain ⟨qp1, ep2⟩ := List.getElem?_of_mem (show ((pa, .inr (2, [.ref oa, .ref ta, .ref va, .int (nI n)])) : Nat × va_E) ∈ [(pp, .inr (12, [.null, .null, .null, .int 0, .int 0, .int 0, .int 0, .long 0]))] ++ (ws) from (List.mem_append_right _ m1))
  refine gFN (v := .int (nI n)) hx hb hown hE hK hP qp1 ep2 rfl layP 3 (by decide) w1224 rfl d_C_init_6 ?_
  refine pFF (v := .int (nI n)) hx hb hown hE hK hP hD hS 0 rfl rfl layC tyC tokC nmC 3 (by decide) w1227 rfl hin rfl rfl rfl (Nat.le_of_ble_eq_true rfl) d_C_init_9 (fun H locs hP hD hS => ?_)
  have hP : va_P D vwCl ([(pp, .inr (12, [.null, .null, .null, .int (nI n), .int 0, .int 0, .int 0, .long 0]))] ++ (ws)) H := hP
  have hD : va_D A ([(pp, .inr (12, [.null, .null, .null, .int (nI n), .int 0, .int 0, .int 0, .long 0]))] ++ (ws)) := hD
  refine lv_aload_n hx hb d_C_init_12 rfl (lv_at hl 0 rfl) ?_
  refine lv_aload_n hx hb d_C_init_13 rfl (lv_at hl 0 rfl) ?_
  refine gF (v := .int (nI n)) hx hb hown hE hK hP 0 rfl rfl layC 3 (by decide) w1227 rfl d_C_init_14 ?_
  refine nnA (atype := .int) (ty := .int) (N' := n) (a0 := (n, .inl (fun z9 => nI ((fun _ => 0) z9)))) hx hb hE rfl w184 hK hP hD hS hA 1 rfl (fun _ => rfl) (by omega) (show n * 4 ≤ 536870912 by omega) (show 0 + 1 ≤ 4 by omega) (show 0 + n ≤ 3 * n + w + 1 by omega) d_C_init_17 (fun oq H hP hD hS => ?_)
  have hP : va_P D vwCl ([(oq, .inl (dA 1, n, .inl (fun z9 => nI ((fun _ => 0) z9))))] ++ ([(pp, .inr (12, [.null, .null, .null, .int (nI n), .int 0, .int 0, .int 0, .long 0]))] ++ (ws))) H := hP
  have hD : va_D A ([(oq, .inl (dA 1, n, .inl (fun z9 => nI ((fun _ => 0) z9))))] ++ ([(pp, .inr (12, [.null, .null, .null, .int (nI n), .int 0, .int 0, .int 0, .long 0]))] ++ (ws))) := hD
  refine pFF (v := .ref oq) hx hb hown hE hK hP hD hS 1 rfl rfl layC tyC tokC nmC 0 (by decide) w1228 rfl hin rfl rfl rfl (Nat.le_of_ble_eq_true rfl) d_C_init_19 (fun H locs hP hD hS => ?_)
  have hP : va_P D vwCl ([(oq, .inl (dA 1, n, .inl (fun z9 => nI ((fun _ => 0) z9))))] ++ ([(pp, .inr (12, [.ref oq, .null, .null, .int (nI n), .int 0, .int 0, .int 0, .long 0]))] ++ (ws))) H := hP
  have hD : va_D A ([(oq, .inl (dA 1, n, .inl (fun z9 => nI ((fun _ => 0) z9))))] ++ ([(pp, .inr (12, [.ref oq, .null, .null, .int (nI n), .int 0, .int 0, .int 0, .long 0]))] ++ (ws))) := hD
  refine lv_aload_n hx hb d_C_init_22 rfl (lv_at hl 0 rfl) ?_
  refine lv_aload_n hx hb d_C_init_23 rfl (lv_at hl 0 rfl) ?_
  refine gF (v := .int (nI n)) hx hb hown hE hK hP 1 rfl rfl layC 3 (by decide) w1227 rfl d_C_init_24 ?_
  refine nnA (atype := .long) (ty := .long) (N' := n) (a0 := (n, .inr (.inl (fun _ => 0)))) hx hb hE rfl w186 hK hP hD hS hA 2 rfl (fun _ => rfl) (by omega) (show n * 8 ≤ 536870912 by omega) (show (0 + 1) + 1 ≤ 4 by omega) (show (0 + n) + n ≤ 3 * n + w + 1 by omega) d_C_init_27 (fun tq H hP hD hS => ?_)
  have hP : va_P D vwCl ([(tq, .inl (dA 2, n, .inr (.inl (fun _ => 0))))] ++ ([(oq, .inl (dA 1, n, .inl (fun z9 => nI ((fun _ => 0) z9))))] ++ ([(pp, .inr (12, [.ref oq, .null, .null, .int (nI n), .int 0, .int 0, .int 0, .long 0]))] ++ (ws)))) H := hP
  have hD : va_D A ([(tq, .inl (dA 2, n, .inr (.inl (fun _ => 0))))] ++ ([(oq, .inl (dA 1, n, .inl (fun z9 => nI ((fun _ => 0) z9))))] ++ ([(pp, .inr (12, [.ref oq, .null, .null, .int (nI n), .int 0, .int 0, .int 0, .long 0]))] ++ (ws)))) := hD
  refine pFF (v := .ref tq) hx hb hown hE hK hP hD hS 2 rfl rfl layC tyC tokC nmC 1 (by decide) w1229 rfl hin rfl rfl rfl (Nat.le_of_ble_eq_true rfl) d_C_init_29 (fun H locs hP hD hS => ?_)
  have hP : va_P D vwCl ([(tq, .inl (dA 2, n, .inr (.inl (fun _ => 0))))] ++ ([(oq, .inl (dA 1, n, .inl (fun z9 => nI ((fun _ => 0) z9))))] ++ ([(pp, .inr (12, [.ref oq, .ref tq, .null, .int (nI n), .int 0, .int 0, .int 0, .long 0]))] ++ (ws)))) H := hP
  have hD : va_D A ([(tq, .inl (dA 2, n, .inr (.inl (fun _ => 0))))] ++ ([(oq, .inl (dA 1, n, .inl (fun z9 => nI ((fun _ => 0) z9))))] ++ ([(pp, .inr (12, [.ref oq, .ref tq, .null, .int (nI n), .int 0, .int 0, .int 0, .long 0]))] ++ (ws)))) := hD
  refine lv_aload_n hx hb d_C_init_32 rfl (lv_at hl 0 rfl) ?_
  refine lv_aload_n hx hb d_C_init_33 rfl (lv_at hl 0 rfl) ?_
  refine gF (v := .int (nI n)) hx hb hown hE hK hP 2 rfl rfl layC 3 (by decide) w1227 rfl d_C_init_34 ?_
  refine nnA (atype := .long) (ty := .long) (N' := n) (a0 := (n, .inr (.inl (fun _ => 0)))) hx hb hE rfl w186 hK hP hD hS hA 2 rfl (fun _ => rfl) (by omega) (show n * 8 ≤ 536870912 by omega) (show (0 + 1 + 1) + 1 ≤ 4 by omega) (show (0 + n + n) + n ≤ 3 * n + w + 1 by omega) d_C_init_37 (fun vq H hP hD hS => ?_)
  have hP : va_P D vwCl ([(vq, .inl (dA 2, n, .inr (.inl (fun _ => 0))))] ++ ([(tq, .inl (dA 2, n, .inr (.inl (fun _ => 0))))] ++ ([(oq, .inl (dA 1, n, .inl (fun z9 => nI ((fun _ => 0) z9))))] ++ ([(pp, .inr (12, [.ref oq, .ref tq, .null, .int (nI n), .int 0, .int 0, .int 0, .long 0]))] ++ (ws))))) H := hP
  have hD : va_D A ([(vq, .inl (dA 2, n, .inr (.inl (fun _ => 0))))] ++ ([(tq, .inl (dA 2, n, .inr (.inl (fun _ => 0))))] ++ ([(oq, .inl (dA 1, n, .inl (fun z9 => nI ((fun _ => 0) z9))))] ++ ([(pp, .inr (12, [.ref oq, .ref tq, .null, .int (nI n), .int 0, .int 0, .int 0, .long 0]))] ++ (ws))))) := hD
  refine pFF (v := .ref vq) hx hb hown hE hK hP hD hS 3 rfl rfl layC tyC tokC nmC 2 (by decide) w1230 rfl hin rfl rfl rfl (Nat.le_of_ble_eq_true rfl) d_C_init_39 (fun H locs hP hD hS => ?_)
  have hP : va_P D vwCl ([(vq, .inl (dA 2, n, .inr (.inl (fun _ => 0))))] ++ ([(tq, .inl (dA 2, n, .inr (.inl (fun _ => 0))))] ++ ([(oq, .inl (dA 1, n, .inl (fun z9 => nI ((fun _ => 0) z9))))] ++ ([(pp, .inr (12, [.ref oq, .ref tq, .ref vq, .int (nI n), .int 0, .int 0, .int 0, .long 0]))] ++ (ws))))) H := hP
  have hD : va_D A ([(vq, .inl (dA 2, n, .inr (.inl (fun _ => 0))))] ++ ([(tq, .inl (dA 2, n, .inr (.inl (fun _ => 0))))] ++ ([(oq, .inl (dA 1, n, .inl (fun z9 => nI ((fun _ => 0) z9))))] ++ ([(pp, .inr (12, [.ref oq, .ref tq, .ref vq, .int (nI n), .int 0, .int 0, .int 0, .long 0]))] ++ (ws))))) := hD
  refine lv_aload_n hx hb d_C_init_42 rfl (lv_at hl 1 rfl) ?_
  refine lv_iload_n hx hb d_C_init_43 rfl (lv_at hl 2 rfl) ?_
  refine jkR (wr := []) (rnS (As := [.ref pa, .int (nI w)]) (rest := []) hx hb hml hown hE hK (hN _ _ hS) hP hD (v_chunkPlaces l D dA H.size ([(vq, .inl (dA 2, n, .inr (.inl (fun _ => 0))))] ++ ([(tq, .inl (dA 2, n, .inr (.inl (fun _ => 0))))] ++ ([(oq, .inl (dA 1, n, .inl (fun z9 => nI ((fun _ => 0) z9))))] ++ ([(pp, .inr (12, [.ref oq, .ref tq, .ref vq, .int (nI n), .int 0, .int 0, .int 0, .long 0]))] ++ (ws))))) pa oa ta va N n o t v w (List.mem_append_right _ (List.mem_append_right _ (List.mem_append_right _ (List.mem_append_right _ m1)))) (List.mem_append_right _ (List.mem_append_right _ (List.mem_append_right _ (List.mem_append_right _ m2)))) (List.mem_append_right _ (List.mem_append_right _ (List.mem_append_right _ (List.mem_append_right _ m3)))) (List.mem_append_right _ (List.mem_append_right _ (List.mem_append_right _ (List.mem_append_right _ m4)))) (show n ≤ 12000 from by omega) (show n ≤ N from by omega) (show N ≤ 65536 from by omega) (show w ≤ 256 from by omega) ho) w1232 w1231 w1233 w1213 rfl rfl ⟨⟨by decide, by decide⟩, rfl⟩ ⟨(Nat.le_of_ble_eq_true rfl), (Nat.le_of_ble_eq_true rfl)⟩ rfl hl.1 rfl (Nat.le_of_ble_eq_true rfl) d_C_init_44 ⟨(show 0 + 1 + 1 + 1 + 1 ≤ 4 by omega), (show 0 + n + n + n + (w + 1) ≤ 3 * n + w + 1 by omega)⟩) hP hD hS hA (fun u3 pq H locs hp9 hP hD hS => ?_)
  obtain ⟨fp0, h9u⟩ : ∃ z9, z9 = u3 := ⟨_, rfl⟩
  subst h9u
  have hP : va_P D vwCl ([(pq, .inl (dA 1, w + 1, .inl (fun z9 => nI (fp0 z9))))] ++ ([(vq, .inl (dA 2, n, .inr (.inl (fun _ => 0))))] ++ ([(tq, .inl (dA 2, n, .inr (.inl (fun _ => 0))))] ++ ([(oq, .inl (dA 1, n, .inl (fun z9 => nI ((fun _ => 0) z9))))] ++ ([(pp, .inr (12, [.ref oq, .ref tq, .ref vq, .int (nI n), .int 0, .int 0, .int 0, .long 0]))] ++ (ws)))))) H := hP
  have hD : va_D A ([(pq, .inl (dA 1, w + 1, .inl (fun z9 => nI (fp0 z9))))] ++ ([(vq, .inl (dA 2, n, .inr (.inl (fun _ => 0))))] ++ ([(tq, .inl (dA 2, n, .inr (.inl (fun _ => 0))))] ++ ([(oq, .inl (dA 1, n, .inl (fun z9 => nI ((fun _ => 0) z9))))] ++ ([(pp, .inr (12, [.ref oq, .ref tq, .ref vq, .int (nI n), .int 0, .int 0, .int 0, .long 0]))] ++ (ws)))))) := hD
  have f_hf_4 := hp9
  refine lv_astore_n hx hb d_C_init_47 rfl hl (by decide) rfl (fun ls hl => ?_)
  have hl : lv_has ls 7 [(3, .ref pq), (0, .ref pp), (1, .ref pa), (2, .int (nI w))] := hl
  refine lv_iconst (v := 0) hx hb d_C_init_48 (by decide) ?_
  refine lv_istore hx hb d_C_init_49 hl (by decide) rfl (fun ls hl => ?_)
  have hl : lv_has ls 7 [(4, .int 0), (3, .ref pq), (0, .ref pp), (1, .ref pa), (2, .int (nI w))] := hl
  have L51 : ∀ (k9 : Nat) (i : Nat) (fp : Nat → Nat) (V : Nat → Int64) (T : Nat → Int64) (O : Nat → Nat) (i1 : i ≤ n) (hpl : plcs o n i w fp) (l1 : laid o n i o O) (l2 : laid o n i t T) (l3 : laid o n i v V) (l4 : ∀ q, O q < 256) (hk9 : n - i = k9), ∀ (H : Heap) (locs : List Loc) (ls : Array Slot) (hP : va_P D vwCl ([(pq, .inl (dA 1, w + 1, .inl (fun z9 => nI (fp z9))))] ++ ([(vq, .inl (dA 2, n, .inr (.inl V)))] ++ ([(tq, .inl (dA 2, n, .inr (.inl T)))] ++ ([(oq, .inl (dA 1, n, .inl (fun z9 => nI (O z9))))] ++ ([(pp, .inr (12, [.ref oq, .ref tq, .ref vq, .int (nI n), .int 0, .int 0, .int 0, .long 0]))] ++ (ws)))))) H) (hD : va_D A ([(pq, .inl (dA 1, w + 1, .inl (fun z9 => nI (fp z9))))] ++ ([(vq, .inl (dA 2, n, .inr (.inl V)))] ++ ([(tq, .inl (dA 2, n, .inr (.inl T)))] ++ ([(oq, .inl (dA 1, n, .inl (fun z9 => nI (O z9))))] ++ ([(pp, .inr (12, [.ref oq, .ref tq, .ref vq, .int (nI n), .int 0, .int 0, .int 0, .long 0]))] ++ (ws))))))) (hS : va_S A s.heap H locs) (hl : lv_has ls 7 [(4, .int (nI i)), (0, .ref pp), (1, .ref pa), (2, .int (nI w)), (3, .ref pq)]), W p l e ({ frames := 4, cells := 4, slots := 3 * n + w + 1, locals := 77 } : Room) s m ([.ref pp, .ref pa, .int (nI w)] : List Value).toArray below meth c H locs (0 + 1 + 1 + 1 + 1) (0 + n + n + n + (w + 1)) (MQ below (va_Qv (fun (u9 : Nat × Nat × Nat × (Nat → Nat) × (Nat → Int64) × (Nat → Int64)) => laid o n n o u9.2.2.2.1 ∧ laid o n n t u9.2.2.2.2.1 ∧ laid o n n v u9.2.2.2.2.2 ∧ ∀ q, u9.2.2.2.1 q < 256) (fun (u9 : Nat × Nat × Nat × (Nat → Nat) × (Nat → Int64) × (Nat → Int64)) t9 => bW D A ([(u9.1, .inl (dA 1, n, .inl (fun z9 => nI (u9.2.2.2.1 z9))))] ++ ([(u9.2.1, .inl (dA 2, n, .inr (.inl u9.2.2.2.2.1)))] ++ ([(u9.2.2.1, .inl (dA 2, n, .inr (.inl u9.2.2.2.2.2)))] ++ ([(pp, .inr (12, [.ref u9.1, .ref u9.2.1, .ref u9.2.2.1, .int (nI n), .int (nI (cnt n (chB u9.2.2.2.1))), .int (nI (64 * cnt n (chB u9.2.2.2.1) + (bcG u9.2.2.2.1 u9.2.2.2.2.1 u9.2.2.2.2.2 n).1)), .int (nI ((64 * cnt n (chB u9.2.2.2.1) + (bcG u9.2.2.2.1 u9.2.2.2.2.1 u9.2.2.2.2.2 n).1 + 32256 - 1) / 32256)), .long (grG u9.2.2.2.2.1 n)]))] ++ (ws))))) t9) A) ([.ref pp, .ref pa, .int (nI w)] : List Value).toArray s 4 (3 * n + w + 1) A) (F0 m 51 ls []) := by
    intro k9
    induction k9 using Nat.strongRecOn with
    | ind k9 ih51 =>
      intro i fp V T O i1 hpl l1 l2 l3 l4 hk9 H locs ls hP hD hS hl
      refine lv_iload hx hb d_C_init_51 (lv_at hl 0 rfl) ?_
      refine lv_aload_n hx hb d_C_init_53 rfl (lv_at hl 1 rfl) ?_
      refine gF (v := .int (nI n)) hx hb hown hE hK hP 4 rfl rfl layC 3 (by decide) w1227 rfl d_C_init_54 ?_
      refine lv_icmp_ge hx hb d_C_init_57 (tgt := 126) rfl (fun g5 => ?_) (fun g5 => ?_)
      · have g5 := (nI_leI (a := n) (b := i) (by omega) (by omega)).mp g5
        refine lv_aload_n hx hb d_C_init_126 rfl (lv_at hl 1 rfl) ?_
        refine lv_aload_n hx hb d_C_init_127 rfl (lv_at hl 1 rfl) ?_
        refine gF (v := .ref oq) hx hb hown hE hK hP 4 rfl rfl layC 0 (by decide) w1228 rfl d_C_init_128 ?_
        refine jkI (wr := []) (rnS (As := [.ref oq]) (rest := [.ref pp]) hx hb hml hown hE hK (hN _ _ hS) hP hD (v_countChunks l D dA H.size ([(pq, .inl (dA 1, w + 1, .inl (fun z9 => nI (fp z9))))] ++ ([(vq, .inl (dA 2, n, .inr (.inl V)))] ++ ([(tq, .inl (dA 2, n, .inr (.inl T)))] ++ ([(oq, .inl (dA 1, n, .inl (fun z9 => nI (O z9))))] ++ ([(pp, .inr (12, [.ref oq, .ref tq, .ref vq, .int (nI n), .int 0, .int 0, .int 0, .long 0]))] ++ (ws)))))) oq n O (List.mem_of_getElem? (i := 3) rfl) (show n ≤ 12000 from by omega) (fun i _ => l4 i)) w1235 w1234 w1236 w1213 rfl rfl ⟨⟨by decide, by decide⟩, rfl⟩ ⟨(Nat.le_of_ble_eq_true rfl), (Nat.le_of_ble_eq_true rfl)⟩ rfl hl.1 rfl (Nat.le_of_ble_eq_true rfl) d_C_init_131 ⟨(show 0 + 1 + 1 + 1 + 1 + 0 ≤ 4 by omega), (show 0 + n + n + n + (w + 1) + 0 ≤ 3 * n + w + 1 by omega)⟩) hP hD hS hA (fun r6 u7 H locs hp9 hP hD hS => ?_)
        have hP : va_P D vwCl ([(pq, .inl (dA 1, w + 1, .inl (fun z9 => nI (fp z9))))] ++ ([(vq, .inl (dA 2, n, .inr (.inl V)))] ++ ([(tq, .inl (dA 2, n, .inr (.inl T)))] ++ ([(oq, .inl (dA 1, n, .inl (fun z9 => nI (O z9))))] ++ ([(pp, .inr (12, [.ref oq, .ref tq, .ref vq, .int (nI n), .int 0, .int 0, .int 0, .long 0]))] ++ (ws)))))) H := hP
        have hD : va_D A ([(pq, .inl (dA 1, w + 1, .inl (fun z9 => nI (fp z9))))] ++ ([(vq, .inl (dA 2, n, .inr (.inl V)))] ++ ([(tq, .inl (dA 2, n, .inr (.inl T)))] ++ ([(oq, .inl (dA 1, n, .inl (fun z9 => nI (O z9))))] ++ ([(pp, .inr (12, [.ref oq, .ref tq, .ref vq, .int (nI n), .int 0, .int 0, .int 0, .long 0]))] ++ (ws)))))) := hD
        replace hp9 : nI (cnt n (chB O)) = r6 := Eq.symm hp9
        subst hp9
        refine pFF (v := .int (nI (cnt n (chB O)))) hx hb hown hE hK hP hD hS 4 rfl rfl layC tyC tokC nmC 4 (by decide) w1237 rfl hin rfl rfl rfl (Nat.le_of_ble_eq_true rfl) d_C_init_134 (fun H locs hP hD hS => ?_)
        have hP : va_P D vwCl ([(pq, .inl (dA 1, w + 1, .inl (fun z9 => nI (fp z9))))] ++ ([(vq, .inl (dA 2, n, .inr (.inl V)))] ++ ([(tq, .inl (dA 2, n, .inr (.inl T)))] ++ ([(oq, .inl (dA 1, n, .inl (fun z9 => nI (O z9))))] ++ ([(pp, .inr (12, [.ref oq, .ref tq, .ref vq, .int (nI n), .int (nI (cnt n (chB O))), .int 0, .int 0, .long 0]))] ++ (ws)))))) H := hP
        have hD : va_D A ([(pq, .inl (dA 1, w + 1, .inl (fun z9 => nI (fp z9))))] ++ ([(vq, .inl (dA 2, n, .inr (.inl V)))] ++ ([(tq, .inl (dA 2, n, .inr (.inl T)))] ++ ([(oq, .inl (dA 1, n, .inl (fun z9 => nI (O z9))))] ++ ([(pp, .inr (12, [.ref oq, .ref tq, .ref vq, .int (nI n), .int (nI (cnt n (chB O))), .int 0, .int 0, .long 0]))] ++ (ws)))))) := hD
        refine lv_aload_n hx hb d_C_init_137 rfl (lv_at hl 1 rfl) ?_
        refine lv_bipush (v := 64) hx hb d_C_init_138 (by decide) ?_
        refine lv_aload_n hx hb d_C_init_140 rfl (lv_at hl 1 rfl) ?_
        refine gF (v := .int (nI (cnt n (chB O)))) hx hb hown hE hK hP 4 rfl rfl layC 4 (by decide) w1237 rfl d_C_init_141 ?_
        refine lv_imul hx hb d_C_init_144 (tpi (y := nI (64 * (cnt n (chB O)))) (pk_mul (64) (cnt n (chB O))) ?_)
        refine lv_aload_n hx hb d_C_init_145 rfl (lv_at hl 1 rfl) ?_
        refine gF (v := .ref oq) hx hb hown hE hK hP 4 rfl rfl layC 0 (by decide) w1228 rfl d_C_init_146 ?_
        refine lv_aload_n hx hb d_C_init_149 rfl (lv_at hl 1 rfl) ?_
        refine gF (v := .ref tq) hx hb hown hE hK hP 4 rfl rfl layC 1 (by decide) w1229 rfl d_C_init_150 ?_
        refine lv_aload_n hx hb d_C_init_153 rfl (lv_at hl 1 rfl) ?_
        refine gF (v := .ref vq) hx hb hown hE hK hP 4 rfl rfl layC 2 (by decide) w1230 rfl d_C_init_154 ?_
        refine jkI (wr := []) (rnS (As := [.ref oq, .ref tq, .ref vq]) (rest := [.int (nI (64 * (cnt n (chB O)))), .ref pp]) hx hb hml hown hE hK (hN _ _ hS) hP hD (v_bitsOfChunks l D dA H.size ([(pq, .inl (dA 1, w + 1, .inl (fun z9 => nI (fp z9))))] ++ ([(vq, .inl (dA 2, n, .inr (.inl V)))] ++ ([(tq, .inl (dA 2, n, .inr (.inl T)))] ++ ([(oq, .inl (dA 1, n, .inl (fun z9 => nI (O z9))))] ++ ([(pp, .inr (12, [.ref oq, .ref tq, .ref vq, .int (nI n), .int (nI (cnt n (chB O))), .int 0, .int 0, .long 0]))] ++ (ws)))))) oq tq vq n O T V (List.mem_of_getElem? (i := 3) rfl) (List.mem_of_getElem? (i := 2) rfl) (List.mem_of_getElem? (i := 1) rfl) (show n ≤ 12000 from by omega) (fun i _ => l4 i)) w1239 w1238 w1240 w1213 rfl rfl ⟨⟨by decide, by decide⟩, rfl⟩ ⟨(Nat.le_of_ble_eq_true rfl), (Nat.le_of_ble_eq_true rfl)⟩ rfl hl.1 rfl (Nat.le_of_ble_eq_true rfl) d_C_init_157 ⟨(show 0 + 1 + 1 + 1 + 1 + 0 + 0 ≤ 4 by omega), (show 0 + n + n + n + (w + 1) + 0 + 0 ≤ 3 * n + w + 1 by omega)⟩) hP hD hS hA (fun r8 u9 H locs hp9 hP hD hS => ?_)
        have hP : va_P D vwCl ([(pq, .inl (dA 1, w + 1, .inl (fun z9 => nI (fp z9))))] ++ ([(vq, .inl (dA 2, n, .inr (.inl V)))] ++ ([(tq, .inl (dA 2, n, .inr (.inl T)))] ++ ([(oq, .inl (dA 1, n, .inl (fun z9 => nI (O z9))))] ++ ([(pp, .inr (12, [.ref oq, .ref tq, .ref vq, .int (nI n), .int (nI (cnt n (chB O))), .int 0, .int 0, .long 0]))] ++ (ws)))))) H := hP
        have hD : va_D A ([(pq, .inl (dA 1, w + 1, .inl (fun z9 => nI (fp z9))))] ++ ([(vq, .inl (dA 2, n, .inr (.inl V)))] ++ ([(tq, .inl (dA 2, n, .inr (.inl T)))] ++ ([(oq, .inl (dA 1, n, .inl (fun z9 => nI (O z9))))] ++ ([(pp, .inr (12, [.ref oq, .ref tq, .ref vq, .int (nI n), .int (nI (cnt n (chB O))), .int 0, .int 0, .long 0]))] ++ (ws)))))) := hD
        replace hp9 : nI (bcG O T V n).1 = r8 := Eq.symm hp9
        subst hp9
        refine lv_iadd hx hb d_C_init_160 (tpi (y := nI ((64 * (cnt n (chB O))) + ((bcG O T V n).1))) (nI_add (64 * (cnt n (chB O))) ((bcG O T V n).1)) ?_)
        refine pFF (v := .int (nI ((64 * (cnt n (chB O))) + ((bcG O T V n).1)))) hx hb hown hE hK hP hD hS 4 rfl rfl layC tyC tokC nmC 5 (by decide) w1241 rfl hin rfl rfl rfl (Nat.le_of_ble_eq_true rfl) d_C_init_161 (fun H locs hP hD hS => ?_)
        have hP : va_P D vwCl ([(pq, .inl (dA 1, w + 1, .inl (fun z9 => nI (fp z9))))] ++ ([(vq, .inl (dA 2, n, .inr (.inl V)))] ++ ([(tq, .inl (dA 2, n, .inr (.inl T)))] ++ ([(oq, .inl (dA 1, n, .inl (fun z9 => nI (O z9))))] ++ ([(pp, .inr (12, [.ref oq, .ref tq, .ref vq, .int (nI n), .int (nI (cnt n (chB O))), .int (nI ((64 * (cnt n (chB O))) + ((bcG O T V n).1))), .int 0, .long 0]))] ++ (ws)))))) H := hP
        have hD : va_D A ([(pq, .inl (dA 1, w + 1, .inl (fun z9 => nI (fp z9))))] ++ ([(vq, .inl (dA 2, n, .inr (.inl V)))] ++ ([(tq, .inl (dA 2, n, .inr (.inl T)))] ++ ([(oq, .inl (dA 1, n, .inl (fun z9 => nI (O z9))))] ++ ([(pp, .inr (12, [.ref oq, .ref tq, .ref vq, .int (nI n), .int (nI (cnt n (chB O))), .int (nI ((64 * (cnt n (chB O))) + ((bcG O T V n).1))), .int 0, .long 0]))] ++ (ws)))))) := hD
        have bb := (bcG_le O T V n).1
        have bc := cnt_le n (chB O)
        refine lv_aload_n hx hb d_C_init_164 rfl (lv_at hl 1 rfl) ?_
        refine lv_aload_n hx hb d_C_init_165 rfl (lv_at hl 1 rfl) ?_
        refine gF (v := .int (nI ((64 * (cnt n (chB O))) + ((bcG O T V n).1)))) hx hb hown hE hK hP 4 rfl rfl layC 5 (by decide) w1241 rfl d_C_init_166 ?_
        refine lv_sipush (v := 32256) hx hb d_C_init_169 (by decide) ?_
        refine lv_iadd hx hb d_C_init_172 (tpi (y := nI (((64 * (cnt n (chB O))) + ((bcG O T V n).1)) + 32256)) (nI_add ((64 * (cnt n (chB O))) + ((bcG O T V n).1)) (32256)) ?_)
        refine lv_iconst (v := 1) hx hb d_C_init_173 (by decide) ?_
        refine lv_isub hx hb d_C_init_174 (tpi (y := nI ((((64 * (cnt n (chB O))) + ((bcG O T V n).1)) + 32256) - 1)) (pk_sub (a := ((64 * (cnt n (chB O))) + ((bcG O T V n).1)) + 32256) (b := 1) (by omega)) ?_)
        refine lv_sipush (v := 32256) hx hb d_C_init_175 (by decide) ?_
        refine lv_idiv hx hb d_C_init_178 (by decide) (tpi (y := nI (((((64 * (cnt n (chB O))) + ((bcG O T V n).1)) + 32256) - 1) / 32256)) (pk_div (a := (((64 * (cnt n (chB O))) + ((bcG O T V n).1)) + 32256) - 1) (d := 32256) (by omega) (by omega) (by omega)) ?_)
        refine pFF (v := .int (nI (((((64 * (cnt n (chB O))) + ((bcG O T V n).1)) + 32256) - 1) / 32256))) hx hb hown hE hK hP hD hS 4 rfl rfl layC tyC tokC nmC 6 (by decide) w1242 rfl hin rfl rfl rfl (Nat.le_of_ble_eq_true rfl) d_C_init_179 (fun H locs hP hD hS => ?_)
        have hP : va_P D vwCl ([(pq, .inl (dA 1, w + 1, .inl (fun z9 => nI (fp z9))))] ++ ([(vq, .inl (dA 2, n, .inr (.inl V)))] ++ ([(tq, .inl (dA 2, n, .inr (.inl T)))] ++ ([(oq, .inl (dA 1, n, .inl (fun z9 => nI (O z9))))] ++ ([(pp, .inr (12, [.ref oq, .ref tq, .ref vq, .int (nI n), .int (nI (cnt n (chB O))), .int (nI ((64 * (cnt n (chB O))) + ((bcG O T V n).1))), .int (nI (((((64 * (cnt n (chB O))) + ((bcG O T V n).1)) + 32256) - 1) / 32256)), .long 0]))] ++ (ws)))))) H := hP
        have hD : va_D A ([(pq, .inl (dA 1, w + 1, .inl (fun z9 => nI (fp z9))))] ++ ([(vq, .inl (dA 2, n, .inr (.inl V)))] ++ ([(tq, .inl (dA 2, n, .inr (.inl T)))] ++ ([(oq, .inl (dA 1, n, .inl (fun z9 => nI (O z9))))] ++ ([(pp, .inr (12, [.ref oq, .ref tq, .ref vq, .int (nI n), .int (nI (cnt n (chB O))), .int (nI ((64 * (cnt n (chB O))) + ((bcG O T V n).1))), .int (nI (((((64 * (cnt n (chB O))) + ((bcG O T V n).1)) + 32256) - 1) / 32256)), .long 0]))] ++ (ws)))))) := hD
        refine lv_aload_n hx hb d_C_init_182 rfl (lv_at hl 1 rfl) ?_
        refine lv_aload_n hx hb d_C_init_183 rfl (lv_at hl 1 rfl) ?_
        refine gF (v := .ref tq) hx hb hown hE hK hP 4 rfl rfl layC 1 (by decide) w1229 rfl d_C_init_184 ?_
        refine jkL (wr := []) (rnS (As := [.ref tq]) (rest := [.ref pp]) hx hb hml hown hE hK (hN _ _ hS) hP hD (v_greatest l D dA H.size ([(pq, .inl (dA 1, w + 1, .inl (fun z9 => nI (fp z9))))] ++ ([(vq, .inl (dA 2, n, .inr (.inl V)))] ++ ([(tq, .inl (dA 2, n, .inr (.inl T)))] ++ ([(oq, .inl (dA 1, n, .inl (fun z9 => nI (O z9))))] ++ ([(pp, .inr (12, [.ref oq, .ref tq, .ref vq, .int (nI n), .int (nI (cnt n (chB O))), .int (nI ((64 * (cnt n (chB O))) + ((bcG O T V n).1))), .int (nI (((((64 * (cnt n (chB O))) + ((bcG O T V n).1)) + 32256) - 1) / 32256)), .long 0]))] ++ (ws)))))) tq n T (List.mem_of_getElem? (i := 2) rfl) (show n ≤ 12000 from by omega)) w1244 w1243 w1245 w1213 rfl rfl ⟨⟨by decide, by decide⟩, rfl⟩ ⟨(Nat.le_of_ble_eq_true rfl), (Nat.le_of_ble_eq_true rfl)⟩ rfl hl.1 rfl (Nat.le_of_ble_eq_true rfl) d_C_init_187 ⟨(show 0 + 1 + 1 + 1 + 1 + 0 + 0 + 0 ≤ 4 by omega), (show 0 + n + n + n + (w + 1) + 0 + 0 + 0 ≤ 3 * n + w + 1 by omega)⟩) hP hD hS hA (fun r10 u11 H locs hp9 hP hD hS => ?_)
        have hP : va_P D vwCl ([(pq, .inl (dA 1, w + 1, .inl (fun z9 => nI (fp z9))))] ++ ([(vq, .inl (dA 2, n, .inr (.inl V)))] ++ ([(tq, .inl (dA 2, n, .inr (.inl T)))] ++ ([(oq, .inl (dA 1, n, .inl (fun z9 => nI (O z9))))] ++ ([(pp, .inr (12, [.ref oq, .ref tq, .ref vq, .int (nI n), .int (nI (cnt n (chB O))), .int (nI ((64 * (cnt n (chB O))) + ((bcG O T V n).1))), .int (nI (((((64 * (cnt n (chB O))) + ((bcG O T V n).1)) + 32256) - 1) / 32256)), .long 0]))] ++ (ws)))))) H := hP
        have hD : va_D A ([(pq, .inl (dA 1, w + 1, .inl (fun z9 => nI (fp z9))))] ++ ([(vq, .inl (dA 2, n, .inr (.inl V)))] ++ ([(tq, .inl (dA 2, n, .inr (.inl T)))] ++ ([(oq, .inl (dA 1, n, .inl (fun z9 => nI (O z9))))] ++ ([(pp, .inr (12, [.ref oq, .ref tq, .ref vq, .int (nI n), .int (nI (cnt n (chB O))), .int (nI ((64 * (cnt n (chB O))) + ((bcG O T V n).1))), .int (nI (((((64 * (cnt n (chB O))) + ((bcG O T V n).1)) + 32256) - 1) / 32256)), .long 0]))] ++ (ws)))))) := hD
        replace hp9 : grG T n = r10 := Eq.symm hp9
        subst hp9
        refine pFF (v := .long (grG T n)) hx hb hown hE hK hP hD hS 4 rfl rfl layC tyC tokC nmC 7 (by decide) w1246 rfl hin rfl rfl rfl (Nat.le_of_ble_eq_true rfl) d_C_init_190 (fun H locs hP hD hS => ?_)
        have hP : va_P D vwCl ([(pq, .inl (dA 1, w + 1, .inl (fun z9 => nI (fp z9))))] ++ ([(vq, .inl (dA 2, n, .inr (.inl V)))] ++ ([(tq, .inl (dA 2, n, .inr (.inl T)))] ++ ([(oq, .inl (dA 1, n, .inl (fun z9 => nI (O z9))))] ++ ([(pp, .inr (12, [.ref oq, .ref tq, .ref vq, .int (nI n), .int (nI (cnt n (chB O))), .int (nI ((64 * (cnt n (chB O))) + ((bcG O T V n).1))), .int (nI (((((64 * (cnt n (chB O))) + ((bcG O T V n).1)) + 32256) - 1) / 32256)), .long (grG T n)]))] ++ (ws)))))) H := hP
        have hD : va_D A ([(pq, .inl (dA 1, w + 1, .inl (fun z9 => nI (fp z9))))] ++ ([(vq, .inl (dA 2, n, .inr (.inl V)))] ++ ([(tq, .inl (dA 2, n, .inr (.inl T)))] ++ ([(oq, .inl (dA 1, n, .inl (fun z9 => nI (O z9))))] ++ ([(pp, .inr (12, [.ref oq, .ref tq, .ref vq, .int (nI n), .int (nI (cnt n (chB O))), .int (nI ((64 * (cnt n (chB O))) + ((bcG O T V n).1))), .int (nI (((((64 * (cnt n (chB O))) + ((bcG O T V n).1)) + 32256) - 1) / 32256)), .long (grG T n)]))] ++ (ws)))))) := hD
        have hP := sbP (show List.Sublist (α := Nat × va_E) ([(vq, .inl (dA 2, n, .inr (.inl V)))] ++ ([(tq, .inl (dA 2, n, .inr (.inl T)))] ++ ([(oq, .inl (dA 1, n, .inl (fun z9 => nI (O z9))))] ++ ([(pp, .inr (12, [.ref oq, .ref tq, .ref vq, .int (nI n), .int (nI (cnt n (chB O))), .int (nI ((64 * (cnt n (chB O))) + ((bcG O T V n).1))), .int (nI (((((64 * (cnt n (chB O))) + ((bcG O T V n).1)) + 32256) - 1) / 32256)), .long (grG T n)]))] ++ (ws))))) ([(pq, .inl (dA 1, w + 1, .inl (fun z9 => nI (fp z9))))] ++ ([(vq, .inl (dA 2, n, .inr (.inl V)))] ++ ([(tq, .inl (dA 2, n, .inr (.inl T)))] ++ ([(oq, .inl (dA 1, n, .inl (fun z9 => nI (O z9))))] ++ ([(pp, .inr (12, [.ref oq, .ref tq, .ref vq, .int (nI n), .int (nI (cnt n (chB O))), .int (nI ((64 * (cnt n (chB O))) + ((bcG O T V n).1))), .int (nI (((((64 * (cnt n (chB O))) + ((bcG O T V n).1)) + 32256) - 1) / 32256)), .long (grG T n)]))] ++ (ws)))))) from List.sublist_append_of_sublist_right (List.Sublist.append (List.Sublist.refl _) (List.Sublist.append (List.Sublist.refl _) (List.Sublist.append (List.Sublist.refl _) (List.Sublist.append (List.Sublist.refl _) (List.Sublist.refl _)))))) hP
        have hD := sbD (show List.Sublist (α := Nat × va_E) ([(vq, .inl (dA 2, n, .inr (.inl V)))] ++ ([(tq, .inl (dA 2, n, .inr (.inl T)))] ++ ([(oq, .inl (dA 1, n, .inl (fun z9 => nI (O z9))))] ++ ([(pp, .inr (12, [.ref oq, .ref tq, .ref vq, .int (nI n), .int (nI (cnt n (chB O))), .int (nI ((64 * (cnt n (chB O))) + ((bcG O T V n).1))), .int (nI (((((64 * (cnt n (chB O))) + ((bcG O T V n).1)) + 32256) - 1) / 32256)), .long (grG T n)]))] ++ (ws))))) ([(pq, .inl (dA 1, w + 1, .inl (fun z9 => nI (fp z9))))] ++ ([(vq, .inl (dA 2, n, .inr (.inl V)))] ++ ([(tq, .inl (dA 2, n, .inr (.inl T)))] ++ ([(oq, .inl (dA 1, n, .inl (fun z9 => nI (O z9))))] ++ ([(pp, .inr (12, [.ref oq, .ref tq, .ref vq, .int (nI n), .int (nI (cnt n (chB O))), .int (nI ((64 * (cnt n (chB O))) + ((bcG O T V n).1))), .int (nI (((((64 * (cnt n (chB O))) + ((bcG O T V n).1)) + 32256) - 1) / 32256)), .long (grG T n)]))] ++ (ws)))))) from List.sublist_append_of_sublist_right (List.Sublist.append (List.Sublist.refl _) (List.Sublist.append (List.Sublist.refl _) (List.Sublist.append (List.Sublist.refl _) (List.Sublist.append (List.Sublist.refl _) (List.Sublist.refl _)))))) hD
        have hP := pmP (show List.Perm (α := Nat × va_E) ([(vq, .inl (dA 2, n, .inr (.inl V)))] ++ ([(tq, .inl (dA 2, n, .inr (.inl T)))] ++ ([(oq, .inl (dA 1, n, .inl (fun z9 => nI (O z9))))] ++ ([(pp, .inr (12, [.ref oq, .ref tq, .ref vq, .int (nI n), .int (nI (cnt n (chB O))), .int (nI ((64 * (cnt n (chB O))) + ((bcG O T V n).1))), .int (nI (((((64 * (cnt n (chB O))) + ((bcG O T V n).1)) + 32256) - 1) / 32256)), .long (grG T n)]))] ++ (ws))))) ([(oq, .inl (dA 1, n, .inl (fun z9 => nI (O z9))))] ++ ([(vq, .inl (dA 2, n, .inr (.inl V)))] ++ ([(tq, .inl (dA 2, n, .inr (.inl T)))] ++ ([(pp, .inr (12, [.ref oq, .ref tq, .ref vq, .int (nI n), .int (nI (cnt n (chB O))), .int (nI ((64 * (cnt n (chB O))) + ((bcG O T V n).1))), .int (nI (((((64 * (cnt n (chB O))) + ((bcG O T V n).1)) + 32256) - 1) / 32256)), .long (grG T n)]))] ++ (ws))))) from (List.Perm.append_left ([(vq, .inl (dA 2, n, .inr (.inl V)))]) (List.perm_append_comm_assoc ([(tq, .inl (dA 2, n, .inr (.inl T)))]) ([(oq, .inl (dA 1, n, .inl (fun z9 => nI (O z9))))]) ([(pp, .inr (12, [.ref oq, .ref tq, .ref vq, .int (nI n), .int (nI (cnt n (chB O))), .int (nI ((64 * (cnt n (chB O))) + ((bcG O T V n).1))), .int (nI (((((64 * (cnt n (chB O))) + ((bcG O T V n).1)) + 32256) - 1) / 32256)), .long (grG T n)]))] ++ (ws)))).trans (List.perm_append_comm_assoc ([(vq, .inl (dA 2, n, .inr (.inl V)))]) ([(oq, .inl (dA 1, n, .inl (fun z9 => nI (O z9))))]) ([(tq, .inl (dA 2, n, .inr (.inl T)))] ++ ([(pp, .inr (12, [.ref oq, .ref tq, .ref vq, .int (nI n), .int (nI (cnt n (chB O))), .int (nI ((64 * (cnt n (chB O))) + ((bcG O T V n).1))), .int (nI (((((64 * (cnt n (chB O))) + ((bcG O T V n).1)) + 32256) - 1) / 32256)), .long (grG T n)]))] ++ (ws))))) hP
        have hD := pmD (show List.Perm (α := Nat × va_E) ([(vq, .inl (dA 2, n, .inr (.inl V)))] ++ ([(tq, .inl (dA 2, n, .inr (.inl T)))] ++ ([(oq, .inl (dA 1, n, .inl (fun z9 => nI (O z9))))] ++ ([(pp, .inr (12, [.ref oq, .ref tq, .ref vq, .int (nI n), .int (nI (cnt n (chB O))), .int (nI ((64 * (cnt n (chB O))) + ((bcG O T V n).1))), .int (nI (((((64 * (cnt n (chB O))) + ((bcG O T V n).1)) + 32256) - 1) / 32256)), .long (grG T n)]))] ++ (ws))))) ([(oq, .inl (dA 1, n, .inl (fun z9 => nI (O z9))))] ++ ([(vq, .inl (dA 2, n, .inr (.inl V)))] ++ ([(tq, .inl (dA 2, n, .inr (.inl T)))] ++ ([(pp, .inr (12, [.ref oq, .ref tq, .ref vq, .int (nI n), .int (nI (cnt n (chB O))), .int (nI ((64 * (cnt n (chB O))) + ((bcG O T V n).1))), .int (nI (((((64 * (cnt n (chB O))) + ((bcG O T V n).1)) + 32256) - 1) / 32256)), .long (grG T n)]))] ++ (ws))))) from (List.Perm.append_left ([(vq, .inl (dA 2, n, .inr (.inl V)))]) (List.perm_append_comm_assoc ([(tq, .inl (dA 2, n, .inr (.inl T)))]) ([(oq, .inl (dA 1, n, .inl (fun z9 => nI (O z9))))]) ([(pp, .inr (12, [.ref oq, .ref tq, .ref vq, .int (nI n), .int (nI (cnt n (chB O))), .int (nI ((64 * (cnt n (chB O))) + ((bcG O T V n).1))), .int (nI (((((64 * (cnt n (chB O))) + ((bcG O T V n).1)) + 32256) - 1) / 32256)), .long (grG T n)]))] ++ (ws)))).trans (List.perm_append_comm_assoc ([(vq, .inl (dA 2, n, .inr (.inl V)))]) ([(oq, .inl (dA 1, n, .inl (fun z9 => nI (O z9))))]) ([(tq, .inl (dA 2, n, .inr (.inl T)))] ++ ([(pp, .inr (12, [.ref oq, .ref tq, .ref vq, .int (nI n), .int (nI (cnt n (chB O))), .int (nI ((64 * (cnt n (chB O))) + ((bcG O T V n).1))), .int (nI (((((64 * (cnt n (chB O))) + ((bcG O T V n).1)) + 32256) - 1) / 32256)), .long (grG T n)]))] ++ (ws))))) hD
        have hP := pmP (show List.Perm (α := Nat × va_E) ([(oq, .inl (dA 1, n, .inl (fun z9 => nI (O z9))))] ++ ([(vq, .inl (dA 2, n, .inr (.inl V)))] ++ ([(tq, .inl (dA 2, n, .inr (.inl T)))] ++ ([(pp, .inr (12, [.ref oq, .ref tq, .ref vq, .int (nI n), .int (nI (cnt n (chB O))), .int (nI ((64 * (cnt n (chB O))) + ((bcG O T V n).1))), .int (nI (((((64 * (cnt n (chB O))) + ((bcG O T V n).1)) + 32256) - 1) / 32256)), .long (grG T n)]))] ++ (ws))))) ([(oq, .inl (dA 1, n, .inl (fun z9 => nI (O z9))))] ++ ([(tq, .inl (dA 2, n, .inr (.inl T)))] ++ ([(vq, .inl (dA 2, n, .inr (.inl V)))] ++ ([(pp, .inr (12, [.ref oq, .ref tq, .ref vq, .int (nI n), .int (nI (cnt n (chB O))), .int (nI ((64 * (cnt n (chB O))) + ((bcG O T V n).1))), .int (nI (((((64 * (cnt n (chB O))) + ((bcG O T V n).1)) + 32256) - 1) / 32256)), .long (grG T n)]))] ++ (ws))))) from List.Perm.append_left ([(oq, .inl (dA 1, n, .inl (fun z9 => nI (O z9))))]) (List.perm_append_comm_assoc ([(vq, .inl (dA 2, n, .inr (.inl V)))]) ([(tq, .inl (dA 2, n, .inr (.inl T)))]) ([(pp, .inr (12, [.ref oq, .ref tq, .ref vq, .int (nI n), .int (nI (cnt n (chB O))), .int (nI ((64 * (cnt n (chB O))) + ((bcG O T V n).1))), .int (nI (((((64 * (cnt n (chB O))) + ((bcG O T V n).1)) + 32256) - 1) / 32256)), .long (grG T n)]))] ++ (ws)))) hP
        have hD := pmD (show List.Perm (α := Nat × va_E) ([(oq, .inl (dA 1, n, .inl (fun z9 => nI (O z9))))] ++ ([(vq, .inl (dA 2, n, .inr (.inl V)))] ++ ([(tq, .inl (dA 2, n, .inr (.inl T)))] ++ ([(pp, .inr (12, [.ref oq, .ref tq, .ref vq, .int (nI n), .int (nI (cnt n (chB O))), .int (nI ((64 * (cnt n (chB O))) + ((bcG O T V n).1))), .int (nI (((((64 * (cnt n (chB O))) + ((bcG O T V n).1)) + 32256) - 1) / 32256)), .long (grG T n)]))] ++ (ws))))) ([(oq, .inl (dA 1, n, .inl (fun z9 => nI (O z9))))] ++ ([(tq, .inl (dA 2, n, .inr (.inl T)))] ++ ([(vq, .inl (dA 2, n, .inr (.inl V)))] ++ ([(pp, .inr (12, [.ref oq, .ref tq, .ref vq, .int (nI n), .int (nI (cnt n (chB O))), .int (nI ((64 * (cnt n (chB O))) + ((bcG O T V n).1))), .int (nI (((((64 * (cnt n (chB O))) + ((bcG O T V n).1)) + 32256) - 1) / 32256)), .long (grG T n)]))] ++ (ws))))) from List.Perm.append_left ([(oq, .inl (dA 1, n, .inl (fun z9 => nI (O z9))))]) (List.perm_append_comm_assoc ([(vq, .inl (dA 2, n, .inr (.inl V)))]) ([(tq, .inl (dA 2, n, .inr (.inl T)))]) ([(pp, .inr (12, [.ref oq, .ref tq, .ref vq, .int (nI n), .int (nI (cnt n (chB O))), .int (nI ((64 * (cnt n (chB O))) + ((bcG O T V n).1))), .int (nI (((((64 * (cnt n (chB O))) + ((bcG O T V n).1)) + 32256) - 1) / 32256)), .long (grG T n)]))] ++ (ws)))) hD
        exact rfV hx hb hr hlk hS (⟨oq, tq, vq, O, T, V⟩) (by rw [show i = n by omega] at l1 l2 l3; exact ⟨l1, l2, l3, l4⟩) hP hD (show 0 + 1 + 1 + 1 + 1 + 0 + 0 + 0 ≤ 4 by omega) (show 0 + n + n + n + (w + 1) + 0 + 0 + 0 ≤ 3 * n + w + 1 by omega) d_C_init_193
      · have g5 := mt (nI_leI (a := n) (b := i) (by omega) (by omega)).mpr g5
        have c7 := ho i (by omega)
        have cp : fp (o i) = posN o n i := hpl (o i) (by omega)
        have cq : fp (o i) < n := by rw [cp]; exact posN_n (by omega)
        refine lv_aload_n hx hb d_C_init_60 rfl (lv_at hl 2 rfl) ?_
        obtain ⟨qp12, ep13⟩ := List.getElem?_of_mem (show ((pa, .inr (2, [.ref oa, .ref ta, .ref va, .int (nI n)])) : Nat × va_E) ∈ [(pq, .inl (dA 1, w + 1, .inl (fun z9 => nI (fp z9))))] ++ ([(vq, .inl (dA 2, n, .inr (.inl V)))] ++ ([(tq, .inl (dA 2, n, .inr (.inl T)))] ++ ([(oq, .inl (dA 1, n, .inl (fun z9 => nI (O z9))))] ++ ([(pp, .inr (12, [.ref oq, .ref tq, .ref vq, .int (nI n), .int 0, .int 0, .int 0, .long 0]))] ++ (ws))))) from (List.mem_append_right _ (List.mem_append_right _ (List.mem_append_right _ (List.mem_append_right _ (List.mem_append_right _ m1))))))
        refine gFN (v := .ref oa) hx hb hown hE hK hP qp12 ep13 rfl layP 0 (by decide) w1225 rfl d_C_init_61 ?_
        refine lv_iload hx hb d_C_init_64 (lv_at hl 0 rfl) ?_
        obtain ⟨qp14, ep15⟩ := List.getElem?_of_mem (show ((oa, .inl (dA 1, N, .inl (fun z9 => nI (o z9)))) : Nat × va_E) ∈ [(pq, .inl (dA 1, w + 1, .inl (fun z9 => nI (fp z9))))] ++ ([(vq, .inl (dA 2, n, .inr (.inl V)))] ++ ([(tq, .inl (dA 2, n, .inr (.inl T)))] ++ ([(oq, .inl (dA 1, n, .inl (fun z9 => nI (O z9))))] ++ ([(pp, .inr (12, [.ref oq, .ref tq, .ref vq, .int (nI n), .int 0, .int 0, .int 0, .long 0]))] ++ (ws))))) from (List.mem_append_right _ (List.mem_append_right _ (List.mem_append_right _ (List.mem_append_right _ (List.mem_append_right _ m2))))))
        refine nild (f := (fun z9 => nI (o z9))) (n := N) hx hb hK hP (qp14) 1 ep15 rfl (i) (by omega) (by omega) d_C_init_66 ?_
        refine lv_istore hx hb d_C_init_67 hl (by decide) rfl (fun ls hl => ?_)
        have hl : lv_has ls 7 [(5, .int (nI (o i))), (4, .int (nI i)), (0, .ref pp), (1, .ref pa), (2, .int (nI w)), (3, .ref pq)] := hl
        refine lv_aload_n hx hb d_C_init_69 rfl (lv_at hl 5 rfl) ?_
        refine lv_iload hx hb d_C_init_70 (lv_at hl 0 rfl) ?_
        refine nild (f := (fun z9 => nI (fp z9))) (n := w + 1) hx hb hK hP (0) 1 rfl rfl (o i) (by omega) (by omega) d_C_init_72 ?_
        refine lv_istore hx hb d_C_init_73 hl (by decide) rfl (fun ls hl => ?_)
        have hl : lv_has ls 7 [(6, .int (nI (fp (o i)))), (5, .int (nI (o i))), (4, .int (nI i)), (0, .ref pp), (1, .ref pa), (2, .int (nI w)), (3, .ref pq)] := hl
        refine lv_aload_n hx hb d_C_init_75 rfl (lv_at hl 3 rfl) ?_
        refine gF (v := .ref oq) hx hb hown hE hK hP 4 rfl rfl layC 0 (by decide) w1228 rfl d_C_init_76 ?_
        refine lv_iload hx hb d_C_init_79 (lv_at hl 0 rfl) ?_
        refine lv_iload hx hb d_C_init_81 (lv_at hl 1 rfl) ?_
        refine nistN (v := o i) (n := n) hx hb hK hP hD hS (3) 1 rfl rfl (fp (o i)) (by omega) (by omega) d_C_init_83 (fun H locs hP hD hS => ?_)
        have hP : va_P D vwCl ([(pq, .inl (dA 1, w + 1, .inl (fun z9 => nI (fp z9))))] ++ ([(vq, .inl (dA 2, n, .inr (.inl V)))] ++ ([(tq, .inl (dA 2, n, .inr (.inl T)))] ++ ([(oq, .inl (dA 1, n, .inl (fun z9 => nI ((va_up O (fp (o i)) (o i)) z9))))] ++ ([(pp, .inr (12, [.ref oq, .ref tq, .ref vq, .int (nI n), .int 0, .int 0, .int 0, .long 0]))] ++ (ws)))))) H := hP
        have hD : va_D A ([(pq, .inl (dA 1, w + 1, .inl (fun z9 => nI (fp z9))))] ++ ([(vq, .inl (dA 2, n, .inr (.inl V)))] ++ ([(tq, .inl (dA 2, n, .inr (.inl T)))] ++ ([(oq, .inl (dA 1, n, .inl (fun z9 => nI ((va_up O (fp (o i)) (o i)) z9))))] ++ ([(pp, .inr (12, [.ref oq, .ref tq, .ref vq, .int (nI n), .int 0, .int 0, .int 0, .long 0]))] ++ (ws)))))) := hD
        refine lv_aload_n hx hb d_C_init_84 rfl (lv_at hl 3 rfl) ?_
        refine gF (v := .ref tq) hx hb hown hE hK hP 4 rfl rfl layC 1 (by decide) w1229 rfl d_C_init_85 ?_
        refine lv_iload hx hb d_C_init_88 (lv_at hl 0 rfl) ?_
        refine lv_aload_n hx hb d_C_init_90 rfl (lv_at hl 4 rfl) ?_
        obtain ⟨qp16, ep17⟩ := List.getElem?_of_mem (show ((pa, .inr (2, [.ref oa, .ref ta, .ref va, .int (nI n)])) : Nat × va_E) ∈ [(pq, .inl (dA 1, w + 1, .inl (fun z9 => nI (fp z9))))] ++ ([(vq, .inl (dA 2, n, .inr (.inl V)))] ++ ([(tq, .inl (dA 2, n, .inr (.inl T)))] ++ ([(oq, .inl (dA 1, n, .inl (fun z9 => nI ((va_up O (fp (o i)) (o i)) z9))))] ++ ([(pp, .inr (12, [.ref oq, .ref tq, .ref vq, .int (nI n), .int 0, .int 0, .int 0, .long 0]))] ++ (ws))))) from (List.mem_append_right _ (List.mem_append_right _ (List.mem_append_right _ (List.mem_append_right _ (List.mem_append_right _ m1))))))
        refine gFN (v := .ref ta) hx hb hown hE hK hP qp16 ep17 rfl layP 1 (by decide) w1247 rfl d_C_init_91 ?_
        refine lv_iload hx hb d_C_init_94 (lv_at hl 2 rfl) ?_
        obtain ⟨qp18, ep19⟩ := List.getElem?_of_mem (show ((ta, .inl (dA 2, N, .inr (.inl t))) : Nat × va_E) ∈ [(pq, .inl (dA 1, w + 1, .inl (fun z9 => nI (fp z9))))] ++ ([(vq, .inl (dA 2, n, .inr (.inl V)))] ++ ([(tq, .inl (dA 2, n, .inr (.inl T)))] ++ ([(oq, .inl (dA 1, n, .inl (fun z9 => nI ((va_up O (fp (o i)) (o i)) z9))))] ++ ([(pp, .inr (12, [.ref oq, .ref tq, .ref vq, .int (nI n), .int 0, .int 0, .int 0, .long 0]))] ++ (ws))))) from (List.mem_append_right _ (List.mem_append_right _ (List.mem_append_right _ (List.mem_append_right _ (List.mem_append_right _ m3))))))
        refine nlld (f := t) (n := N) hx hb hK hP (qp18) 2 ep19 rfl (i) (by omega) (by omega) d_C_init_96 ?_
        refine nlst (n := n) hx hb hK hP hD hS (2) 2 rfl rfl (fp (o i)) (by omega) (by omega) d_C_init_97 (fun H locs hP hD hS => ?_)
        have hP : va_P D vwCl ([(pq, .inl (dA 1, w + 1, .inl (fun z9 => nI (fp z9))))] ++ ([(vq, .inl (dA 2, n, .inr (.inl V)))] ++ ([(tq, .inl (dA 2, n, .inr (.inl (va_up T (fp (o i)) (t i)))))] ++ ([(oq, .inl (dA 1, n, .inl (fun z9 => nI ((va_up O (fp (o i)) (o i)) z9))))] ++ ([(pp, .inr (12, [.ref oq, .ref tq, .ref vq, .int (nI n), .int 0, .int 0, .int 0, .long 0]))] ++ (ws)))))) H := hP
        have hD : va_D A ([(pq, .inl (dA 1, w + 1, .inl (fun z9 => nI (fp z9))))] ++ ([(vq, .inl (dA 2, n, .inr (.inl V)))] ++ ([(tq, .inl (dA 2, n, .inr (.inl (va_up T (fp (o i)) (t i)))))] ++ ([(oq, .inl (dA 1, n, .inl (fun z9 => nI ((va_up O (fp (o i)) (o i)) z9))))] ++ ([(pp, .inr (12, [.ref oq, .ref tq, .ref vq, .int (nI n), .int 0, .int 0, .int 0, .long 0]))] ++ (ws)))))) := hD
        refine lv_aload_n hx hb d_C_init_98 rfl (lv_at hl 3 rfl) ?_
        refine gF (v := .ref vq) hx hb hown hE hK hP 4 rfl rfl layC 2 (by decide) w1230 rfl d_C_init_99 ?_
        refine lv_iload hx hb d_C_init_102 (lv_at hl 0 rfl) ?_
        refine lv_aload_n hx hb d_C_init_104 rfl (lv_at hl 4 rfl) ?_
        obtain ⟨qp20, ep21⟩ := List.getElem?_of_mem (show ((pa, .inr (2, [.ref oa, .ref ta, .ref va, .int (nI n)])) : Nat × va_E) ∈ [(pq, .inl (dA 1, w + 1, .inl (fun z9 => nI (fp z9))))] ++ ([(vq, .inl (dA 2, n, .inr (.inl V)))] ++ ([(tq, .inl (dA 2, n, .inr (.inl (va_up T (fp (o i)) (t i)))))] ++ ([(oq, .inl (dA 1, n, .inl (fun z9 => nI ((va_up O (fp (o i)) (o i)) z9))))] ++ ([(pp, .inr (12, [.ref oq, .ref tq, .ref vq, .int (nI n), .int 0, .int 0, .int 0, .long 0]))] ++ (ws))))) from (List.mem_append_right _ (List.mem_append_right _ (List.mem_append_right _ (List.mem_append_right _ (List.mem_append_right _ m1))))))
        refine gFN (v := .ref va) hx hb hown hE hK hP qp20 ep21 rfl layP 2 (by decide) w1248 rfl d_C_init_105 ?_
        refine lv_iload hx hb d_C_init_108 (lv_at hl 2 rfl) ?_
        obtain ⟨qp22, ep23⟩ := List.getElem?_of_mem (show ((va, .inl (dA 2, N, .inr (.inl v))) : Nat × va_E) ∈ [(pq, .inl (dA 1, w + 1, .inl (fun z9 => nI (fp z9))))] ++ ([(vq, .inl (dA 2, n, .inr (.inl V)))] ++ ([(tq, .inl (dA 2, n, .inr (.inl (va_up T (fp (o i)) (t i)))))] ++ ([(oq, .inl (dA 1, n, .inl (fun z9 => nI ((va_up O (fp (o i)) (o i)) z9))))] ++ ([(pp, .inr (12, [.ref oq, .ref tq, .ref vq, .int (nI n), .int 0, .int 0, .int 0, .long 0]))] ++ (ws))))) from (List.mem_append_right _ (List.mem_append_right _ (List.mem_append_right _ (List.mem_append_right _ (List.mem_append_right _ m4))))))
        refine nlld (f := v) (n := N) hx hb hK hP (qp22) 2 ep23 rfl (i) (by omega) (by omega) d_C_init_110 ?_
        refine nlst (n := n) hx hb hK hP hD hS (1) 2 rfl rfl (fp (o i)) (by omega) (by omega) d_C_init_111 (fun H locs hP hD hS => ?_)
        have hP : va_P D vwCl ([(pq, .inl (dA 1, w + 1, .inl (fun z9 => nI (fp z9))))] ++ ([(vq, .inl (dA 2, n, .inr (.inl (va_up V (fp (o i)) (v i)))))] ++ ([(tq, .inl (dA 2, n, .inr (.inl (va_up T (fp (o i)) (t i)))))] ++ ([(oq, .inl (dA 1, n, .inl (fun z9 => nI ((va_up O (fp (o i)) (o i)) z9))))] ++ ([(pp, .inr (12, [.ref oq, .ref tq, .ref vq, .int (nI n), .int 0, .int 0, .int 0, .long 0]))] ++ (ws)))))) H := hP
        have hD : va_D A ([(pq, .inl (dA 1, w + 1, .inl (fun z9 => nI (fp z9))))] ++ ([(vq, .inl (dA 2, n, .inr (.inl (va_up V (fp (o i)) (v i)))))] ++ ([(tq, .inl (dA 2, n, .inr (.inl (va_up T (fp (o i)) (t i)))))] ++ ([(oq, .inl (dA 1, n, .inl (fun z9 => nI ((va_up O (fp (o i)) (o i)) z9))))] ++ ([(pp, .inr (12, [.ref oq, .ref tq, .ref vq, .int (nI n), .int 0, .int 0, .int 0, .long 0]))] ++ (ws)))))) := hD
        refine lv_aload_n hx hb d_C_init_112 rfl (lv_at hl 6 rfl) ?_
        refine lv_iload hx hb d_C_init_113 (lv_at hl 1 rfl) ?_
        refine lv_dup2_11 hx hb d_C_init_115 rfl rfl ?_
        refine nild (f := (fun z9 => nI (fp z9))) (n := w + 1) hx hb hK hP (0) 1 rfl rfl (o i) (by omega) (by omega) d_C_init_116 ?_
        refine lv_iconst (v := 1) hx hb d_C_init_117 (by decide) ?_
        refine lv_iadd hx hb d_C_init_118 (tpi (y := nI ((fp (o i)) + 1)) (nI_add (fp (o i)) (1)) ?_)
        refine nistN (v := (fp (o i)) + 1) (n := w + 1) hx hb hK hP hD hS (0) 1 rfl rfl (o i) (by omega) (by omega) d_C_init_119 (fun H locs hP hD hS => ?_)
        have hP : va_P D vwCl ([(pq, .inl (dA 1, w + 1, .inl (fun z9 => nI ((va_up fp (o i) ((fp (o i)) + 1)) z9))))] ++ ([(vq, .inl (dA 2, n, .inr (.inl (va_up V (fp (o i)) (v i)))))] ++ ([(tq, .inl (dA 2, n, .inr (.inl (va_up T (fp (o i)) (t i)))))] ++ ([(oq, .inl (dA 1, n, .inl (fun z9 => nI ((va_up O (fp (o i)) (o i)) z9))))] ++ ([(pp, .inr (12, [.ref oq, .ref tq, .ref vq, .int (nI n), .int 0, .int 0, .int 0, .long 0]))] ++ (ws)))))) H := hP
        have hD : va_D A ([(pq, .inl (dA 1, w + 1, .inl (fun z9 => nI ((va_up fp (o i) ((fp (o i)) + 1)) z9))))] ++ ([(vq, .inl (dA 2, n, .inr (.inl (va_up V (fp (o i)) (v i)))))] ++ ([(tq, .inl (dA 2, n, .inr (.inl (va_up T (fp (o i)) (t i)))))] ++ ([(oq, .inl (dA 1, n, .inl (fun z9 => nI ((va_up O (fp (o i)) (o i)) z9))))] ++ ([(pp, .inr (12, [.ref oq, .ref tq, .ref vq, .int (nI n), .int 0, .int 0, .int 0, .long 0]))] ++ (ws)))))) := hD
        refine lv_iinc (k := 2) (v := nI (i + 1)) hx hb d_C_init_120 hl rfl (iincN (i) 1 1 (by decide)) (by decide) rfl (fun ls hl => ?_)
        have hl : lv_has ls 7 [(4, .int (nI (i + 1))), (6, .int (nI (fp (o i)))), (5, .int (nI (o i))), (0, .ref pp), (1, .ref pa), (2, .int (nI w)), (3, .ref pq)] := hl
        refine lv_goto hx hb d_C_init_123 (tgt := 51) rfl ?_
        exact ih51 _ (by omega) (i + 1) (va_up fp (o i) ((fp (o i)) + 1)) (va_up V (fp (o i)) (v i)) (va_up T (fp (o i)) (t i)) (va_up O (fp (o i)) (o i)) (by omega) (plcs_s hpl (by omega)) (laid_s (by omega) l1 cp rfl) (laid_s (by omega) l2 cp rfl) (laid_s (by omega) l3 cp rfl) (upA (P := fun z => z < 256) l4 (by omega)) rfl H _ ls hP hD hS (lv_sub hl [0, 3, 4, 5, 6] rfl)
  exact L51 _ 0 fp0 (fun _ => 0) (fun _ => 0) (fun _ => 0) (Nat.zero_le _) (fun s hs => f_hf_4 s (by omega)) (fun j hj => absurd hj (Nat.not_lt_zero j)) (fun j hj => absurd hj (Nat.not_lt_zero j)) (fun j hj => absurd hj (Nat.not_lt_zero j)) (fun _ => by decide) rfl H _ ls hP hD hS (lv_sub hl [0, 2, 3, 4, 1] rfl)
theorem d_V_blocksOf_0 : decode prog_1_method_38_code 0 = .ok (.aload_n 0, 1) := by decide +kernel
theorem d_V_blocksOf_1 : decode prog_1_method_38_code 1 = .ok (.ifnonnull 7, 3) := by decide +kernel
theorem d_V_blocksOf_4 : decode prog_1_method_38_code 4 = .ok (.iconst 0, 1) := by decide +kernel
theorem d_V_blocksOf_5 : decode prog_1_method_38_code 5 = .ok (.goto 7, 3) := by decide +kernel
theorem d_V_blocksOf_12 : decode prog_1_method_38_code 12 = .ok (.ireturn, 1) := by decide +kernel
set_option maxHeartbeats 4000000 in
set_option maxRecDepth 100000 in
theorem v_blocksOf_0 (l : Launch) (D : va_G) (dA : Nat → ClassId) (sz : Nat) : Met l ⟨"SeriesVault", "blocksOf", "(LSeriesVault$Parcel;)I"⟩ [Cond.code ⟨"SeriesVault", "blocksOf", "(LSeriesVault$Parcel;)I"⟩ prog_1_method_38_code 1 (some FieldType.int)] { frames := 1, cells := 0, slots := 0, locals := 0 } (pC D dA [.null] ([]) sz) (va_Qi (fun (r9 : Int32) (u9 : Unit) => r9 = 0) (fun (u9 : Unit) t9 => bW D (va_A ([]) sz) ([]) t9) (va_A ([]) sz)) 0 0 (va_A ([]) sz) := by
  refine mkC (y := ⟨"SeriesVault", "blocksOf", "(LSeriesVault$Parcel;)I"⟩) (cc := prog_1_method_38_code) (maxL := 1) (av := [.null]) (ws := []) (sz := sz) (Qc := fun A => va_Qi (fun (r9 : Int32) (u9 : Unit) => r9 = 0) (fun (u9 : Unit) t9 => bW D A ([]) t9) A) (by decide) (Nat.le_of_ble_eq_true rfl) ?_
  intro A p e s m below meth c ls hsz hB
  obtain ⟨hx, hb, hr, hml, hown, hin, hlk, hE, hK, hP, hD, hS, hA, hN, hl⟩ := hB
  have hown : s.vm.findClass "SeriesVault" = some m.cls := hown
  have hl : lv_has ls 1 [(0, .null)] := hl
  obtain ⟨H, hH⟩ : ∃ z, z = s.heap := ⟨_, rfl⟩
  have hP : va_P D vwCl ([]) H := by rw [hH]; exact hP
  have hS : va_S A s.heap H [] := by rw [hH]; exact hS
  rw [← hH]
  refine lv_aload_nN hx hb d_V_blocksOf_0 rfl (lv_at hl 0 rfl) ?_
  refine lv_ifnonnullN hx hb d_V_blocksOf_1 ?_
  refine lv_iconst (v := 0) hx hb d_V_blocksOf_4 (by decide) ?_
  refine lv_goto hx hb d_V_blocksOf_5 (tgt := 12) rfl ?_
  exact rfI hx hb hr hlk hS () rfl hP hD (Nat.le_of_ble_eq_true rfl) (Nat.le_of_ble_eq_true rfl) d_V_blocksOf_12
theorem d_V_blocksOf_8 : decode prog_1_method_38_code 8 = .ok (.aload_n 0, 1) := by decide +kernel
theorem d_V_blocksOf_9 : decode prog_1_method_38_code 9 = .ok (.getfield 326, 3) := by decide +kernel
theorem w1249 : Cond.fieldLinkNest "SeriesVault" 326 "SeriesVault$Parcel" "blocks" "I" "SeriesVault" ∈ aW := aw_of (tb_6 (List.mem_of_getElem? (i := 63) rfl)) rfl
set_option maxHeartbeats 4000000 in
set_option maxRecDepth 100000 in
theorem v_blocksOf (l : Launch) (D : va_G) (dA : Nat → ClassId) (sz : Nat) (ws : va_W) (pp : Nat) (P : PT) (hpp : isPc dA ws pp P) : Met l ⟨"SeriesVault", "blocksOf", "(LSeriesVault$Parcel;)I"⟩ [Cond.code ⟨"SeriesVault", "blocksOf", "(LSeriesVault$Parcel;)I"⟩ prog_1_method_38_code 1 (some FieldType.int)] { frames := 1, cells := 0, slots := 0, locals := 0 } (pC D dA [.ref pp] (ws) sz) (va_Qi (fun (r9 : Int32) (u9 : Unit) => r9 = nI P.bl) (fun (u9 : Unit) t9 => bW D (va_A (ws) sz) (ws) t9) (va_A (ws) sz)) 0 0 (va_A (ws) sz) := by
  refine mkC (y := ⟨"SeriesVault", "blocksOf", "(LSeriesVault$Parcel;)I"⟩) (cc := prog_1_method_38_code) (maxL := 1) (av := [.ref pp]) (ws := ws) (sz := sz) (Qc := fun A => va_Qi (fun (r9 : Int32) (u9 : Unit) => r9 = nI P.bl) (fun (u9 : Unit) t9 => bW D A (ws) t9) A) (by decide) (Nat.le_of_ble_eq_true rfl) ?_
  intro A p e s m below meth c ls hsz hB
  obtain ⟨hx, hb, hr, hml, hown, hin, hlk, hE, hK, hP, hD, hS, hA, hN, hl⟩ := hB
  have hown : s.vm.findClass "SeriesVault" = some m.cls := hown
  have hl : lv_has ls 1 [(0, .ref pp)] := hl
  obtain ⟨H, hH⟩ : ∃ z, z = s.heap := ⟨_, rfl⟩
  have hP : va_P D vwCl (ws) H := by rw [hH]; exact hP
  have hS : va_S A s.heap H [] := by rw [hH]; exact hS
  rw [← hH]
  obtain ⟨po, pt, pv, m1, m2, m3, m4⟩ := hpp
  refine lv_aload_n hx hb d_V_blocksOf_0 rfl (lv_at hl 0 rfl) ?_
  refine lv_ifnonnull hx hb d_V_blocksOf_1 (tgt := 8) rfl ?_
  refine lv_aload_n hx hb d_V_blocksOf_8 rfl (lv_at hl 0 rfl) ?_
  obtain ⟨qp1, ep2⟩ := List.getElem?_of_mem (show ((pp, .inr (12, [.ref po, .ref pt, .ref pv, .int (nI P.n), .int (nI P.ch), .int (nI P.bi), .int (nI P.bl), .long P.nw])) : Nat × va_E) ∈ ws from m1)
  refine gFN (v := .int (nI P.bl)) hx hb hown hE hK hP qp1 ep2 rfl layC 6 (by decide) w1249 rfl d_V_blocksOf_9 ?_
  exact rfI hx hb hr hlk hS () rfl hP hD (Nat.le_of_ble_eq_true rfl) (Nat.le_of_ble_eq_true rfl) d_V_blocksOf_12
