/-- only the gathered points differ -/
def VS.gkS (x y : VS) : VS := VS.s_gsize (VS.s_gV (VS.s_gT (VS.s_gO (VS.s_gN (VS.s_gA x y.gA) y.gN) y.gO) y.gT) y.gV) y.gsize
def VS.gk (x y : VS) : Prop := y = x.gkS y
/-- the room of a row of s behind k more, as it doubles -/
def capR (N s : Nat) : Nat → Nat
  | 0 => N
  | k + 1 => if s + k = capR N s k then 2 * (s + k) else capR N s k
theorem capR_s (N s k : Nat) : capR N s k ≤ capR N s (k + 1) := by
  show _ ≤ if s + k = capR N s k then 2 * (s + k) else capR N s k
  split <;> omega
theorem capR_m (N s : Nat) {k n : Nat} (h : k ≤ n) : capR N s k ≤ capR N s n := by
  induction n with
  | zero => rw [show k = 0 by omega]; exact Nat.le_refl _
  | succ n ih =>
    by_cases e : k = n + 1
    · rw [e]; exact Nat.le_refl _
    · exact Nat.le_trans (ih (by omega)) (capR_s N s n)
/-- i points of a parcel looked at, those that are seen gathered -/
def gath (x : VS) (P : PT) (i : Nat) (z : VS) : Prop :=
  (∀ q, q < x.gsize → z.gO q = x.gO q ∧ z.gT q = x.gT q ∧ z.gV q = x.gV q) ∧ ∀ j, j < i → x.sePc P j = true → z.gO (x.gsize + cnt j (x.sePc P)) = P.o j ∧ z.gT (x.gsize + cnt j (x.sePc P)) = P.t j ∧ z.gV (x.gsize + cnt j (x.sePc P)) = P.v j
def gaR (x : VS) (P : PT) (i : Nat) (z : VS) : Prop := x.gk z ∧ z.gsize = x.gsize + cnt i (x.sePc P) ∧ z.gsize ≤ z.gN ∧ z.gN = capR x.gN x.gsize (cnt i (x.sePc P)) ∧ gath x P i z
theorem gaR_0 {x : VS} (P : PT) (h : x.gsize ≤ x.gN) : gaR x P 0 x := ⟨rfl, rfl, h, rfl, fun _ _ => ⟨rfl, rfl, rfl⟩, fun j hj => absurd hj (Nat.not_lt_zero j)⟩
theorem gaR_f {x z : VS} {P : PT} {i : Nat} (h : gaR x P i z) (hs : x.sePc P i = false) : gaR x P (i + 1) z := by
  obtain ⟨h1, h2, h3, h4, h5, h6⟩ := h
  refine ⟨h1, by rw [cnt_f hs]; exact h2, h3, by rw [cnt_f hs]; exact h4, h5, fun j hj hj2 => ?_⟩
  by_cases e : j = i
  · subst e; rw [hs] at hj2; cases hj2
  · exact h6 j (by omega) hj2
theorem gaF_sz (z : VS) (pa : Nat → Nat) (w : Nat) (a b : Int64) : (z.gaF pa w a b).gsize = z.gsize + 1 ∧ (z.gaF pa w a b).gN = z.gcap ∧ z.gk (z.gaF pa w a b) := by
  unfold VS.gaF VS.gcap
  split
  · exact ⟨rfl, rfl, rfl⟩
  · exact ⟨rfl, rfl, rfl⟩
theorem cpy_lt {α : Type} (f : Nat → α) (v : α) {n k q : Nat} (h : q < n) (h2 : q < k) : va_cpy f (fun _ => v) 0 0 (min n k) q = f q := by
  unfold va_cpy
  rw [if_pos (by omega)]
  congr 1
  omega
theorem gaF_at (z : VS) (pa : Nat → Nat) (w : Nat) (a b : Int64) (h0 : z.gsize ≤ z.gN) (h1 : 0 < z.gN) : (∀ q, q < z.gsize → (z.gaF pa w a b).gO q = z.gO q ∧ (z.gaF pa w a b).gT q = z.gT q ∧ (z.gaF pa w a b).gV q = z.gV q) ∧ (z.gaF pa w a b).gO z.gsize = w ∧ (z.gaF pa w a b).gT z.gsize = a ∧ (z.gaF pa w a b).gV z.gsize = b := by
  unfold VS.gaF
  split
  · next e =>
    refine ⟨fun q hq => ⟨?_, ?_, ?_⟩, ?_, ?_, ?_⟩
    · exact (va_up_ne _ _ (Nat.ne_of_lt hq)).trans (cpy_lt _ _ (by omega) (by omega))
    · exact (va_up_ne _ _ (Nat.ne_of_lt hq)).trans (cpy_lt _ _ (by omega) (by omega))
    · exact (va_up_ne _ _ (Nat.ne_of_lt hq)).trans (cpy_lt _ _ (by omega) (by omega))
    · exact va_up_self _ _ _
    · exact va_up_self _ _ _
    · exact va_up_self _ _ _
  · refine ⟨fun q hq => ⟨va_up_ne _ _ (Nat.ne_of_lt hq), va_up_ne _ _ (Nat.ne_of_lt hq), va_up_ne _ _ (Nat.ne_of_lt hq)⟩, va_up_self _ _ _, va_up_self _ _ _, va_up_self _ _ _⟩
theorem gk_t {x y z : VS} (h1 : x.gk y) (h2 : y.gk z) : x.gk z := by
  unfold VS.gk at *
  rw [h2, h1]
  rfl
theorem gaR_t {x z y : VS} {P : PT} {i : Nat} {pa : Nat → Nat} (h : gaR x P i z) (h0 : 0 < x.gN) (hs : x.sePc P i = true) (e : y = z.gaF pa (P.o i) (P.t i) (P.v i)) : gaR x P (i + 1) y := by
  obtain ⟨h1, h2, h3, h4, h5, h6⟩ := h
  have hN : 0 < z.gN := by
    have := capR_m x.gN x.gsize (Nat.zero_le (cnt i (x.sePc P)))
    have e0 : capR x.gN x.gsize 0 = x.gN := rfl
    omega
  obtain ⟨a1, a2, a3⟩ := gaF_sz z pa (P.o i) (P.t i) (P.v i)
  obtain ⟨b1, b2, b3, b4⟩ := gaF_at z pa (P.o i) (P.t i) (P.v i) h3 hN
  rw [← e] at a1 a2 a3 b1 b2 b3 b4
  have hc : z.gcap = capR x.gN x.gsize (cnt i (x.sePc P) + 1) := by
    show (if z.gsize = z.gN then 2 * z.gsize else z.gN) = if x.gsize + cnt i (x.sePc P) = capR x.gN x.gsize (cnt i (x.sePc P)) then 2 * (x.gsize + cnt i (x.sePc P)) else capR x.gN x.gsize (cnt i (x.sePc P))
    rw [h4, h2]
  refine ⟨gk_t h1 a3, by rw [a1, h2, cnt_t hs]; omega, ?_, by rw [a2, hc, cnt_t hs], fun q hq => ?_, fun j hj hj2 => ?_⟩
  · rw [a1, a2]
    unfold VS.gcap
    split <;> omega
  · obtain ⟨c1, c2, c3⟩ := b1 q (by omega)
    obtain ⟨d1, d2, d3⟩ := h5 q hq
    exact ⟨c1.trans d1, c2.trans d2, c3.trans d3⟩
  · by_cases ej : j = i
    · subst ej
      rw [← h2]
      exact ⟨b2, b3, b4⟩
    · have hl := cnt_lt (f := x.sePc P) (show j < i by omega) hj2
      obtain ⟨c1, c2, c3⟩ := b1 (x.gsize + cnt j (x.sePc P)) (by omega)
      obtain ⟨d1, d2, d3⟩ := h6 j (by omega) hj2
      exact ⟨c1.trans d1, c2.trans d2, c3.trans d3⟩
theorem plP1 {dA : Nat → ClassId} {h : Nat} {ad : Nat → Nat} (x : VS) (a0 : va_W) : (a0 ++ VW dA h ad x).Perm (VW dA h ad (VS.s_pl x (x.pl ++ (a0)))) := by
  have h1 := plPerm (dA := dA) (h := h) (ad := ad) x (a0)
  exact h1
theorem plP2 {dA : Nat → ClassId} {h : Nat} {ad : Nat → Nat} (x : VS) (a0 a1 : va_W) : (a0 ++ (a1 ++ VW dA h ad x)).Perm (VW dA h ad (VS.s_pl x (x.pl ++ (a0 ++ (a1))))) := by
  have h1 := plPerm (dA := dA) (h := h) (ad := ad) x (a0 ++ (a1))
  rw [List.append_assoc] at h1
  exact h1
theorem plP3 {dA : Nat → ClassId} {h : Nat} {ad : Nat → Nat} (x : VS) (a0 a1 a2 : va_W) : (a0 ++ (a1 ++ (a2 ++ VW dA h ad x))).Perm (VW dA h ad (VS.s_pl x (x.pl ++ (a0 ++ (a1 ++ (a2)))))) := by
  have h1 := plPerm (dA := dA) (h := h) (ad := ad) x (a0 ++ (a1 ++ (a2)))
  rw [List.append_assoc, List.append_assoc] at h1
  exact h1
theorem plP4 {dA : Nat → ClassId} {h : Nat} {ad : Nat → Nat} (x : VS) (a0 a1 a2 a3 : va_W) : (a0 ++ (a1 ++ (a2 ++ (a3 ++ VW dA h ad x)))).Perm (VW dA h ad (VS.s_pl x (x.pl ++ (a0 ++ (a1 ++ (a2 ++ (a3))))))) := by
  have h1 := plPerm (dA := dA) (h := h) (ad := ad) x (a0 ++ (a1 ++ (a2 ++ (a3))))
  rw [List.append_assoc, List.append_assoc, List.append_assoc] at h1
  exact h1
theorem plP5 {dA : Nat → ClassId} {h : Nat} {ad : Nat → Nat} (x : VS) (a0 a1 a2 a3 a4 : va_W) : (a0 ++ (a1 ++ (a2 ++ (a3 ++ (a4 ++ VW dA h ad x))))).Perm (VW dA h ad (VS.s_pl x (x.pl ++ (a0 ++ (a1 ++ (a2 ++ (a3 ++ (a4)))))))) := by
  have h1 := plPerm (dA := dA) (h := h) (ad := ad) x (a0 ++ (a1 ++ (a2 ++ (a3 ++ (a4)))))
  rw [List.append_assoc, List.append_assoc, List.append_assoc, List.append_assoc] at h1
  exact h1
theorem plP6 {dA : Nat → ClassId} {h : Nat} {ad : Nat → Nat} (x : VS) (a0 a1 a2 a3 a4 a5 : va_W) : (a0 ++ (a1 ++ (a2 ++ (a3 ++ (a4 ++ (a5 ++ VW dA h ad x)))))).Perm (VW dA h ad (VS.s_pl x (x.pl ++ (a0 ++ (a1 ++ (a2 ++ (a3 ++ (a4 ++ (a5))))))))) := by
  have h1 := plPerm (dA := dA) (h := h) (ad := ad) x (a0 ++ (a1 ++ (a2 ++ (a3 ++ (a4 ++ (a5))))))
  rw [List.append_assoc, List.append_assoc, List.append_assoc, List.append_assoc, List.append_assoc] at h1
  exact h1
theorem plP7 {dA : Nat → ClassId} {h : Nat} {ad : Nat → Nat} (x : VS) (a0 a1 a2 a3 a4 a5 a6 : va_W) : (a0 ++ (a1 ++ (a2 ++ (a3 ++ (a4 ++ (a5 ++ (a6 ++ VW dA h ad x))))))).Perm (VW dA h ad (VS.s_pl x (x.pl ++ (a0 ++ (a1 ++ (a2 ++ (a3 ++ (a4 ++ (a5 ++ (a6)))))))))) := by
  have h1 := plPerm (dA := dA) (h := h) (ad := ad) x (a0 ++ (a1 ++ (a2 ++ (a3 ++ (a4 ++ (a5 ++ (a6)))))))
  rw [List.append_assoc, List.append_assoc, List.append_assoc, List.append_assoc, List.append_assoc, List.append_assoc] at h1
  exact h1
theorem plP8 {dA : Nat → ClassId} {h : Nat} {ad : Nat → Nat} (x : VS) (a0 a1 a2 a3 a4 a5 a6 a7 : va_W) : (a0 ++ (a1 ++ (a2 ++ (a3 ++ (a4 ++ (a5 ++ (a6 ++ (a7 ++ VW dA h ad x)))))))).Perm (VW dA h ad (VS.s_pl x (x.pl ++ (a0 ++ (a1 ++ (a2 ++ (a3 ++ (a4 ++ (a5 ++ (a6 ++ (a7))))))))))) := by
  have h1 := plPerm (dA := dA) (h := h) (ad := ad) x (a0 ++ (a1 ++ (a2 ++ (a3 ++ (a4 ++ (a5 ++ (a6 ++ (a7))))))))
  rw [List.append_assoc, List.append_assoc, List.append_assoc, List.append_assoc, List.append_assoc, List.append_assoc, List.append_assoc] at h1
  exact h1
theorem d_H_gatherSeen_0 : decode prog_9_method_21_code 0 = .ok (.iconst 0, 1) := by decide +kernel
theorem d_H_gatherSeen_1 : decode prog_9_method_21_code 1 = .ok (.istore_n 3, 1) := by decide +kernel
theorem d_H_gatherSeen_2 : decode prog_9_method_21_code 2 = .ok (.iload_n 3, 1) := by decide +kernel
theorem d_H_gatherSeen_3 : decode prog_9_method_21_code 3 = .ok (.aload_n 1, 1) := by decide +kernel
theorem d_H_gatherSeen_4 : decode prog_9_method_21_code 4 = .ok (.getfield 84, 3) := by decide +kernel
theorem d_H_gatherSeen_7 : decode prog_9_method_21_code 7 = .ok (.if_icmp .ge 40, 3) := by decide +kernel
theorem d_H_gatherSeen_47 : decode prog_9_method_21_code 47 = .ok (.return_, 1) := by decide +kernel
theorem d_H_gatherSeen_10 : decode prog_9_method_21_code 10 = .ok (.aload_n 0, 1) := by decide +kernel
theorem d_H_gatherSeen_11 : decode prog_9_method_21_code 11 = .ok (.aload_n 1, 1) := by decide +kernel
theorem d_H_gatherSeen_12 : decode prog_9_method_21_code 12 = .ok (.iload_n 3, 1) := by decide +kernel
theorem d_H_gatherSeen_13 : decode prog_9_method_21_code 13 = .ok (.invokevirtual 103, 3) := by decide +kernel
theorem d_H_gatherSeen_16 : decode prog_9_method_21_code 16 = .ok (.ifCond .eq 25, 3) := by decide +kernel
theorem d_H_gatherSeen_41 : decode prog_9_method_21_code 41 = .ok (.iinc 3 1, 3) := by decide +kernel
theorem d_H_gatherSeen_44 : decode prog_9_method_21_code 44 = .ok (.goto (-42), 3) := by decide +kernel
theorem d_H_gatherSeen_19 : decode prog_9_method_21_code 19 = .ok (.aload_n 2, 1) := by decide +kernel
theorem d_H_gatherSeen_20 : decode prog_9_method_21_code 20 = .ok (.aload_n 1, 1) := by decide +kernel
theorem d_H_gatherSeen_21 : decode prog_9_method_21_code 21 = .ok (.getfield 87, 3) := by decide +kernel
theorem d_H_gatherSeen_24 : decode prog_9_method_21_code 24 = .ok (.iload_n 3, 1) := by decide +kernel
theorem d_H_gatherSeen_25 : decode prog_9_method_21_code 25 = .ok (.iaload, 1) := by decide +kernel
theorem d_H_gatherSeen_26 : decode prog_9_method_21_code 26 = .ok (.aload_n 1, 1) := by decide +kernel
theorem d_H_gatherSeen_27 : decode prog_9_method_21_code 27 = .ok (.getfield 90, 3) := by decide +kernel
theorem d_H_gatherSeen_30 : decode prog_9_method_21_code 30 = .ok (.iload_n 3, 1) := by decide +kernel
theorem d_H_gatherSeen_31 : decode prog_9_method_21_code 31 = .ok (.laload, 1) := by decide +kernel
theorem d_H_gatherSeen_32 : decode prog_9_method_21_code 32 = .ok (.aload_n 1, 1) := by decide +kernel
theorem d_H_gatherSeen_33 : decode prog_9_method_21_code 33 = .ok (.getfield 117, 3) := by decide +kernel
theorem d_H_gatherSeen_36 : decode prog_9_method_21_code 36 = .ok (.iload_n 3, 1) := by decide +kernel
theorem d_H_gatherSeen_37 : decode prog_9_method_21_code 37 = .ok (.laload, 1) := by decide +kernel
theorem d_H_gatherSeen_38 : decode prog_9_method_21_code 38 = .ok (.invokevirtual 120, 3) := by decide +kernel
theorem w1250 : Cond.fieldLinkNest "SeriesVault$Shelf" 117 "SeriesVault$Parcel" "values" "[J" "SeriesVault" ∈ aW := aw_of (tb_6 (List.mem_of_getElem? (i := 52) rfl)) rfl
theorem w1251 : Cond.methodLink "SeriesVault$Shelf" 120 ⟨"SeriesVault$Points", "add", "(IJJ)V"⟩ ∈ aW := aw_of (tb_6 (List.mem_of_getElem? (i := 127) rfl)) rfl
set_option maxHeartbeats 4000000 in
set_option maxRecDepth 100000 in
theorem v_gatherSeen (l : Launch) (D : va_G) (dA : Nat → ClassId) (sz : Nat) (h : Nat) (ad : Nat → Nat) (x : VS) (pp : Nat) (P : PT) (hpp : isPc dA x.pl pp P) (hpk : pcOk P) (h1 : x.nsc ≤ 64) (h7 : ∀ q : Nat, q < x.nsc → x.nsO q < 2 ^ 31) (hs1 : x.gsize ≤ x.gN) (hs2 : 0 < x.gN) (hs3 : capR x.gN x.gsize (cnt P.n (x.sePc P)) ≤ 32768) : Met l ⟨"SeriesVault$Shelf", "gatherSeen", "(LSeriesVault$Parcel;LSeriesVault$Points;)V"⟩ [Cond.code ⟨"SeriesVault$Shelf", "gatherSeen", "(LSeriesVault$Parcel;LSeriesVault$Points;)V"⟩ prog_9_method_21_code 4 none] { frames := 3, cells := 3 * (capR x.gN x.gsize (cnt P.n (x.sePc P)) - x.gN), slots := 6 * (capR x.gN x.gsize (cnt P.n (x.sePc P)) - x.gN), locals := 87 } (pC D dA [.ref (ad 3), .ref pp, .ref (ad 2)] (VW dA h ad x) sz) (va_Qv (fun (u9 : VS) => gaR x P P.n u9) (fun (u9 : VS) t9 => bW D (va_A (VW dA h ad x) sz) (VW dA h ad u9) t9) (va_A (VW dA h ad x) sz)) (3 * (capR x.gN x.gsize (cnt P.n (x.sePc P)) - x.gN)) (6 * (capR x.gN x.gsize (cnt P.n (x.sePc P)) - x.gN)) (va_A (VW dA h ad x) sz) := by
  refine mkC (y := ⟨"SeriesVault$Shelf", "gatherSeen", "(LSeriesVault$Parcel;LSeriesVault$Points;)V"⟩) (cc := prog_9_method_21_code) (maxL := 4) (av := [.ref (ad 3), .ref pp, .ref (ad 2)]) (ws := VW dA h ad x) (sz := sz) (Qc := fun A => va_Qv (fun (u9 : VS) => gaR x P P.n u9) (fun (u9 : VS) t9 => bW D A (VW dA h ad u9) t9) A) (by decide) (Nat.le_of_ble_eq_true rfl) ?_
  intro A p e s m below meth c ls hsz hB
  obtain ⟨hx, hb, hr, hml, hown, hin, hlk, hE, hK, hP, hD, hS, hA, hN, hl⟩ := hB
  have hown : s.vm.findClass "SeriesVault$Shelf" = some m.cls := hown
  have hl : lv_has ls 4 [(0, .ref (ad 3)), (1, .ref pp), (2, .ref (ad 2))] := hl
  obtain ⟨H, hH⟩ : ∃ z, z = s.heap := ⟨_, rfl⟩
  have hP : va_P D vwCl (VW dA h ad x) H := by rw [hH]; exact hP
  have hS : va_S A s.heap H [] := by rw [hH]; exact hS
  rw [← hH]
  have pk1 := hpk.1
  have pk2 := hpk.2
  have hpp0 := hpp
  obtain ⟨po, pt, pv, m1, m2, m3, m4⟩ := hpp
  refine lv_iconst (v := 0) hx hb d_H_gatherSeen_0 (by decide) ?_
  refine lv_istore_n hx hb d_H_gatherSeen_1 rfl hl (by decide) rfl (fun ls hl => ?_)
  have hl : lv_has ls 4 [(3, .int 0), (0, .ref (ad 3)), (1, .ref pp), (2, .ref (ad 2))] := hl
  have L2 : ∀ (k9 : Nat) (i : Nat) (z : VS) (i1 : i ≤ P.n) (hr0 : gaR x P i z) (hk9 : P.n - i = k9), ∀ (H : Heap) (locs : List Loc) (ls : Array Slot) (hP : va_P D vwCl (VW dA h ad z) H) (hD : va_D A (VW dA h ad z)) (hS : va_S A s.heap H locs) (hl : lv_has ls 4 [(3, .int (nI i)), (0, .ref (ad 3)), (1, .ref pp), (2, .ref (ad 2))]), W p l e ({ frames := 3, cells := 3 * (capR x.gN x.gsize (cnt P.n (x.sePc P)) - x.gN), slots := 6 * (capR x.gN x.gsize (cnt P.n (x.sePc P)) - x.gN), locals := 87 } : Room) s m ([.ref (ad 3), .ref pp, .ref (ad 2)] : List Value).toArray below meth c H locs (3 * (z.gN - x.gN)) (6 * (z.gN - x.gN)) (MQ below (va_Qv (fun (u9 : VS) => gaR x P P.n u9) (fun (u9 : VS) t9 => bW D A (VW dA h ad u9) t9) A) ([.ref (ad 3), .ref pp, .ref (ad 2)] : List Value).toArray s (3 * (capR x.gN x.gsize (cnt P.n (x.sePc P)) - x.gN)) (6 * (capR x.gN x.gsize (cnt P.n (x.sePc P)) - x.gN)) A) (F0 m 2 ls []) := by
    intro k9
    induction k9 using Nat.strongRecOn with
    | ind k9 ih2 =>
      intro i z i1 hr0 hk9 H locs ls hP hD hS hl
      have hr1 := hr0
      obtain ⟨hg, q1, q2, q3, q4⟩ := hr1
      have hg : z = x.gkS z := hg
      have ep : z.pl = x.pl := (congrArg VS.pl hg).trans (rfl : (x.gkS z).pl = x.pl)
      have es : z.sePc = x.sePc := (congrArg VS.sePc hg).trans (rfl : (x.gkS z).sePc = x.sePc)
      have en : z.nsc = x.nsc := (congrArg VS.nsc hg).trans (rfl : (x.gkS z).nsc = x.nsc)
      have eo : z.nsO = x.nsO := (congrArg VS.nsO hg).trans (rfl : (x.gkS z).nsO = x.nsO)
      have cm1 := capR_m x.gN x.gsize (Nat.zero_le (cnt i (x.sePc P)))
      have cm0 : capR x.gN x.gsize 0 = x.gN := rfl
      have cm2 := capR_m x.gN x.gsize (cnt_mono (f := x.sePc P) i1)
      rw [← ep] at m1 m2 m3 m4 hpp0
      refine lv_iload_n hx hb d_H_gatherSeen_2 rfl (lv_at hl 0 rfl) ?_
      refine lv_aload_n hx hb d_H_gatherSeen_3 rfl (lv_at hl 2 rfl) ?_
      obtain ⟨qp1, ep2⟩ := plv (dA := dA) (h := h) (ad := ad) (x := z) m1
      refine gFN (v := .int (nI P.n)) hx hb hown hE hK hP qp1 ep2 rfl layC 3 (by decide) w1176 rfl d_H_gatherSeen_4 ?_
      refine lv_icmp_ge hx hb d_H_gatherSeen_7 (tgt := 47) rfl (fun g3 => ?_) (fun g3 => ?_)
      · have g3 := (nI_leI (a := P.n) (b := i) (by omega) (by omega)).mp g3
        exact rfV hx hb hr hlk hS z (by rw [← show i = P.n by omega]; exact hr0) hP hD (show 3 * (z.gN - x.gN) ≤ 3 * (capR x.gN x.gsize (cnt P.n (x.sePc P)) - x.gN) by omega) (show 6 * (z.gN - x.gN) ≤ 6 * (capR x.gN x.gsize (cnt P.n (x.sePc P)) - x.gN) by omega) d_H_gatherSeen_47
      · have g3 := mt (nI_leI (a := P.n) (b := i) (by omega) (by omega)).mpr g3
        refine lv_aload_n hx hb d_H_gatherSeen_10 rfl (lv_at hl 1 rfl) ?_
        refine lv_aload_n hx hb d_H_gatherSeen_11 rfl (lv_at hl 2 rfl) ?_
        refine lv_iload_n hx hb d_H_gatherSeen_12 rfl (lv_at hl 0 rfl) ?_
        refine jfI (rnV (As := [.ref pp, .int (nI i)]) (rest := []) hx hb hml hown hE hK (hN _ _ hS) hP hD (v_sees l D dA H.size h ad z pp P i hpp0 hpk (by rw [en]; exact h1) (by rw [en, eo]; exact h7) (show i < P.n from by omega)) (q0 := 17) rfl rfl w1178 w1177 w1179 w1180 w583 rfl rfl ⟨⟨by decide, by decide⟩, rfl⟩ ⟨(Nat.le_of_ble_eq_true rfl), (Nat.le_of_ble_eq_true rfl)⟩ rfl hl.1 rfl (Nat.le_of_ble_eq_true rfl) d_H_gatherSeen_13 ⟨(show 3 * (z.gN - x.gN) + 0 ≤ 3 * (capR x.gN x.gsize (cnt P.n (x.sePc P)) - x.gN) by omega), (show 6 * (z.gN - x.gN) + 0 ≤ 6 * (capR x.gN x.gsize (cnt P.n (x.sePc P)) - x.gN) by omega)⟩) hP hD hS hA (fun r4 u5 H locs hp9 hP hD hS => ?_)
        have hP : va_P D vwCl (VW dA h ad z) H := hP
        have hD : va_D A (VW dA h ad z) := hD
        replace hp9 : bI (z.sePc P i) = r4 := Eq.symm hp9
        subst hp9
        refine lv_if_eq hx hb d_H_gatherSeen_16 (tgt := 41) rfl (fun g6 => ?_) (fun g6 => ?_)
        · have g6 := bI_0 g6
          refine lv_iinc (k := 0) (v := nI (i + 1)) hx hb d_H_gatherSeen_41 hl rfl (iincN (i) 1 1 (by decide)) (by decide) rfl (fun ls hl => ?_)
          have hl : lv_has ls 4 [(3, .int (nI (i + 1))), (0, .ref (ad 3)), (1, .ref pp), (2, .ref (ad 2))] := hl
          refine lv_goto hx hb d_H_gatherSeen_44 (tgt := 2) rfl ?_
          refine W.widen (k := 3 * (z.gN - x.gN)) (n := 6 * (z.gN - x.gN)) (by omega) (by omega) ?_
          exact ih2 _ (by omega) (i + 1) z (by omega) (gaR_f hr0 (by rw [← es]; exact g6)) rfl H _ ls hP hD hS (lv_sub hl [0, 1, 2, 3] rfl)
        · have g6 := bI_n0 g6
          have hse : x.sePc P i = true := by rw [← es]; exact g6
          have cm3 := capR_m x.gN x.gsize (show cnt i (x.sePc P) + 1 ≤ cnt P.n (x.sePc P) from cnt_lt (by omega) hse)
          have gc : z.gcap = capR x.gN x.gsize (cnt i (x.sePc P) + 1) := by show (if z.gsize = z.gN then 2 * z.gsize else z.gN) = if x.gsize + cnt i (x.sePc P) = capR x.gN x.gsize (cnt i (x.sePc P)) then 2 * (x.gsize + cnt i (x.sePc P)) else capR x.gN x.gsize (cnt i (x.sePc P)); rw [q3, q1]
          have cm4 := capR_s x.gN x.gsize (cnt i (x.sePc P))
          refine lv_aload_n hx hb d_H_gatherSeen_19 rfl (lv_at hl 3 rfl) ?_
          refine lv_aload_n hx hb d_H_gatherSeen_20 rfl (lv_at hl 2 rfl) ?_
          obtain ⟨qp7, ep8⟩ := plv (dA := dA) (h := h) (ad := ad) (x := z) m1
          refine gFN (v := .ref po) hx hb hown hE hK hP qp7 ep8 rfl layC 0 (by decide) w1171 rfl d_H_gatherSeen_21 ?_
          refine lv_iload_n hx hb d_H_gatherSeen_24 rfl (lv_at hl 0 rfl) ?_
          obtain ⟨qp9, ep10⟩ := plv (dA := dA) (h := h) (ad := ad) (x := z) m2
          refine nild (f := (fun k => nI (P.o k))) (n := P.n) hx hb hK hP qp9 1 ep10 rfl (i) (by omega) (by omega) d_H_gatherSeen_25 ?_
          refine lv_aload_n hx hb d_H_gatherSeen_26 rfl (lv_at hl 2 rfl) ?_
          obtain ⟨qp11, ep12⟩ := plv (dA := dA) (h := h) (ad := ad) (x := z) m1
          refine gFN (v := .ref pt) hx hb hown hE hK hP qp11 ep12 rfl layC 1 (by decide) w1170 rfl d_H_gatherSeen_27 ?_
          refine lv_iload_n hx hb d_H_gatherSeen_30 rfl (lv_at hl 0 rfl) ?_
          obtain ⟨qp13, ep14⟩ := plv (dA := dA) (h := h) (ad := ad) (x := z) m3
          refine nlld (f := P.t) (n := P.n) hx hb hK hP qp13 2 ep14 rfl (i) (by omega) (by omega) d_H_gatherSeen_31 ?_
          refine lv_aload_n hx hb d_H_gatherSeen_32 rfl (lv_at hl 2 rfl) ?_
          obtain ⟨qp15, ep16⟩ := plv (dA := dA) (h := h) (ad := ad) (x := z) m1
          refine gFN (v := .ref pv) hx hb hown hE hK hP qp15 ep16 rfl layC 2 (by decide) w1250 rfl d_H_gatherSeen_33 ?_
          refine lv_iload_n hx hb d_H_gatherSeen_36 rfl (lv_at hl 0 rfl) ?_
          obtain ⟨qp17, ep18⟩ := plv (dA := dA) (h := h) (ad := ad) (x := z) m4
          refine nlld (f := P.v) (n := P.n) hx hb hK hP qp17 2 ep18 rfl (i) (by omega) (by omega) d_H_gatherSeen_37 ?_
          refine jfV (rnV (As := [.int (nI (P.o i)), .long (P.t i), .long (P.v i)]) (rest := []) hx hb hml hown hE hK (hN _ _ hS) hP hD (v_paddF_g l D dA H.size h ad z (P.o i) (P.t i) (P.v i) q2 (show 0 < z.gN from by omega) (show z.gN ≤ 32768 from by omega)) (q0 := 13) rfl rfl w1106 w1251 w1107 w1108 w578 rfl rfl ⟨⟨by decide, by decide⟩, rfl⟩ ⟨(Nat.le_of_ble_eq_true rfl), (Nat.le_of_ble_eq_true rfl)⟩ rfl hl.1 rfl (Nat.le_of_ble_eq_true rfl) d_H_gatherSeen_38 ⟨(show 3 * (z.gN - x.gN) + 0 + (3 * (z.gcap - z.gN)) ≤ 3 * (capR x.gN x.gsize (cnt P.n (x.sePc P)) - x.gN) by omega), (show 6 * (z.gN - x.gN) + 0 + (6 * (z.gcap - z.gN)) ≤ 6 * (capR x.gN x.gsize (cnt P.n (x.sePc P)) - x.gN) by omega)⟩) hP hD hS hA (fun u20 H locs hp9 hP hD hS => ?_)
          obtain ⟨y21, h9u⟩ : ∃ z9, z9 = u20 := ⟨_, rfl⟩
          subst h9u
          have hP : va_P D vwCl (VW dA h ad y21) H := hP
          have hD : va_D A (VW dA h ad y21) := hD
          have f_e_22 := hp9
          refine lv_iinc (k := 0) (v := nI (i + 1)) hx hb d_H_gatherSeen_41 hl rfl (iincN (i) 1 1 (by decide)) (by decide) rfl (fun ls hl => ?_)
          have hl : lv_has ls 4 [(3, .int (nI (i + 1))), (0, .ref (ad 3)), (1, .ref pp), (2, .ref (ad 2))] := hl
          refine lv_goto hx hb d_H_gatherSeen_44 (tgt := 2) rfl ?_
          refine W.widen (k := 3 * (y21.gN - x.gN)) (n := 6 * (y21.gN - x.gN)) (by obtain ⟨pa, h9⟩ := f_e_22; have := (gaF_sz z pa (P.o i) (P.t i) (P.v i)).2.1; rw [← h9] at this; omega) (by obtain ⟨pa, h9⟩ := f_e_22; have := (gaF_sz z pa (P.o i) (P.t i) (P.v i)).2.1; rw [← h9] at this; omega) ?_
          exact ih2 _ (by omega) (i + 1) y21 (by omega) (by obtain ⟨pa, h9⟩ := f_e_22; exact gaR_t hr0 hs2 hse h9) rfl H _ ls hP hD hS (lv_sub hl [0, 1, 2, 3] rfl)
  refine W.widen (k := 3 * (x.gN - x.gN)) (n := 6 * (x.gN - x.gN)) (by omega) (by omega) ?_
  exact L2 _ 0 x (Nat.zero_le _) (gaR_0 P hs1) rfl H _ ls hP hD hS (lv_sub hl [0, 1, 2, 3] rfl)
def VS.fr (x : VS) (PS : Nat → PT) : Nat := x.diskBlocks - 2 - x.jlimit - (x.ncat + sumN x.npc (blN PS))
set_option maxHeartbeats 4000000 in
set_option maxRecDepth 100000 in
theorem v_freeBlocks (l : Launch) (D : va_G) (dA : Nat → ClassId) (sz : Nat) (h : Nat) (ad : Nat → Nat) (x : VS) (PS : Nat → PT) (hps : psOk dA x.nP x.npc x.pl PS) (hpn : x.npc ≤ 32) (hfr : x.jlimit + 2 + (x.ncat + sumN x.npc (blN PS)) ≤ x.diskBlocks) : Met l ⟨"SeriesVault", "freeBlocks", "()I"⟩ [Cond.code ⟨"SeriesVault", "freeBlocks", "()I"⟩ prog_1_method_17_code 1 (some FieldType.int)] { frames := 2, cells := 0, slots := 0, locals := 22 } (pC D dA [.ref h] (VW dA h ad x) sz) (va_Qi (fun (r9 : Int32) (u9 : Unit) => r9 = nI (x.fr PS)) (fun (u9 : Unit) t9 => bW D (va_A (VW dA h ad x) sz) (VW dA h ad x) t9) (va_A (VW dA h ad x) sz)) 0 0 (va_A (VW dA h ad x) sz) := by
  refine mkC (y := ⟨"SeriesVault", "freeBlocks", "()I"⟩) (cc := prog_1_method_17_code) (maxL := 1) (av := [.ref h]) (ws := VW dA h ad x) (sz := sz) (Qc := fun A => va_Qi (fun (r9 : Int32) (u9 : Unit) => r9 = nI (x.fr PS)) (fun (u9 : Unit) t9 => bW D A (VW dA h ad x) t9) A) (by decide) (Nat.le_of_ble_eq_true rfl) ?_
  intro A p e s m below meth c ls hsz hB
  obtain ⟨hx, hb, hr, hml, hown, hin, hlk, hE, hK, hP, hD, hS, hA, hN, hl⟩ := hB
  have hown : s.vm.findClass "SeriesVault" = some m.cls := hown
  have hl : lv_has ls 1 [(0, .ref h)] := hl
  obtain ⟨H, hH⟩ : ∃ z, z = s.heap := ⟨_, rfl⟩
  have hP : va_P D vwCl (VW dA h ad x) H := by rw [hH]; exact hP
  have hS : va_S A s.heap H [] := by rw [hH]; exact hS
  rw [← hH]
  refine lv_aload_n hx hb d_V_freeBlocks_0 rfl (lv_at hl 0 rfl) ?_
  refine gF (v := .int (nI x.diskBlocks)) hx hb hown hE hK hP 0 rfl rfl layV 4 (by decide) w571 rfl d_V_freeBlocks_1 ?_
  refine lv_iconst (v := 2) hx hb d_V_freeBlocks_4 (by decide) ?_
  refine lv_isub hx hb d_V_freeBlocks_5 (tpi (y := nI (x.diskBlocks - 2)) (pk_sub (a := x.diskBlocks) (b := 2) (by omega)) ?_)
  refine lv_aload_n hx hb d_V_freeBlocks_6 rfl (lv_at hl 0 rfl) ?_
  refine gF (v := .ref (ad 0)) hx hb hown hE hK hP 0 rfl rfl layV 8 (by decide) w312 rfl d_V_freeBlocks_7 ?_
  refine gFN (v := .int (nI x.jlimit)) hx hb hown hE hK hP 2 rfl rfl layJ 9 (by decide) w636 rfl d_V_freeBlocks_10 ?_
  refine lv_isub hx hb d_V_freeBlocks_13 (tpi (y := nI ((x.diskBlocks - 2) - x.jlimit)) (pk_sub (a := x.diskBlocks - 2) (b := x.jlimit) (by omega)) ?_)
  refine lv_aload_n hx hb d_V_freeBlocks_14 rfl (lv_at hl 0 rfl) ?_
  refine gF (v := .ref (ad 3)) hx hb hown hE hK hP 0 rfl rfl layV 11 (by decide) w297 rfl d_V_freeBlocks_15 ?_
  refine jfI (rnV (As := []) (rest := [.int (nI ((x.diskBlocks - 2) - x.jlimit))]) hx hb hml hown hE hK (hN _ _ hS) hP hD (v_blocksInUse l D dA H.size h ad x PS hps (show x.npc ≤ 32 from by omega)) (q0 := 17) rfl rfl w638 w637 w639 w640 w583 rfl rfl ⟨⟨by decide, by decide⟩, rfl⟩ ⟨(Nat.le_of_ble_eq_true rfl), (Nat.le_of_ble_eq_true rfl)⟩ rfl hl.1 rfl (Nat.le_of_ble_eq_true rfl) d_V_freeBlocks_18 ⟨(Nat.le_of_ble_eq_true rfl), (Nat.le_of_ble_eq_true rfl)⟩) hP hD hS hA (fun r1 u2 H locs hp9 hP hD hS => ?_)
  have hP : va_P D vwCl (VW dA h ad x) H := hP
  have hD : va_D A (VW dA h ad x) := hD
  replace hp9 : nI (x.ncat + sumN x.npc (blN PS)) = r1 := Eq.symm hp9
  subst hp9
  refine lv_isub hx hb d_V_freeBlocks_21 (tpi (y := nI (((x.diskBlocks - 2) - x.jlimit) - (x.ncat + sumN x.npc (blN PS)))) (pk_sub (a := (x.diskBlocks - 2) - x.jlimit) (b := x.ncat + sumN x.npc (blN PS)) (by omega)) ?_)
  exact rfI hx hb hr hlk hS () rfl hP hD (Nat.le_of_ble_eq_true rfl) (Nat.le_of_ble_eq_true rfl) d_V_freeBlocks_22
set_option maxHeartbeats 4000000 in
set_option maxRecDepth 100000 in
theorem v_keepManifest (l : Launch) (D : va_G) (dA : Nat → ClassId) (sz : Nat) (h : Nat) (ad : Nat → Nat) (x : VS) (PS : Nat → PT) (hps : psOk dA x.nP x.npc x.pl PS) (hpn : x.npc ≤ 32) (h1 : x.nsc ≤ 64) (h7 : ∀ q : Nat, q < x.nsc → x.nsO q < 2 ^ 31) : Met l ⟨"SeriesVault", "keepManifest", "()V"⟩ [Cond.code ⟨"SeriesVault", "keepManifest", "()V"⟩ prog_1_method_42_code 1 none] { frames := 4, cells := 0, slots := 0, locals := 69 } (pC D dA [.ref h] (VW dA h ad x) sz) (va_Qv (fun (u9 : Unit) => True) (fun (u9 : Unit) t9 => bW D (va_A (VW dA h ad x) sz) (VW dA h ad (VS.s_shor (VS.s_ssc (VS.s_ssT (VS.s_ssF (VS.s_ssO (VS.s_spc (VS.s_sP (VS.s_nsc (VS.s_nsP (VS.s_nsT (VS.s_nsF (VS.s_nsO x (tdT (x.esC PS) x.nsO x.nsc)) (tdT (x.esC PS) x.nsF x.nsc)) (tdT (x.esC PS) x.nsT x.nsc)) (x.esG PS)) (cnt x.nsc (x.esC PS))) (va_cpy x.nP x.sP 0 0 x.npc)) x.npc) (va_cpy (tdT (x.esC PS) x.nsO x.nsc) x.ssO 0 0 (cnt x.nsc (x.esC PS)))) (va_cpy (tdT (x.esC PS) x.nsF x.nsc) x.ssF 0 0 (cnt x.nsc (x.esC PS)))) (va_cpy (tdT (x.esC PS) x.nsT x.nsc) x.ssT 0 0 (cnt x.nsc (x.esC PS)))) (cnt x.nsc (x.esC PS))) x.nhor)) t9) (va_A (VW dA h ad x) sz)) 0 0 (va_A (VW dA h ad x) sz) := by
  refine mkC (y := ⟨"SeriesVault", "keepManifest", "()V"⟩) (cc := prog_1_method_42_code) (maxL := 1) (av := [.ref h]) (ws := VW dA h ad x) (sz := sz) (Qc := fun A => va_Qv (fun (u9 : Unit) => True) (fun (u9 : Unit) t9 => bW D A (VW dA h ad (VS.s_shor (VS.s_ssc (VS.s_ssT (VS.s_ssF (VS.s_ssO (VS.s_spc (VS.s_sP (VS.s_nsc (VS.s_nsP (VS.s_nsT (VS.s_nsF (VS.s_nsO x (tdT (x.esC PS) x.nsO x.nsc)) (tdT (x.esC PS) x.nsF x.nsc)) (tdT (x.esC PS) x.nsT x.nsc)) (x.esG PS)) (cnt x.nsc (x.esC PS))) (va_cpy x.nP x.sP 0 0 x.npc)) x.npc) (va_cpy (tdT (x.esC PS) x.nsO x.nsc) x.ssO 0 0 (cnt x.nsc (x.esC PS)))) (va_cpy (tdT (x.esC PS) x.nsF x.nsc) x.ssF 0 0 (cnt x.nsc (x.esC PS)))) (va_cpy (tdT (x.esC PS) x.nsT x.nsc) x.ssT 0 0 (cnt x.nsc (x.esC PS)))) (cnt x.nsc (x.esC PS))) x.nhor)) t9) A) (by decide) (Nat.le_of_ble_eq_true rfl) ?_
  intro A p e s m below meth c ls hsz hB
  obtain ⟨hx, hb, hr, hml, hown, hin, hlk, hE, hK, hP, hD, hS, hA, hN, hl⟩ := hB
  have hown : s.vm.findClass "SeriesVault" = some m.cls := hown
  have hl : lv_has ls 1 [(0, .ref h)] := hl
  obtain ⟨H, hH⟩ : ∃ z, z = s.heap := ⟨_, rfl⟩
  have hP : va_P D vwCl (VW dA h ad x) H := by rw [hH]; exact hP
  have hS : va_S A s.heap H [] := by rw [hH]; exact hS
  rw [← hH]
  refine lv_aload_n hx hb d_V_keepManifest_0 rfl (lv_at hl 0 rfl) ?_
  refine gF (v := .ref (ad 3)) hx hb hown hE hK hP 0 rfl rfl layV 11 (by decide) w297 rfl d_V_keepManifest_1 ?_
  refine jfV (rnV (As := []) (rest := []) hx hb hml hown hE hK (hN _ _ hS) hP hD (v_endScars l D dA H.size h ad x PS hps (show x.npc ≤ 32 from by omega) (show x.nsc ≤ 64 from by omega) h7) (q0 := 17) rfl rfl w724 w723 w725 w726 w583 rfl rfl ⟨⟨by decide, by decide⟩, rfl⟩ ⟨(Nat.le_of_ble_eq_true rfl), (Nat.le_of_ble_eq_true rfl)⟩ rfl hl.1 rfl (Nat.le_of_ble_eq_true rfl) d_V_keepManifest_4 ⟨(Nat.le_of_ble_eq_true rfl), (Nat.le_of_ble_eq_true rfl)⟩) hP hD hS hA (fun u2 H locs hp9 hP hD hS => ?_)
  have hP : va_P D vwCl (VW dA h ad (VS.s_nsc (VS.s_nsP (VS.s_nsT (VS.s_nsF (VS.s_nsO x (tdT (x.esC PS) x.nsO x.nsc)) (tdT (x.esC PS) x.nsF x.nsc)) (tdT (x.esC PS) x.nsT x.nsc)) (x.esG PS)) (cnt x.nsc (x.esC PS)))) H := hP
  have hD : va_D A (VW dA h ad (VS.s_nsc (VS.s_nsP (VS.s_nsT (VS.s_nsF (VS.s_nsO x (tdT (x.esC PS) x.nsO x.nsc)) (tdT (x.esC PS) x.nsF x.nsc)) (tdT (x.esC PS) x.nsT x.nsc)) (x.esG PS)) (cnt x.nsc (x.esC PS)))) := hD
  refine lv_aload_n hx hb d_V_keepManifest_7 rfl (lv_at hl 0 rfl) ?_
  refine gF (v := .ref (ad 10)) hx hb hown hE hK hP 0 rfl rfl layV 12 (by decide) w587 rfl d_V_keepManifest_8 ?_
  refine lv_aload_n hx hb d_V_keepManifest_11 rfl (lv_at hl 0 rfl) ?_
  refine gF (v := .ref (ad 3)) hx hb hown hE hK hP 0 rfl rfl layV 11 (by decide) w297 rfl d_V_keepManifest_12 ?_
  refine jfV (rnV (As := [.ref (ad 3)]) (rest := []) hx hb hml hown hE hK (hN _ _ hS) hP hD (v_takeParcels_s l D dA H.size h ad (VS.s_nsc (VS.s_nsP (VS.s_nsT (VS.s_nsF (VS.s_nsO x (tdT (x.esC PS) x.nsO x.nsc)) (tdT (x.esC PS) x.nsF x.nsc)) (tdT (x.esC PS) x.nsT x.nsc)) (x.esG PS)) (cnt x.nsc (x.esC PS))) PS hps (show x.npc ≤ 32 from by omega) (show cnt x.nsc (x.esC PS) ≤ 64 from Nat.le_trans (cnt_le _ _) h1)) (q0 := 24) rfl rfl w728 w727 w729 w730 w583 rfl rfl ⟨⟨by decide, by decide⟩, rfl⟩ ⟨(Nat.le_of_ble_eq_true rfl), (Nat.le_of_ble_eq_true rfl)⟩ rfl hl.1 rfl (Nat.le_of_ble_eq_true rfl) d_V_keepManifest_15 ⟨(Nat.le_of_ble_eq_true rfl), (Nat.le_of_ble_eq_true rfl)⟩) hP hD hS hA (fun u4 H locs hp9 hP hD hS => ?_)
  have hP : va_P D vwCl (VW dA h ad (VS.s_shor (VS.s_ssc (VS.s_ssT (VS.s_ssF (VS.s_ssO (VS.s_spc (VS.s_sP (VS.s_nsc (VS.s_nsP (VS.s_nsT (VS.s_nsF (VS.s_nsO x (tdT (x.esC PS) x.nsO x.nsc)) (tdT (x.esC PS) x.nsF x.nsc)) (tdT (x.esC PS) x.nsT x.nsc)) (x.esG PS)) (cnt x.nsc (x.esC PS))) (va_cpy x.nP x.sP 0 0 x.npc)) x.npc) (va_cpy (tdT (x.esC PS) x.nsO x.nsc) x.ssO 0 0 (cnt x.nsc (x.esC PS)))) (va_cpy (tdT (x.esC PS) x.nsF x.nsc) x.ssF 0 0 (cnt x.nsc (x.esC PS)))) (va_cpy (tdT (x.esC PS) x.nsT x.nsc) x.ssT 0 0 (cnt x.nsc (x.esC PS)))) (cnt x.nsc (x.esC PS))) x.nhor)) H := hP
  have hD : va_D A (VW dA h ad (VS.s_shor (VS.s_ssc (VS.s_ssT (VS.s_ssF (VS.s_ssO (VS.s_spc (VS.s_sP (VS.s_nsc (VS.s_nsP (VS.s_nsT (VS.s_nsF (VS.s_nsO x (tdT (x.esC PS) x.nsO x.nsc)) (tdT (x.esC PS) x.nsF x.nsc)) (tdT (x.esC PS) x.nsT x.nsc)) (x.esG PS)) (cnt x.nsc (x.esC PS))) (va_cpy x.nP x.sP 0 0 x.npc)) x.npc) (va_cpy (tdT (x.esC PS) x.nsO x.nsc) x.ssO 0 0 (cnt x.nsc (x.esC PS)))) (va_cpy (tdT (x.esC PS) x.nsF x.nsc) x.ssF 0 0 (cnt x.nsc (x.esC PS)))) (va_cpy (tdT (x.esC PS) x.nsT x.nsc) x.ssT 0 0 (cnt x.nsc (x.esC PS)))) (cnt x.nsc (x.esC PS))) x.nhor)) := hD
  exact rfV hx hb hr hlk hS () trivial hP hD (Nat.le_of_ble_eq_true rfl) (Nat.le_of_ble_eq_true rfl) d_V_keepManifest_18
