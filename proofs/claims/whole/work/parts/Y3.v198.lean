/-! A new disk: both sides. -/
section FM
variable {m : MS} {x : VS} {PS : Nat → PT}
theorem fm_co (hm : m.points = 0 ∧ m.parcelCount = 0 ∧ m.horizon = 0 ∧ m.baseHorizon = 0 ∧ m.seriesCount = 0 ∧ m.baseSeries = 0 ∧ m.catalogBlocks = 0) (hj : m.records = 0 ∧ m.kept = 0 ∧ m.block = 0 ∧ m.used = 0 ∧ m.fresh = false ∧ m.cutLeft = x.cutLeft ∧ m.written = x.writes ∧ m.journal = x.jlimit) (hd : m.deletes ≤ 2 ^ 29 ∧ m.parcelNumber ≤ 2 ^ 29) (hx : x.hsize = 0 ∧ x.npc = 0 ∧ x.nhor = 0 ∧ x.nsc = 0 ∧ x.nser = 0 ∧ x.ncat = 0) (hs : x.spc = 0 ∧ x.shor = 0 ∧ x.ssc = 0 ∧ x.sser = 0 ∧ x.scat = 0) (hk : x.jsize = 0 ∧ x.jkept = 0 ∧ x.junits = 0 ∧ x.jblock = 0 ∧ x.jfill = 0 ∧ x.jch = false) : coR m x PS (fun _ => 0) (fun _ => 0) := by
  obtain ⟨m1, m2, m3, m4, m5, m6, m7⟩ := hm
  obtain ⟨j1, j2, j3, j4, j5, j6, j7, j8⟩ := hj
  obtain ⟨x1, x2, x3, x4, x5, x6⟩ := hx
  obtain ⟨s1, s2, s3, s4, s5⟩ := hs
  obtain ⟨k1, k2, k3, k4, k5, k6⟩ := hk
  have eS : scL x = [] := by unfold scL; rw [x4]; rfl
  have eH : hdL x = [] := by unfold hdL; rw [x1]; rfl
  have eV : svA x = (0, x.slast, [], []) := by
    unfold svA
    rw [s4, s3]
    rfl
  have eR : rpV PS x x.jsize = (0, x.slast, [], []) := by
    unfold rpV
    rw [k1]
    exact eV
  refine ⟨⟨⟨⟨?_, fun q hq => by omega⟩, by rw [m2, x2], by rw [m3, x3], fun k hk => by omega⟩, ⟨fun q hq => by omega, ⟨fun j hj => by omega, fun i j _ hj => by omega⟩, fun j hj => by omega, hd.1⟩, ⟨fun q hq => by omega, fun i j hi => by omega, fun k hk => by omega, hd.2⟩, ⟨fun i j p r _ hj => by omega, fun k p r hk => by omega⟩, ⟨fun q hq => by omega, fun q hq => by omega, fun p r _ hr => by omega⟩, fun q hq => by omega⟩, ⟨⟨fun q hq => by omega, ⟨fun j hj => by omega, fun i j _ hj => by omega⟩, fun j hj => by omega⟩, ⟨by rw [m4, s2], by rw [m4, m3], by omega, fun k hk => by omega⟩, fun q hq => by omega, by omega, fun s hs => by omega, by omega, by omega⟩, ⟨by omega, fun s hs => by omega⟩, ⟨by omega, by omega, by omega, by omega, by rw [j5, k6], j6, j7, j8, by rw [k1, k3]; rfl, fun _ => by omega, fun r hr => by omega⟩, ⟨?_, fun r hr => by omega, fun K h1 h2 => ?_⟩, by omega, by omega⟩
  · rw [x1, m1]
    rfl
  · rw [eR]
    exact ⟨x5.symm, fun s hs => by omega, eH.symm, eS.symm⟩
  · have e : K = x.jsize := by omega
    rw [e, eR]
    exact ⟨fun p hp => absurd hp List.not_mem_nil, fun c hc => absurd hc List.not_mem_nil⟩
end FM
theorem nh_0 : ¬ (0 : Int64) < 0 := by decide
section R0
variable {dA : Nat → ClassId} {e0 tp : Nat} {jA hA gA bA : Nat → Nat} {qt : Nat} {ad : Nat → Nat} {zq : Nat} {ta : Nat → Nat} {cA : Nat}
/-- as both are made -/
theorem rl_0 : Rl dA ad e0 0 (x9 dA e0 tp jA hA gA bA qt ad zq ta cA) m9 92 1177737 := by
  refine ⟨fun _ => mkP 0 (fun _ => 0) (fun _ => 0) (fun _ => 0), fun _ => [], fun _ => 0, fun _ => 0, (0, 0, e0, 0, fun _ => none), LiW dA (fun _ => ad 25) (1, 0 + 1, zq, 10, va_up (fun _ => none) 0 (some (ta 0))) ++ (tbs dA (fun _ => ta) (fun _ => tb0 cA) 1 ++ []), fun _ => ad 25, (1, 0 + 1, zq, 10, va_up (fun _ => none) 0 (some (ta 0))), fun _ => ta, fun _ => tb0 cA, ?_, ?_, ?_, ?_, ?_, ?_⟩
  · exact fm_co ⟨rfl, rfl, rfl, rfl, rfl, rfl, rfl⟩ ⟨rfl, rfl, rfl, rfl, rfl, rfl, rfl, rfl⟩ ⟨Nat.zero_le _, Nat.zero_le _⟩ ⟨rfl, rfl, rfl, rfl, rfl, rfl⟩ ⟨rfl, rfl, rfl, rfl, rfl⟩ ⟨rfl, rfl, rfl, rfl, rfl, rfl⟩
  · exact ⟨⟨rfl, rfl, fun _ _ => rfl, byteF_0⟩, ⟨Nat.zero_le _, Nat.le_refl 256, Nat.le_of_ble_eq_true rfl⟩, ⟨rfl, rfl⟩, rfl, Nat.le_of_ble_eq_true rfl, rfl⟩
  · exact ⟨fun s hs => absurd hs (Nat.not_lt_zero s), fun s hs => absurd hs (Nat.not_lt_zero s), fun s hs => absurd hs (Nat.not_lt_zero s), byteF_0, fun s hs => absurd hs (Nat.not_lt_zero s)⟩
  · exact ⟨⟨Nat.zero_le _, Nat.zero_le _, Nat.zero_le _, fun s hs => absurd hs (Nat.not_lt_zero s)⟩, ⟨Nat.le_of_ble_eq_true rfl, Nat.zero_le _, Nat.le_of_ble_eq_true rfl⟩, ⟨Nat.zero_le _, Nat.le_of_ble_eq_true rfl, Nat.le_of_ble_eq_true rfl, Nat.zero_le _, Nat.le_of_ble_eq_true rfl, Nat.le_of_ble_eq_true rfl, Nat.le_of_ble_eq_true rfl, Nat.le_of_ble_eq_true rfl⟩, ⟨Nat.le_refl 0, Nat.le_refl 0, Nat.le_refl 0, Nat.le_refl 0⟩, ⟨Nat.le_refl 0, Nat.le_refl 0, Nat.le_refl 0, fun s hs => absurd hs (Nat.not_lt_zero s)⟩, fun s hs => absurd hs (Nat.not_lt_zero s)⟩
  · refine ⟨⟨rfl, ⟨⟨fun _ => ⟨rfl, rfl⟩, Nat.le_refl 0, Nat.zero_le _⟩, fun i hi => absurd hi (Nat.not_lt_zero i)⟩, ⟨List.Perm.refl _, rfl, Nat.le_of_ble_eq_true rfl, Nat.le_of_ble_eq_true rfl, Nat.le_of_ble_eq_true rfl, fun i hi => ?_⟩, Nat.one_pos⟩, ⟨Nat.zero_le _, Nat.le_of_ble_eq_true rfl, Nat.le_of_ble_eq_true rfl, fun tb ht => ?_, Nat.le_of_ble_eq_true rfl⟩, ⟨fun tb _ q a hq => (by cases hq), fun _ => Nat.le_of_ble_eq_true rfl⟩, ⟨rfl, fun h => (by cases h)⟩, ⟨fun q => Nat.zero_le _, fun q => Nat.le_of_ble_eq_true rfl⟩, nh_0⟩
    · have hi : i < 1 := hi
      have e : i = 0 := by omega
      subst e
      show va_up (fun _ => none) 0 (some (ta 0)) 0 = some (ta 0)
      exact va_up_self _ _ _
    · have ht : tb < 1 := ht
      show 64 ≤ (if tb < 1 then 64 else 0) ∧ (if tb < 1 then 64 else 0) ≤ 32768
      rw [if_pos ht]
      omega
  · refine ⟨Nat.zero_le _, Nat.le_of_ble_eq_true rfl, ?_⟩
    show 1177737 + 70 * 0 ≤ 1177800 + 6000 * 0 + 12 * 32 + 6 * 32 + 6 * 32 + 2 * 256 + (700 * 1 + 2 * sumN 1 (fun tb => (tb0 cA).cN) + 4 * 64)
    omega
end R0
