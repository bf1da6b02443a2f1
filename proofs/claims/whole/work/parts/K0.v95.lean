/-! Zero bits above and below: the two ways to count them. -/
theorem shr0 {v : Int64} {j : Nat} (hj : j < 64) : v >>> ((nI j).toInt64 &&& 63) = 0 ↔ v.toBitVec.toNat < 2 ^ j := by
  have hl := v.toBitVec.isLt
  have hc := BitVec.toInt_eq_toNat_cond v.toBitVec
  have hp : (0 : Int) < ((2 ^ j : Nat) : Int) := by exact_mod_cast Nat.two_pow_pos j
  have key : v >>> ((nI j).toInt64 &&& 63) = 0 ↔ v.toBitVec.toInt / ((2 ^ j : Nat) : Int) = 0 := by
    have e0 : (v.toBitVec.sshiftRight j).toInt = v.toBitVec.toInt / ((2 ^ j : Nat) : Int) := by rw [BitVec.toInt_sshiftRight, Int.shiftRight_eq_div_pow]
    constructor
    · intro h
      have := congrArg (fun q : Int64 => q.toBitVec.toInt) h
      rw [← e0, ← shr_bv v hj]
      exact this
    · intro h
      apply Int64.toBitVec_inj.mp
      rw [shr_bv v hj]
      apply BitVec.eq_of_toInt_eq
      rw [e0, h]
      rfl
  rw [key]
  constructor
  · intro h
    have h2 := Int.emod_add_mul_ediv v.toBitVec.toInt ((2 ^ j : Nat) : Int)
    have h3 := Int.emod_nonneg v.toBitVec.toInt (Int.ne_of_gt hp)
    have h4 := Int.emod_lt_of_pos v.toBitVec.toInt hp
    rw [h, Int.mul_zero, Int.add_zero] at h2
    have q1 : 0 ≤ v.toBitVec.toInt := by omega
    have q3 : (v.toBitVec.toNat : Int) = v.toBitVec.toInt := by
      rw [hc] at q1 ⊢
      split
      · rfl
      · rename_i g
        rw [if_neg g] at q1
        omega
    have : (v.toBitVec.toNat : Int) < ((2 ^ j : Nat) : Int) := by rw [q3]; omega
    exact_mod_cast this
  · intro h
    have h63 : 2 ^ j ≤ 2 ^ 63 := Nat.pow_le_pow_right (by decide) (by omega)
    have e : v.toBitVec.toInt = (v.toBitVec.toNat : Int) := by
      rw [hc, if_pos (by omega)]
    rw [e]
    exact Int.ediv_eq_zero_of_lt (by omega) (by exact_mod_cast h)
theorem shl0 {v : Int64} {j : Nat} (hj : j < 64) : v <<< ((nI j).toInt64 &&& 63) = 0 ↔ 2 ^ (64 - j) ∣ v.toBitVec.toNat := by
  have key : v <<< ((nI j).toInt64 &&& 63) = 0 ↔ v.toBitVec.toNat * 2 ^ j % 2 ^ 64 = 0 := by
    have e0 : (v.toBitVec <<< j).toNat = v.toBitVec.toNat * 2 ^ j % 2 ^ 64 := by rw [BitVec.toNat_shiftLeft, Nat.shiftLeft_eq]
    constructor
    · intro h
      have := congrArg (fun q : Int64 => q.toBitVec.toNat) h
      rw [← e0, ← shl_bv v hj]
      exact this
    · intro h
      apply Int64.toBitVec_inj.mp
      rw [shl_bv v hj]
      apply BitVec.eq_of_toNat_eq
      rw [e0, h]
      rfl
  rw [key]
  have e : (2 : Nat) ^ 64 = 2 ^ (64 - j) * 2 ^ j := by rw [← Nat.pow_add]; congr 1; omega
  constructor
  · intro h
    have := Nat.dvd_of_mod_eq_zero h
    rw [e] at this
    exact Nat.dvd_of_mul_dvd_mul_right (Nat.two_pow_pos j) this
  · intro h
    apply Nat.mod_eq_zero_of_dvd
    rw [e]
    exact Nat.mul_dvd_mul_right h _
theorem hiG_c {v : Int64} (hv : v.toBitVec.toNat ≠ 0) : ∀ (w k : Nat), w + k ≤ 63 → k ≤ clzN v.toBitVec.toNat → hiG v w k = min (k + w) (clzN v.toBitVec.toNat)
  | 0, k, _, h => by show k = _; omega
  | w + 1, k, h1, h => by
    have hl := v.toBitVec.isLt
    have ec : clzN v.toBitVec.toNat = 63 - v.toBitVec.toNat.log2 := if_neg hv
    have hg : v.toBitVec.toNat.log2 < 64 := (Nat.log2_lt hv).mpr hl
    by_cases g : k < clzN v.toBitVec.toNat
    · have hz : v >>> ((nI (63 - k)).toInt64 &&& 63) = 0 := (shr0 (by omega)).mpr ((Nat.log2_lt hv).mp (by omega))
      rw [hiG_s (Nat.succ_pos w) hz]
      show hiG v w (k + 1) = _
      rw [hiG_c hv w (k + 1) (by omega) (by omega)]
      omega
    · have hz : ¬ v >>> ((nI (63 - k)).toInt64 &&& 63) = 0 := fun z => by
        have := (Nat.log2_lt hv).mpr ((shr0 (by omega)).mp z)
        omega
      rw [hiG_n hz]
      omega
theorem loG_c {v : Int64} {t q : Nat} (hq : v.toBitVec.toNat = 2 ^ t * (2 * q + 1)) : ∀ (w k : Nat), w + k ≤ 64 → k ≤ t → loG v w k = min (k + w) t
  | 0, k, _, h => by show k = _; omega
  | w + 1, k, h1, h => by
    have hd : ∀ m : Nat, m ≤ t → 2 ^ m ∣ v.toBitVec.toNat := fun m hm => by rw [hq]; exact Nat.dvd_mul_right_of_dvd (Nat.pow_dvd_pow 2 hm) _
    by_cases g : k < t
    · have hz : v <<< ((nI (63 - k)).toInt64 &&& 63) = 0 := (shl0 (by omega)).mpr (hd _ (by omega))
      rw [loG_s (Nat.succ_pos w) hz]
      show loG v w (k + 1) = _
      rw [loG_c hq w (k + 1) (by omega) (by omega)]
      omega
    · have e : k = t := by omega
      subst e
      have hz : ¬ v <<< ((nI (63 - k)).toInt64 &&& 63) = 0 := fun z => by
        have z2 := (shl0 (show 63 - k < 64 by omega)).mp z
        rw [hq, show 64 - (63 - k) = k + 1 by omega, Nat.pow_succ] at z2
        have := Nat.dvd_of_mul_dvd_mul_left (Nat.two_pow_pos k) z2
        omega
      rw [loG_n hz]
      omega
theorem hi_ab {v : Int64} (h : ¬ v = 0) : hiN v = abL v := by
  have hv : v.toBitVec.toNat ≠ 0 := fun z => h (Int64.toBitVec_inj.mp (BitVec.eq_of_toNat_eq (by rw [z]; rfl)))
  show hiG v 31 0 = min 31 (clzN v.toBitVec.toNat)
  rw [hiG_c hv 31 0 (by decide) (Nat.zero_le _), Nat.zero_add]
theorem lo_ct {v : Int64} (h : ¬ v = 0) : loN v = ctzL v := by
  have hv : v.toBitVec.toNat ≠ 0 := fun z => h (Int64.toBitVec_inj.mp (BitVec.eq_of_toNat_eq (by rw [z]; rfl)))
  have hl := v.toBitVec.isLt
  obtain ⟨a, q, hq⟩ := ctG_p 64 v.toBitVec.toNat (by omega) hl
  show loG v 64 0 = ctzN v.toBitVec.toNat
  rw [loG_c hq 64 0 (by decide) (Nat.zero_le _), show ctzN v.toBitVec.toNat = ctG 64 v.toBitVec.toNat from if_neg hv]
  omega
