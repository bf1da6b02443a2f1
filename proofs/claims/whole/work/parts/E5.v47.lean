/-! The class behind a point met, field by field. -/
section MXE
variable (fn : Int32) (t : TB) (x : VS) (r w o : Nat) (tm v : Int64)
def mxT : Nat → Int64 := if fn = 4 ∨ fn = 5 then (if ccB fn t x r w o tm = true then va_up x.bT (r * x.awi + w) tm else x.bT) else x.bT
def mxO : Nat → Nat := if fn = 4 ∨ fn = 5 then (if ccB fn t x r w o tm = true then va_up x.bO (r * x.awi + w) o else x.bO) else x.bO
theorem meX_e : meX fn t x r w o tm v = VS.s_bO (VS.s_bT (VS.s_abf (VS.s_ahb x (va_up x.ahb o true)) (va_up x.abf o v)) (mxT fn t x r w o tm)) (mxO fn t x r w o tm) := by
  unfold meX mxT mxO
  by_cases h : fn = 4 ∨ fn = 5
  · rw [if_pos h, if_pos h, if_pos h]
    by_cases h2 : ccB fn t x r w o tm = true
    · rw [if_pos h2, if_pos h2, if_pos h2]; rfl
    · rw [if_neg h2, if_neg h2, if_neg h2]; rfl
  · rw [if_neg h, if_neg h, if_neg h]; rfl
theorem mxO_lt (h : ∀ k, x.bO k < 256) (ho : o < 256) : ∀ k, mxO fn t x r w o tm k < 256 := by
  intro k
  unfold mxO
  by_cases h1 : fn = 4 ∨ fn = 5
  · rw [if_pos h1]
    by_cases h2 : ccB fn t x r w o tm = true
    · rw [if_pos h2]
      unfold va_up
      by_cases e : k = r * x.awi + w
      · rw [if_pos e]; exact ho
      · rw [if_neg e]; exact h k
    · rw [if_neg h2]; exact h k
  · rw [if_neg h1]; exact h k
end MXE
section MTK
variable {fn : Int32} {t : TB} {x : VS} {r w o : Nat} {tm v : Int64}
theorem gwT_k {hb : Bool} {bf : Int64} : (gwT t hb bf v r w).wi = t.wi ∧ (gwT t hb bf v r w).rc = t.rc ∧ (gwT t hb bf v r w).cN = t.cN ∧ (gwT t hb bf v r w).rs = t.rs ∧ (gwT t hb bf v r w).nm = t.nm ∧ (gwT t hb bf v r w).nc = t.nc ∧ (gwT t hb bf v r w).cA = t.cA := by
  unfold gwT
  split
  · exact ⟨rfl, rfl, rfl, rfl, rfl, rfl, rfl⟩
  · exact ⟨rfl, rfl, rfl, rfl, rfl, rfl, rfl⟩
theorem mtT_k : (mtT fn t x r w o tm v).wi = t.wi ∧ (mtT fn t x r w o tm v).rc = t.rc ∧ (mtT fn t x r w o tm v).cN = t.cN ∧ (mtT fn t x r w o tm v).rs = t.rs ∧ (mtT fn t x r w o tm v).nm = t.nm ∧ (mtT fn t x r w o tm v).nc = t.nc ∧ (mtT fn t x r w o tm v).cA = t.cA := by
  unfold mtT
  split
  · exact gwT_k
  · split
    · split
      · exact ⟨rfl, rfl, rfl, rfl, rfl, rfl, rfl⟩
      · exact ⟨rfl, rfl, rfl, rfl, rfl, rfl, rfl⟩
    · exact ⟨rfl, rfl, rfl, rfl, rfl, rfl, rfl⟩
end MTK
/-- a finished step's cells make a step -/
theorem isStp_mk {dA : Nat → ClassId} {ws : va_W} {a na ln lt mk cap kN : Nat} {kd : Int32} {pc : Nat} {nu : Int64} {nn : Nat} {NL : Nat → List Int32} {n : Nat} {KD : Nat → Int32} {MN MT : Nat → List Int32} {fn : Nat → Option Nat} (h1 : (a, .inr (13, [.int kd, .int (nI pc), .long nu, .ref na, .int (nI nn), .ref ln, .ref lt, .ref mk])) ∈ ws) (h2 : (na, .inl (dA 6, cap, .inr (.inr (.inr (.inr fn))))) ∈ ws) (h3 : nn ≤ cap) (h4 : cap ≤ 6) (h5 : nmOk dA ws fn nn NL) (h6 : isLst dA ws ln n MN) (h7 : isLst dA ws lt n MT) (h8 : (mk, .inl (dA 1, kN, .inl KD)) ∈ ws) (h9 : n ≤ kN) (h10 : kN ≤ 262144) (h11 : ∀ i, i < n → isKd (KD i)) : isStp dA ws a kd pc nu nn NL n KD MN MT :=
  ⟨na, ln, lt, mk, cap, kN, fn, KD, h1, h2, h3, h4, h5, h6, h7, h8, h9, h10, fun i hi => ⟨rfl, h11 i hi⟩⟩
