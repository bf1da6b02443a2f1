/-! A function's rows picked. -/
theorem bsG_le {lt : Nat → Bool} {rc : Nat} : ∀ (f st b : Nat), b ≤ rc → bsG lt rc f st b ≤ rc
  | 0, _, _, h => h
  | f + 1, st, b, h => by
    show bsG lt rc f (st / 2) (if b + st ≤ rc ∧ lt (b + st - 1) = true then b + st else b) ≤ rc
    refine bsG_le f (st / 2) _ ?_
    split
    · rename_i g; exact g.1
    · exact h
theorem plT_le (NL : Nat → List Int32) (n rc : Nat) (RS : Nat → List LB) (S : List LB) : plT NL n rc RS S ≤ rc := bsG_le 9 256 0 (Nat.zero_le _)
def adRS (NL : Nat → List Int32) (t : TB) (RS : Nat → List LB) (S : List LB) : Nat → List LB := if t.rc = 256 ∨ (plT NL t.nc t.rc RS S < t.rc ∧ cmT NL t.nc (RS (plT NL t.nc t.rc RS S)) S = 0) then RS else fun q => if q < plT NL t.nc t.rc RS S then RS q else if q = plT NL t.nc t.rc RS S then S else RS (q - 1)
theorem rsOk_ad {dA : Nat → ClassId} {ws : va_W} {NL : Nat → List Int32} {t : TB} {RS : Nat → List LB} {S : List LB} {a : Nat} (h : rsOk dA ws t.rs t.rc RS) (ha : isSer dA ws a S) (ho : serOk S) (hr : t.rc ≤ 256) : rsOk dA ws (adT NL t RS S a).rs (adT NL t RS S a).rc (adRS NL t RS S) ∧ (adT NL t RS S a).rc ≤ 256 ∧ (adT NL t RS S a).nc = t.nc ∧ (adT NL t RS S a).nm = t.nm ∧ (adT NL t RS S a).wi = t.wi ∧ (adT NL t RS S a).cN = t.cN ∧ (adT NL t RS S a).rc ≤ t.rc + 1 := by
  unfold adT adRS
  by_cases c : t.rc = 256 ∨ (plT NL t.nc t.rc RS S < t.rc ∧ cmT NL t.nc (RS (plT NL t.nc t.rc RS S)) S = 0)
  · rw [if_pos c, if_pos c]
    exact ⟨h, hr, rfl, rfl, rfl, rfl, Nat.le_succ _⟩
  · rw [if_neg c, if_neg c]
    have hp := plT_le NL t.nc t.rc RS S
    generalize plT NL t.nc t.rc RS S = p at *
    refine ⟨?_, ?_, rfl, rfl, rfl, rfl, Nat.le_refl _⟩
    · intro q hq
      have hq : q < t.rc + 1 := hq
      show ∃ b : Nat, va_up (shF t.rs p t.rc) p (some a) q = some b ∧ _
      by_cases e : q = p
      · refine ⟨a, if_pos e, ?_, ?_⟩
        · dsimp only; rw [if_neg (by omega), if_pos e]; exact ha
        · dsimp only; rw [if_neg (by omega), if_pos e]; exact ho
      · by_cases e2 : q < p
        · obtain ⟨b, h1, h2, h3⟩ := h q (by omega)
          refine ⟨b, (if_neg e).trans ((shF_at (by omega)).trans h1), ?_, ?_⟩
          · dsimp only; rw [if_pos e2]; exact h2
          · dsimp only; rw [if_pos e2]; exact h3
        · obtain ⟨b, h1, h2, h3⟩ := h (q - 1) (by omega)
          refine ⟨b, (if_neg e).trans ((if_pos ⟨by omega, by omega⟩).trans h1), ?_, ?_⟩
          · dsimp only; rw [if_neg e2, if_neg e]; exact h2
          · dsimp only; rw [if_neg e2, if_neg e]; exact h3
    · show t.rc + 1 ≤ 256
      have : ¬ t.rc = 256 := fun z => c (Or.inl z)
      omega
abbrev PKS : Type := TB × (Nat → List LB) × (Nat → Int32) × (Nat → Bool)
section PK
variable (NL : Nat → List Int32) (n : Nat) (KD : Nat → Int32) (MN MT : Nat → List Int32) (SS : Nat → List LB) (kn : Nat → Option Nat)
def pkT (i : Nat) : Bool := allB n (tkF KD MN MT (SS i))
/-- i series looked at -/
def pkG (g : PKS) : Nat → PKS
  | 0 => g
  | i + 1 => if pkT n KD MN MT SS i = true then (adT NL (pkG g i).1 (pkG g i).2.1 (SS i) ((kn i).getD 0), adRS NL (pkG g i).1 (pkG g i).2.1 (SS i), va_up (va_up (pkG g i).2.2.1 i (-1)) i 0, va_up (pkG g i).2.2.2 i false) else ((pkG g i).1, (pkG g i).2.1, va_up (pkG g i).2.2.1 i (-1), va_up (pkG g i).2.2.2 i false)
/-- the rows of i series -/
def pkR (nc rc : Nat) (RS : Nat → List LB) (ar : Nat → Int32) : Nat → Nat → Int32
  | 0 => ar
  | i + 1 => if pkR nc rc RS ar i i = (-1) then pkR nc rc RS ar i else va_up (pkR nc rc RS ar i) i (roT NL nc rc RS (SS i))
end PK
