/-! A compact: parcels taken out, room for what is gathered. -/
theorem capR_b (N s : Nat) : ∀ k, capR N s k ≤ max N (2 * (s + k))
  | 0 => Nat.le_max_left _ _
  | k + 1 => by
    have h := capR_b N s k
    show (if s + k = capR N s k then 2 * (s + k) else capR N s k) ≤ max N (2 * (s + (k + 1)))
    split
    · omega
    · omega
theorem capR_2 {N a b : Nat} (hN : N ≤ 8192) (h : a + b ≤ 4096) : capR (capR N 0 a) a b ≤ 8192 := by
  have h1 := capR_b N 0 a
  have h2 := capR_b (capR N 0 a) a b
  omega
theorem capR_ge (N s k : Nat) : N ≤ capR N s k := capR_m N s (Nat.zero_le k)
theorem sum_pl (f : Nat → Nat) (a : Nat) : ∀ b, sumN (a + b) f = sumN a f + sumN b (fun j => f (a + j))
  | 0 => rfl
  | b + 1 => by
    show sumN (a + b) f + f (a + b) = sumN a f + (sumN b (fun j => f (a + j)) + f (a + b))
    rw [sum_pl f a b]
    omega
theorem sf_lo {α : Type} {g : Nat → α} {st d n z : Nat} (h : z < st) : sfT g st d n z = g z := if_neg (by omega)
theorem sf_in {α : Type} {g : Nat → α} {st d n z : Nat} (h : st ≤ z ∧ z < st + n) : sfT g st d n z = g (z + d) := if_pos h
theorem sum_sf2 {PS : Nat → PT} {d npc : Nat} (h : d + 2 ≤ npc) : sumN (npc - 2) (blN (sfT PS d 2 (npc - (d + 2)))) ≤ sumN npc (blN PS) := by
  obtain ⟨r, er⟩ : ∃ r, npc = d + (2 + r) := ⟨npc - (d + 2), by omega⟩
  have e1 : npc - 2 = d + r := by omega
  have e2 : npc - (d + 2) = r := by omega
  rw [e1, e2, er, sum_pl _ d r, sum_pl (blN PS) d (2 + r), sum_pl (fun j => blN PS (d + j)) 2 r]
  have a1 : sumN d (blN (sfT PS d 2 r)) = sumN d (blN PS) := sumN_ext (fun k hk => by
    show (sfT PS d 2 r k).bl = (PS k).bl
    rw [sf_lo hk])
  have a2 : sumN r (fun j => blN (sfT PS d 2 r) (d + j)) = sumN r (fun j => blN PS (d + (2 + j))) := sumN_ext (fun k hk => by
    show (sfT PS d 2 r (d + k)).bl = (PS (d + (2 + k))).bl
    rw [sf_in (by omega)]
    congr 2
    omega)
  rw [a1, a2]
  omega
theorem sum_sf1 {PS : Nat → PT} {P : PT} {d npc : Nat} (h : d + 2 ≤ npc) : sumN (npc - 1) (blN (sfT (va_up PS d P) (d + 1) 1 (npc - (d + 2)))) ≤ sumN npc (blN PS) + P.bl := by
  obtain ⟨r, er⟩ : ∃ r, npc = d + (2 + r) := ⟨npc - (d + 2), by omega⟩
  have e1 : npc - 1 = d + (1 + r) := by omega
  have e2 : npc - (d + 2) = r := by omega
  rw [e1, e2, er, sum_pl _ d (1 + r), sum_pl (fun j => blN (sfT (va_up PS d P) (d + 1) 1 r) (d + j)) 1 r, sum_pl (blN PS) d (2 + r), sum_pl (fun j => blN PS (d + j)) 2 r]
  have a1 : sumN d (blN (sfT (va_up PS d P) (d + 1) 1 r)) = sumN d (blN PS) := sumN_ext (fun k hk => by
    show (sfT (va_up PS d P) (d + 1) 1 r k).bl = (PS k).bl
    rw [sf_lo (by omega), va_up_ne _ _ (by omega)])
  have a2 : sumN 1 (fun j => blN (sfT (va_up PS d P) (d + 1) 1 r) (d + j)) = P.bl := by
    show 0 + (sfT (va_up PS d P) (d + 1) 1 r (d + 0)).bl = P.bl
    rw [sf_lo (by omega), Nat.add_zero, va_up_self, Nat.zero_add]
  have a3 : sumN r (fun j => blN (sfT (va_up PS d P) (d + 1) 1 r) (d + (1 + j))) = sumN r (fun j => blN PS (d + (2 + j))) := sumN_ext (fun k hk => by
    show (sfT (va_up PS d P) (d + 1) 1 r (d + (1 + k))).bl = (PS (d + (2 + k))).bl
    rw [sf_in (by omega), va_up_ne _ _ (by omega)]
    congr 2
    omega)
  rw [a1, a2, a3]
  omega
theorem psOk_sf {dA : Nat → ClassId} {nP : Nat → Option Nat} {N N' st d n : Nat} {pl : va_W} {PS : Nat → PT} (h : psOk dA nP N pl PS) (hz : ∀ z, z < N' → (st ≤ z ∧ z < st + n → z + d < N) ∧ (¬ (st ≤ z ∧ z < st + n) → z < N)) : psOk dA (sfT nP st d n) N' pl (sfT PS st d n) := by
  intro k hk
  obtain ⟨h1, h2⟩ := hz k hk
  by_cases c : st ≤ k ∧ k < st + n
  · rw [sf_in c, sf_in c]
    exact h (k + d) (h1 c)
  · have e1 : sfT nP st d n k = nP k := if_neg c
    have e2 : sfT PS st d n k = PS k := if_neg c
    rw [e1, e2]
    exact h k (h2 c)
theorem psOk_up {dA : Nat → ClassId} {nP : Nat → Option Nat} {N d mp : Nat} {pl : va_W} {PS : Nat → PT} {P : PT} (h : psOk dA nP N pl PS) (hp : isPc dA pl mp P) (ho : pcOk P) : psOk dA (va_up nP d (some mp)) N pl (va_up PS d P) := by
  intro k hk
  by_cases c : k = d
  · rw [c, va_up_self, va_up_self]
    exact ⟨mp, rfl, hp, ho⟩
  · rw [va_up_ne _ _ c, va_up_ne _ _ c]
    exact h k hk
