/-! Names of functions: the two ways. -/
theorem if_cg {α : Type} {p q : Prop} [Decidable p] [Decidable q] {a b c d : α} (h : p ↔ q) (h1 : a = c) (h2 : b = d) : (if p then a else b) = if q then c else d := by
  subst h1
  subst h2
  by_cases g : p
  · rw [if_pos g, if_pos (h.mp g)]
  · rw [if_neg g, if_neg (fun z => g (h.mpr z))]
theorem by_n0 {z : Int32} (hz : z.toInt8.toInt32 = z) : z &&& 255 = z ∨ (z < 0 ∧ 127 < z &&& 255) := by
  have := byB_u (P := fun z => decide (z &&& 255 = z) || (decide (z < 0) && decide (127 < z &&& 255))) (by unfold byB; decide +kernel) hz
  simpa using this
theorem by_c {z c : Int32} (hz : z.toInt8.toInt32 = z) (h1 : 0 ≤ c) (h2 : c ≤ 127) : z &&& 255 = c ↔ z = c := by
  rcases by_n0 hz with h | ⟨h, h'⟩
  · rw [h]
  · constructor
    · intro e
      rw [e] at h'
      exact absurd h2 (Int32.not_le.mpr h')
    · intro e
      rw [e] at h
      exact absurd h1 (Int32.not_le.mpr h)
section FN
variable {f : Nat → Int32} {n : Nat}
theorem at_k (hby : byteF f) {q : Nat} {c : Int32} (hq : q < n) (h1 : 0 ≤ c) (h2 : c ≤ 127) : atI f n q = c ↔ f q = c := by
  rw [at_lt hq]
  exact by_c (hby q) h1 h2
theorem fnV_3 (a b c : Int32) : fnV [a, b, c] = if a = 115 ∧ b = 117 ∧ c = 109 then 0 else -1 := by
  unfold fnV
  simp only [sameW_i]
  simp [qsW, qsByt]
theorem fnV_4 (a b c d : Int32) : fnV [a, b, c, d] = if a = 109 ∧ b = 111 ∧ c = 115 ∧ d = 116 then 3 else -1 := by
  unfold fnV
  simp only [sameW_i]
  simp [qsW, qsByt]
theorem fnV_5 (a b c d e : Int32) : fnV [a, b, c, d, e] = if a = 99 ∧ b = 111 ∧ c = 117 ∧ d = 110 ∧ e = 116 then 1 else if a = 108 ∧ b = 101 ∧ c = 97 ∧ d = 115 ∧ e = 116 then 2 else if a = 102 ∧ b = 105 ∧ c = 114 ∧ d = 115 ∧ e = 116 then 4 else -1 := by
  unfold fnV
  simp only [sameW_i]
  simp [qsW, qsByt]
theorem fnV_6 (a b c d e g : Int32) : fnV [a, b, c, d, e, g] = if a = 108 ∧ b = 97 ∧ c = 116 ∧ d = 101 ∧ e = 115 ∧ g = 116 then 5 else if a = 103 ∧ b = 114 ∧ c = 111 ∧ d = 119 ∧ e = 116 ∧ g = 104 then 6 else -1 := by
  unfold fnV
  simp only [sameW_i]
  simp [qsW, qsByt]
theorem fnV_n {L : List Int32} (h3 : ¬ L.length = 3) (h4 : ¬ L.length = 4) (h5 : ¬ L.length = 5) (h6 : ¬ L.length = 6) : fnV L = -1 := by
  have k0 : ∀ i, i < 7 → ((qsW i).length = 3 ∨ (qsW i).length = 4 ∨ (qsW i).length = 5 ∨ (qsW i).length = 6) := by decide
  have k : ∀ i, i < 7 → ¬ sameW L (qsW i) = true := by
    intro i hi e
    rw [sameW_i] at e
    have e : L.length = (qsW i).length := congrArg List.length e
    have := k0 i hi
    omega
  unfold fnV
  rw [if_neg (k 0 (by omega)), if_neg (k 1 (by omega)), if_neg (k 2 (by omega)), if_neg (k 3 (by omega)), if_neg (k 4 (by omega)), if_neg (k 5 (by omega)), if_neg (k 6 (by omega))]
end FN
section FI
variable {y : MS} {t : TKQ}
theorem atZ_m {k c : Nat} {d : Int32} (hd : d + nI c = 0) (h : c ≤ k) (hk : k < 2 ^ 31) : y.atZ (nI k + d) = y.atN (k - c) := by
  rw [nI_dn d hd h]
  unfold MS.atZ
  have h0 : ¬ nI (k - c) < 0 := fun e => by
    rw [Int32.lt_iff_toInt_lt, nI_toInt (by omega)] at e
    have : (0 : Int32).toInt = 0 := rfl
    omega
  rw [if_neg h0, i2n_of (by omega)]
theorem fn_q (hby : byteF y.tape) (hf : y.frm = t.2.1) (ht : y.too = t.2.2.1) (hk : y.kind = 2) (h1 : y.length ≤ 65536) (h2 : y.frm ≤ y.too) (h3 : y.too ≤ y.length) : y.fnI = fnV (tkw y.tape t) := by
  have hn : y.fnN = y.too - y.frm := if_pos hk
  have ea : ∀ (i : Nat) (c : Int32), y.frm + i < y.too → 0 ≤ c → c ≤ 127 → (y.atN (y.frm + i) = c ↔ y.tape (y.frm + i) = c) := fun i c hi c1 c2 => at_k hby (by omega) c1 c2
  have e1 : 1 ≤ y.too → y.atZ (nI y.too - 1) = y.atN (y.too - 1) := fun h => by
    rw [Int32.sub_eq_add_neg]
    exact atZ_m (by decide) h (by omega)
  have e2 : 2 ≤ y.too → y.atZ (nI y.too - 2) = y.atN (y.too - 2) := fun h => by
    rw [Int32.sub_eq_add_neg]
    exact atZ_m (by decide) h (by omega)
  have L : tkw y.tape t = seg y.tape y.frm y.too := by unfold tkw; rw [hf, ht]
  rw [L]
  have sl := seg_len y.tape y.frm y.too
  unfold MS.fnI
  rw [hn]
  by_cases c3 : y.too - y.frm = 3
  · rw [if_pos c3, seg_c _ (by omega), seg_c _ (by omega), seg_c _ (by omega), seg_n _ (by omega), fnV_3]
    refine if_cg ?_ rfl rfl
    unfold MS.nmB
    simp only [Bool.and_eq_true, decide_eq_true_eq, Bool.or_eq_true, hk, c3]
    have k0 := ea 0 115 (by omega) (by decide) (by decide)
    have k1 := ea 1 117 (by omega) (by decide) (by decide)
    have k2 := ea 2 109 (by omega) (by decide) (by decide)
    rw [Nat.add_zero] at k0
    rw [k0, k1, k2, show y.frm + 1 + 1 = y.frm + 2 from rfl]
    exact ⟨fun ⟨_, _, a, b, c, _⟩ => ⟨a, b, c.resolve_left (by omega)⟩, fun ⟨a, b, c⟩ => ⟨trivial, trivial, a, b, Or.inr c, Or.inl (by omega)⟩⟩
  rw [if_neg c3]
  by_cases c4 : y.too - y.frm = 4
  · rw [if_pos c4, seg_c _ (by omega), seg_c _ (by omega), seg_c _ (by omega), seg_c _ (by omega), seg_n _ (by omega), fnV_4]
    refine if_cg ?_ rfl rfl
    unfold MS.nmB
    simp only [Bool.and_eq_true, decide_eq_true_eq, Bool.or_eq_true, hk, c4]
    have k0 := ea 0 109 (by omega) (by decide) (by decide)
    have k1 := ea 1 111 (by omega) (by decide) (by decide)
    have k2 := ea 2 115 (by omega) (by decide) (by decide)
    have k3 := ea 3 116 (by omega) (by decide) (by decide)
    rw [Nat.add_zero] at k0
    rw [k0, k1, k2, k3, show y.frm + 1 + 1 = y.frm + 2 from rfl, show y.frm + 2 + 1 = y.frm + 3 from rfl]
    exact ⟨fun ⟨_, _, a, b, c, d⟩ => ⟨a, b, c.resolve_left (by omega), d.resolve_left (by omega)⟩, fun ⟨a, b, c, d⟩ => ⟨trivial, trivial, a, b, Or.inr c, Or.inr d⟩⟩
  rw [if_neg c4]
  by_cases c5 : y.too - y.frm = 5
  · rw [if_pos c5, seg_c _ (by omega), seg_c _ (by omega), seg_c _ (by omega), seg_c _ (by omega), seg_c _ (by omega), seg_n _ (by omega), fnV_5, e1 (by omega), e2 (by omega), show y.too - 1 = y.frm + 4 by omega, show y.too - 2 = y.frm + 3 by omega]
    have k : ∀ (a b c d e : Int32), (0 ≤ a ∧ a ≤ 127) → (0 ≤ b ∧ b ≤ 127) → (0 ≤ c ∧ c ≤ 127) → (0 ≤ d ∧ d ≤ 127) → (0 ≤ e ∧ e ≤ 127) → ((y.stB a b c = true ∧ y.atN (y.frm + 3) = d ∧ y.atN (y.frm + 4) = e) ↔ (y.tape y.frm = a ∧ y.tape (y.frm + 1) = b ∧ y.tape (y.frm + 2) = c ∧ y.tape (y.frm + 3) = d ∧ y.tape (y.frm + 4) = e)) := by
      intro a b c d e ha hb hc hd he
      unfold MS.stB
      simp only [Bool.and_eq_true, decide_eq_true_eq]
      have k0 := ea 0 a (by omega) ha.1 ha.2
      rw [Nat.add_zero] at k0
      rw [k0, ea 1 b (by omega) hb.1 hb.2, ea 2 c (by omega) hc.1 hc.2, ea 3 d (by omega) hd.1 hd.2, ea 4 e (by omega) he.1 he.2]
      exact ⟨fun ⟨⟨a, b, c⟩, d, e⟩ => ⟨a, b, c, d, e⟩, fun ⟨a, b, c, d, e⟩ => ⟨⟨a, b, c⟩, d, e⟩⟩
    exact if_cg (k 99 111 117 110 116 (by decide) (by decide) (by decide) (by decide) (by decide)) rfl (if_cg (k 108 101 97 115 116 (by decide) (by decide) (by decide) (by decide) (by decide)) rfl (if_cg (k 102 105 114 115 116 (by decide) (by decide) (by decide) (by decide) (by decide)) rfl rfl))
  rw [if_neg c5]
  by_cases c6 : y.too - y.frm = 6
  · rw [if_pos c6, seg_c _ (by omega), seg_c _ (by omega), seg_c _ (by omega), seg_c _ (by omega), seg_c _ (by omega), seg_c _ (by omega), seg_n _ (by omega), fnV_6, e1 (by omega), e2 (by omega), show y.too - 1 = y.frm + 5 by omega, show y.too - 2 = y.frm + 4 by omega]
    have k : ∀ (a b c d e g : Int32), (0 ≤ a ∧ a ≤ 127) → (0 ≤ b ∧ b ≤ 127) → (0 ≤ c ∧ c ≤ 127) → (0 ≤ d ∧ d ≤ 127) → (0 ≤ e ∧ e ≤ 127) → (0 ≤ g ∧ g ≤ 127) → ((y.stB a b c = true ∧ y.atN (y.frm + 3) = d ∧ y.atN (y.frm + 4) = e ∧ y.atN (y.frm + 5) = g) ↔ (y.tape y.frm = a ∧ y.tape (y.frm + 1) = b ∧ y.tape (y.frm + 2) = c ∧ y.tape (y.frm + 3) = d ∧ y.tape (y.frm + 4) = e ∧ y.tape (y.frm + 5) = g)) := by
      intro a b c d e g ha hb hc hd he hg
      unfold MS.stB
      simp only [Bool.and_eq_true, decide_eq_true_eq]
      have k0 := ea 0 a (by omega) ha.1 ha.2
      rw [Nat.add_zero] at k0
      rw [k0, ea 1 b (by omega) hb.1 hb.2, ea 2 c (by omega) hc.1 hc.2, ea 3 d (by omega) hd.1 hd.2, ea 4 e (by omega) he.1 he.2, ea 5 g (by omega) hg.1 hg.2]
      exact ⟨fun ⟨⟨a, b, c⟩, d, e⟩ => ⟨a, b, c, d, e⟩, fun ⟨a, b, c, d, e⟩ => ⟨⟨a, b, c⟩, d, e⟩⟩
    exact if_cg (k 108 97 116 101 115 116 (by decide) (by decide) (by decide) (by decide) (by decide) (by decide)) rfl (if_cg (k 103 114 111 119 116 104 (by decide) (by decide) (by decide) (by decide) (by decide) (by decide)) rfl rfl)
  rw [if_neg c6]
  exact (fnV_n (by omega) (by omega) (by omega) (by omega)).symm
/-- the word 'by' -/
theorem nm_by (hby : byteF y.tape) (hf : y.frm = t.2.1) (ht : y.too = t.2.2.1) (h2 : y.frm ≤ y.too) (h3 : y.too ≤ y.length) : y.nmB 98 121 32 32 2 = true ↔ (y.kind = 2 ∧ sameW (tkw y.tape t) (qsW 7) = true) := by
  have ea : ∀ (i : Nat) (c : Int32), y.frm + i < y.too → 0 ≤ c → c ≤ 127 → (y.atN (y.frm + i) = c ↔ y.tape (y.frm + i) = c) := fun i c hi c1 c2 => at_k hby (by omega) c1 c2
  have L : tkw y.tape t = seg y.tape y.frm y.too := by unfold tkw; rw [hf, ht]
  rw [L, sameW_i]
  unfold MS.nmB
  simp only [Bool.and_eq_true, decide_eq_true_eq, Bool.or_eq_true]
  by_cases c : y.too - y.frm = 2
  · have k0 := ea 0 98 (by omega) (by decide) (by decide)
    have k1 := ea 1 121 (by omega) (by decide) (by decide)
    rw [Nat.add_zero] at k0
    rw [k0, k1, seg_c _ (by omega), seg_c _ (by omega), seg_n _ (by omega)]
    constructor
    · rintro ⟨a, -, b, c, -⟩
      rw [b, c]
      exact ⟨a, rfl⟩
    · rintro ⟨a, b⟩
      have b : [y.tape y.frm, y.tape (y.frm + 1)] = [98, 121] := b
      rw [List.cons.injEq, List.cons.injEq] at b
      exact ⟨a, c, b.1, b.2.1, Or.inl (by omega), Or.inl (by omega)⟩
  · constructor
    · rintro ⟨-, b, -⟩
      exact absurd b c
    · rintro ⟨-, b⟩
      have b : (seg y.tape y.frm y.too).length = 2 := by rw [b]; rfl
      rw [seg_len] at b
      exact absurd b c
end FI
