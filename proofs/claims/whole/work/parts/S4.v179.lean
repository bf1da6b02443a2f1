/-! What the steps use: how many tables, how large. -/
/-- depth, tables, the list's room, each table's room, the best points' room -/
abbrev SHT : Type := Nat × Nat × Nat × (Nat → Nat) × Nat
def shp (a : SKT) : SHT := (a.1.adep, a.2.1.sz, a.2.1.eN, (fun tb => if tb < a.2.1.sz then (a.2.2.2 tb).cN else 0), a.1.bN)
def shOk (σ : SHT) : Prop := σ.1 ≤ σ.2.1 ∧ σ.2.1 ≤ 20 ∧ σ.2.2.1 ≤ 40 ∧ (∀ tb, tb < σ.2.1 → 64 ≤ σ.2.2.2.1 tb ∧ σ.2.2.2.1 tb ≤ 32768) ∧ σ.2.2.2.2 ≤ 32768
def shQ (σ : SHT) : Nat := 700 * σ.2.1 + 2 * sumN σ.2.1 σ.2.2.2.1 + 4 * σ.2.2.2.2
def puS (σ : SHT) : Nat := if σ.1 < σ.2.1 then 0 else 589 + (if σ.2.1 < σ.2.2.1 then 0 else σ.2.2.1 + max 1 (σ.2.2.1 / 2))
def shPu (σ : SHT) : SHT := if σ.1 < σ.2.1 then (σ.1 + 1, σ.2) else (σ.1 + 1, σ.2.1 + 1, (if σ.2.1 < σ.2.2.1 then σ.2.2.1 else σ.2.2.1 + max 1 (σ.2.2.1 / 2)), va_up σ.2.2.2.1 σ.2.1 64, σ.2.2.2.2)
def gwN (R c : Nat) : Nat := if R ≤ c then c else max R (2 * c)
def shFn (R : Nat) (σ : SHT) : SHT := ((shPu σ).1, (shPu σ).2.1, (shPu σ).2.2.1, va_up (shPu σ).2.2.2.1 σ.1 (gwN R ((shPu σ).2.2.2.1 σ.1)), gwN R (shPu σ).2.2.2.2)
def fnS (R : Nat) (σ : SHT) : Nat := puS σ + ((if R ≤ (shPu σ).2.2.2.1 σ.1 then 0 else max R (2 * (shPu σ).2.2.2.1 σ.1)) + (if R ≤ (shPu σ).2.2.2.2 then 0 else 2 * max R (2 * (shPu σ).2.2.2.2)))
def shJn (k : Nat) (σ : SHT) : SHT := (σ.1 - 1, σ.2.1, σ.2.2.1, (if k = 2 then va_up (va_up σ.2.2.2.1 (σ.1 - 2) (σ.2.2.2.1 (σ.1 - 1))) (σ.1 - 1) (σ.2.2.2.1 (σ.1 - 2)) else σ.2.2.2.1), σ.2.2.2.2)
section SH
variable {σ : SHT} {R k : Nat}
theorem shPu_ok (h : shOk σ) (h20 : σ.1 < 20) : shOk (shPu σ) ∧ σ.1 < (shPu σ).2.1 ∧ (shPu σ).1 = σ.1 + 1 ∧ puS σ + shQ σ ≤ shQ (shPu σ) := by
  obtain ⟨h1, h2, h3, h4, h5⟩ := h
  unfold shPu puS
  by_cases c : σ.1 < σ.2.1
  · rw [if_pos c, if_pos c]
    exact ⟨⟨by show σ.1 + 1 ≤ σ.2.1; omega, h2, h3, h4, h5⟩, c, rfl, by show 0 + shQ σ ≤ shQ σ; omega⟩
  · rw [if_neg c, if_neg c]
    have es : sumN (σ.2.1 + 1) (va_up σ.2.2.2.1 σ.2.1 64) = sumN σ.2.1 σ.2.2.2.1 + va_up σ.2.2.2.1 σ.2.1 64 σ.2.1 := sumN_s (fun r hr => va_up_ne _ _ (Nat.ne_of_lt hr))
    rw [va_up_self] at es
    refine ⟨⟨by show σ.1 + 1 ≤ σ.2.1 + 1; omega, by show σ.2.1 + 1 ≤ 20; omega, ?_, fun tb ht => ?_, h5⟩, by show σ.1 < σ.2.1 + 1; omega, rfl, ?_⟩
    · show (if σ.2.1 < σ.2.2.1 then σ.2.2.1 else σ.2.2.1 + max 1 (σ.2.2.1 / 2)) ≤ 40
      split <;> omega
    · have ht : tb < σ.2.1 + 1 := ht
      show 64 ≤ va_up σ.2.2.2.1 σ.2.1 64 tb ∧ va_up σ.2.2.2.1 σ.2.1 64 tb ≤ 32768
      by_cases e : tb = σ.2.1
      · rw [e, va_up_self]; omega
      · rw [va_up_ne _ _ e]
        exact h4 tb (by omega)
    · show 589 + (if σ.2.1 < σ.2.2.1 then 0 else σ.2.2.1 + max 1 (σ.2.2.1 / 2)) + (700 * σ.2.1 + 2 * sumN σ.2.1 σ.2.2.2.1 + 4 * σ.2.2.2.2) ≤ 700 * (σ.2.1 + 1) + 2 * sumN (σ.2.1 + 1) (va_up σ.2.2.2.1 σ.2.1 64) + 4 * σ.2.2.2.2
      rw [es]
      split <;> omega
theorem gwN_b {c : Nat} (h1 : c ≤ 32768) (h2 : R ≤ 16384) : c ≤ gwN R c ∧ gwN R c ≤ 32768 := by
  unfold gwN
  split <;> omega
theorem shFn_ok (h : shOk σ) (h20 : σ.1 < 20) (hR : R ≤ 16384) : shOk (shFn R σ) ∧ fnS R σ + shQ σ ≤ shQ (shFn R σ) ∧ (shFn R σ).1 = σ.1 + 1 := by
  obtain ⟨⟨h1, h2, h3, h4, h5⟩, q1, q2, q3⟩ := shPu_ok h h20
  unfold shFn fnS
  obtain ⟨τ, et⟩ : ∃ τ, τ = shPu σ := ⟨_, rfl⟩
  rw [← et] at h1 h2 h3 h4 h5 q1 q2 q3 ⊢
  have su := sum_up τ.2.2.2.1 σ.1 (gwN R (τ.2.2.2.1 σ.1)) τ.2.1 q1
  refine ⟨⟨h1, h2, h3, fun tb ht => ?_, (gwN_b h5 hR).2⟩, ?_, q2⟩
  · show 64 ≤ va_up τ.2.2.2.1 σ.1 _ tb ∧ va_up τ.2.2.2.1 σ.1 _ tb ≤ 32768
    by_cases e : tb = σ.1
    · rw [e, va_up_self]
      have := gwN_b (R := R) (h4 σ.1 q1).2 hR
      have := (h4 σ.1 q1).1
      omega
    · rw [va_up_ne _ _ e]
      exact h4 tb ht
  · show puS σ + ((if R ≤ τ.2.2.2.1 σ.1 then 0 else max R (2 * τ.2.2.2.1 σ.1)) + (if R ≤ τ.2.2.2.2 then 0 else 2 * max R (2 * τ.2.2.2.2))) + shQ σ ≤ 700 * τ.2.1 + 2 * sumN τ.2.1 (va_up τ.2.2.2.1 σ.1 (gwN R (τ.2.2.2.1 σ.1))) + 4 * gwN R τ.2.2.2.2
    have q3 : puS σ + shQ σ ≤ 700 * τ.2.1 + 2 * sumN τ.2.1 τ.2.2.2.1 + 4 * τ.2.2.2.2 := q3
    have g1 : (if R ≤ τ.2.2.2.1 σ.1 then 0 else max R (2 * τ.2.2.2.1 σ.1)) + 2 * τ.2.2.2.1 σ.1 ≤ 2 * gwN R (τ.2.2.2.1 σ.1) := by
      unfold gwN
      split <;> omega
    have g2 : (if R ≤ τ.2.2.2.2 then 0 else 2 * max R (2 * τ.2.2.2.2)) + 4 * τ.2.2.2.2 ≤ 4 * gwN R τ.2.2.2.2 := by
      unfold gwN
      split <;> omega
    omega
theorem shJn_ok (h : shOk σ) (h2 : 2 ≤ σ.1) : shOk (shJn k σ) ∧ shQ (shJn k σ) = shQ σ ∧ (shJn k σ).1 = σ.1 - 1 := by
  obtain ⟨h1, h2', h3, h4, h5⟩ := h
  unfold shJn
  refine ⟨⟨by show σ.1 - 1 ≤ σ.2.1; omega, h2', h3, fun tb ht => ?_, h5⟩, ?_, rfl⟩
  · have ht : tb < σ.2.1 := ht
    show 64 ≤ (if k = 2 then va_up (va_up σ.2.2.2.1 (σ.1 - 2) (σ.2.2.2.1 (σ.1 - 1))) (σ.1 - 1) (σ.2.2.2.1 (σ.1 - 2)) else σ.2.2.2.1) tb ∧ (if k = 2 then va_up (va_up σ.2.2.2.1 (σ.1 - 2) (σ.2.2.2.1 (σ.1 - 1))) (σ.1 - 1) (σ.2.2.2.1 (σ.1 - 2)) else σ.2.2.2.1) tb ≤ 32768
    split
    · by_cases e : tb = σ.1 - 1
      · rw [e, va_up_self]
        exact h4 _ (by omega)
      · rw [va_up_ne _ _ e]
        by_cases e2 : tb = σ.1 - 2
        · rw [e2, va_up_self]
          exact h4 _ (by omega)
        · rw [va_up_ne _ _ e2]
          exact h4 tb ht
    · exact h4 tb ht
  · show 700 * σ.2.1 + 2 * sumN σ.2.1 (if k = 2 then va_up (va_up σ.2.2.2.1 (σ.1 - 2) (σ.2.2.2.1 (σ.1 - 1))) (σ.1 - 1) (σ.2.2.2.1 (σ.1 - 2)) else σ.2.2.2.1) + 4 * σ.2.2.2.2 = 700 * σ.2.1 + 2 * sumN σ.2.1 σ.2.2.2.1 + 4 * σ.2.2.2.2
    split
    · have s1 := sum_up (va_up σ.2.2.2.1 (σ.1 - 2) (σ.2.2.2.1 (σ.1 - 1))) (σ.1 - 1) (σ.2.2.2.1 (σ.1 - 2)) σ.2.1 (by omega)
      have s2 := sum_up σ.2.2.2.1 (σ.1 - 2) (σ.2.2.2.1 (σ.1 - 1)) σ.2.1 (by omega)
      rw [va_up_ne _ _ (show ¬ σ.1 - 1 = σ.1 - 2 by omega)] at s1
      omega
    · rfl
end SH
section SW2
variable {dA : Nat → ClassId} {ad : Nat → Nat} {r : va_W} {la : Nat → Nat} {a m b : SKT}
theorem shp_ps (h : psQ dA ad r la a m) : shp m = shPu (shp a) := by
  obtain ⟨h1, -, h3⟩ := h
  have ea : m.1.adep = a.1.adep + 1 := by
    have := congrArg VS.adep h1
    exact this
  have eb : m.1.bN = a.1.bN := by
    have := congrArg VS.bN h1
    exact this
  rcases h3 with ⟨c, c1, -, c3⟩ | ⟨c, c1, c2, c3, q, c4⟩
  · unfold shPu
    rw [if_pos (show (shp a).1 < (shp a).2.1 from c)]
    unfold shp
    rw [ea, eb, c1, c3]
  · have lt : ¬ (shp a).1 < (shp a).2.1 := by show ¬ a.1.adep < a.2.1.sz; omega
    unfold shPu
    rw [if_neg lt]
    unfold shp
    rw [ea, eb, c1, c2]
    have ef : (fun tb => if tb < a.2.1.sz + 1 then (m.2.2.2 tb).cN else 0) = va_up (fun tb => if tb < a.2.1.sz then (a.2.2.2 tb).cN else 0) a.2.1.sz 64 := by
      funext tb
      by_cases e : tb = a.2.1.sz
      · rw [e, va_up_self, if_pos (by omega), c4]
        rfl
      · rw [va_up_ne _ _ e, (c3 tb e).2]
        exact if_cg (by omega) rfl rfl
    rw [ef]
    rfl
theorem va_up_id {f : Nat → Nat} {k v : Nat} (h : v = f k) : va_up f k v = f := by
  funext q
  by_cases e : q = k
  · rw [e, va_up_self, h]
  · rw [va_up_ne _ _ e]
theorem shp_U {x : VS} {d : Nat} {t : TB} (h : skU dA ad r la m x d t b) (hd : d < m.2.1.sz) : shp b = (x.adep, (shp m).2.1, (shp m).2.2.1, va_up (shp m).2.2.2.1 d t.cN, x.bN) := by
  obtain ⟨h1, h2, -, h4, -⟩ := h
  have ea : b.1.adep = x.adep := by
    have := congrArg VS.adep h1
    exact this
  have eb : b.1.bN = x.bN := by
    have := congrArg VS.bN h1
    exact this
  unfold shp
  rw [ea, eb, h2, h4]
  have ef : (fun tb => if tb < m.2.1.sz then (va_up m.2.2.2 d t tb).cN else 0) = va_up (fun tb => if tb < m.2.1.sz then (m.2.2.2 tb).cN else 0) d t.cN := by
    funext tb
    by_cases e : tb = d
    · rw [e, va_up_self, va_up_self, if_pos hd]
    · rw [va_up_ne _ _ e, va_up_ne _ _ e]
  rw [ef]
theorem de_cN (t : TB) : t.de.cN = t.cN := (deG_k t t.rc).2.2.1
theorem jmG_cN {sg : Int32} {NL : Nat → List Int32} {t u : TB} {RS RU : Nat → List LB} : ∀ r, (jmG sg NL t u RS RU r).2.2.cN = t.cN
  | 0 => rfl
  | r + 1 => by
    have ih := jmG_cN (sg := sg) (NL := NL) (t := t) (u := u) (RS := RS) (RU := RU) r
    show (jmS sg NL t.nc u RS RU r (jmG sg NL t u RS RU r).1 (jmG sg NL t u RS RU r).2.1 (jmG sg NL t u RS RU r).2.2).2.2.cN = t.cN
    unfold jmS
    split
    · exact ih
    · exact ih
theorem jnT_cN {sg : Int32} {NL : Nat → List Int32} {t u : TB} {RS RU : Nat → List LB} {k : Nat} (hk : k ≤ 2) : (jnT sg NL RS RU t u k).cN = if k = 2 then u.cN else t.cN := by
  unfold jnT
  by_cases c0 : k = 0
  · rw [if_pos c0, if_neg (show ¬ k = 2 by omega)]
    split
    · unfold TB.j0
      split
      · exact de_cN _
      · exact de_cN _
    · unfold TB.jm
      rw [de_cN]
      exact jmG_cN t.rc
  · rw [if_neg c0]
    by_cases c1 : k = 1
    · rw [if_pos c1, if_neg (show ¬ k = 2 by omega)]
      split
      · exact de_cN _
      · rw [de_cN]
        exact (jsL_a sg t u t.rc).2.2.2.1
    · rw [if_neg c1, if_pos (show k = 2 by omega)]
      split
      · exact de_cN _
      · rw [de_cN]
        exact (jsR_a sg u t u.rc).2.2.2.1
theorem shp_J {sg : Int32} {NL NR : Nat → List Int32} {RS RU : Nat → List LB} (h : jnZ dA ad r la sg NL NR RS RU a.1 a.2.1 a.2.2.1 a.2.2.2 b.1 b.2.1 b.2.2.1 b.2.2.2) (h2 : 2 ≤ a.1.adep) (hs : a.1.adep ≤ a.2.1.sz) (h3 : ¬ jnC NL NR (a.2.2.2 (a.1.adep - 2)) (a.2.2.2 (a.1.adep - 1)) = 3) : shp b = shJn (jnC NL NR (a.2.2.2 (a.1.adep - 2)) (a.2.2.2 (a.1.adep - 1))) (shp a) := by
  obtain ⟨j1, -, j3, j4, j5, j6, -⟩ := h
  have ea : b.1.adep = a.1.adep - 1 := by
    have := congrArg VS.adep j1
    exact this
  have eb : b.1.bN = a.1.bN := by
    have := congrArg VS.bN j1
    exact this
  obtain ⟨k, ek⟩ : ∃ k, k = jnC NL NR (a.2.2.2 (a.1.adep - 2)) (a.2.2.2 (a.1.adep - 1)) := ⟨_, rfl⟩
  have k3 : k ≤ 3 := by
    rw [ek]
    unfold jnC
    repeat' split
    all_goals omega
  rw [← ek] at j5 j6 h3 ⊢
  unfold shJn shp
  rw [ea, eb, j3, j4]
  by_cases c : k = 2
  · rw [if_pos c, (j6 c).2]
    have ef : (fun tb => if tb < a.2.1.sz then (va_up (va_up a.2.2.2 (a.1.adep - 2) (jnT sg NL RS RU (a.2.2.2 (a.1.adep - 2)) (a.2.2.2 (a.1.adep - 1)) k)) (a.1.adep - 1) (a.2.2.2 (a.1.adep - 2)) tb).cN else 0) = va_up (va_up (fun tb => if tb < a.2.1.sz then (a.2.2.2 tb).cN else 0) (a.1.adep - 2) (if a.1.adep - 1 < a.2.1.sz then (a.2.2.2 (a.1.adep - 1)).cN else 0)) (a.1.adep - 1) (if a.1.adep - 2 < a.2.1.sz then (a.2.2.2 (a.1.adep - 2)).cN else 0) := by
      funext tb
      rw [if_pos (show a.1.adep - 1 < a.2.1.sz by omega), if_pos (show a.1.adep - 2 < a.2.1.sz by omega)]
      by_cases e : tb = a.1.adep - 1
      · rw [e, va_up_self, va_up_self, if_pos (by omega)]
      · rw [va_up_ne _ _ e, va_up_ne _ _ e]
        by_cases e2 : tb = a.1.adep - 2
        · rw [e2, va_up_self, va_up_self, if_pos (by omega), jnT_cN (by omega), if_pos c]
        · rw [va_up_ne _ _ e2, va_up_ne _ _ e2]
    rw [ef]
  · rw [if_neg c, (j5 (by omega)).2]
    have ef : (fun tb => if tb < a.2.1.sz then (va_up a.2.2.2 (a.1.adep - 2) (jnT sg NL RS RU (a.2.2.2 (a.1.adep - 2)) (a.2.2.2 (a.1.adep - 1)) k) tb).cN else 0) = (fun tb => if tb < a.2.1.sz then (a.2.2.2 tb).cN else 0) := by
      funext tb
      by_cases e : tb = a.1.adep - 2
      · rw [e, va_up_self, jnT_cN (by omega), if_neg c]
      · rw [va_up_ne _ _ e]
    rw [ef]
end SW2
