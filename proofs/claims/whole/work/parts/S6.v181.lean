/-! The steps done, both sides: the invariant. -/
section JW
variable (dA : Nat → ClassId) (ad : Nat → Nat) (r : va_W) (la : Nat → Nat) (PS : Nat → PT) (SS : Nat → List LB) (nw : Nat) (I : SKT → Prop) (σ0 : SHT) (dn : Nat → Nat)
/-- what no step changes -/
def basR (y : MS) : Prop := (y.windows = nw ∧ wiK y ∧ y.seriesCount ≤ 256 ∧ byteF y.tape) ∧ (txR y.texts y.textLengths y.seriesCount SS ∧ ∀ q, q < y.seriesCount → serG (SS q)) ∧ ∀ a0, I a0 → ptR y a0.1 PS dn ∧ a0.1.nser = y.seriesCount ∧ a0.1.awi = nw ∧ a0.1.afr = y.windowsFrom ∧ a0.1.awd = y.width
/-- the tables below the depth -/
def stR (y : MS) (a : SKT) : Prop := a.1.adep = y.pile ∧ (∀ tb, tb < y.pile → ∃ NL RS, tabR y tb (a.2.2.2 tb) NL RS SS ∧ tbK dA a.1.pl nw (a.2.2.2 tb) NL RS) ∧ (∀ tb, tb < a.2.1.sz → rsAll dA a.1.pl (a.2.2.2 tb).rs) ∧ ∀ k, a.1.bO k < 256
/-- every step of L could be done, and what they used -/
def jOk (L : List SP1) (σ : SHT) (cC cS : Nat → Nat) : Prop := (∀ i, i < L.length → ∀ a0, I a0 → ∀ a, wkR dA ad r la PS SS nw L a0 i a → wkO dA ad r la SS (L.getD i (spO 0 0 0)) (cC i) (cC (i + 1)) (cS i) (cS (i + 1)) a) ∧ (∀ i, i ≤ L.length → cC i ≤ cC L.length ∧ cS i ≤ cS L.length) ∧ cC L.length ≤ 9 * L.length ∧ cS L.length + shQ σ0 ≤ shQ σ
def Jw (L : List SP1) (y : MS) : Prop := y.works = true → basR PS SS nw I dn y ∧ ∃ (σ : SHT) (cC cS : Nat → Nat), jOk dA ad r la PS SS nw I σ0 L σ cC cS ∧ shOk σ ∧ σ.1 = y.pile ∧ ∀ a0, I a0 → ∀ a, wkR dA ad r la PS SS nw L a0 L.length a → shp a = σ ∧ stR dA SS nw y a
def Jx (L : List SP1) (s : SP1) (v : MS) : Prop := ∃ (σ : SHT) (cC cS : Nat → Nat), jOk dA ad r la PS SS nw I σ0 L σ cC cS ∧ shOk σ ∧ (∀ a0, I a0 → ∀ a, wkR dA ad r la PS SS nw L a0 L.length a → shp a = σ ∧ wkX dA s a ∧ (∀ tb, tb < a.2.1.sz → rsAll dA a.1.pl (a.2.2.2 tb).rs) ∧ ∀ k, a.1.bO k < 256) ∧ v.faultCode = 5 ∧ v.faultPlace = nI s.2.1
end JW
section JS
variable {dA : Nat → ClassId} {ad : Nat → Nat} {r : va_W} {la : Nat → Nat} {PS : Nat → PT} {SS : Nat → List LB} {nw : Nat} {I : SKT → Prop} {σ0 : SHT} {a m b : SKT} {dn : Nat → Nat} {y y1 : MS} {σ σ1 : SHT} {L : List SP1} {s : SP1} {cC cS : Nat → Nat}
theorem J_step {c1 s1 : Nat} (h0 : ∀ a0, I a0 → skQ dA ad r la a0) (hj : jOk dA ad r la PS SS nw I σ0 L σ cC cS) (hr : ∀ a0, I a0 → ∀ a, wkR dA ad r la PS SS nw L a0 L.length a → shp a = σ ∧ stR dA SS nw y a) (h1 : ∀ a0, I a0 → ∀ a, shp a = σ → stR dA SS nw y a → skQ dA ad r la a → a0.1.ak a.1 → ∀ c0 s0, wkO dA ad r la SS s c0 (c0 + c1) s0 (s0 + s1) a) (hc : c1 ≤ 9) (hq : s1 + shQ σ ≤ shQ σ1) (h2 : ∀ a0, I a0 → ∀ a b, shp a = σ → stR dA SS nw y a → skQ dA ad r la a → a0.1.ak a.1 → wkS dA ad r la PS SS nw s a b → shp b = σ1 ∧ stR dA SS nw y1 b) : ∃ cC' cS', jOk dA ad r la PS SS nw I σ0 (L ++ [s]) σ1 cC' cS' ∧ ∀ a0, I a0 → ∀ b, wkR dA ad r la PS SS nw (L ++ [s]) a0 (L ++ [s]).length b → shp b = σ1 ∧ stR dA SS nw y1 b := by
  obtain ⟨j1, j2, j3, j4⟩ := hj
  have el : (L ++ [s]).length = L.length + 1 := by rw [List.length_append]; rfl
  refine ⟨fun i => if i ≤ L.length then cC i else cC L.length + c1, fun i => if i ≤ L.length then cS i else cS L.length + s1, ⟨fun i hi a0 i0 a ha => ?_, fun i hi => ?_, ?_, ?_⟩, fun a0 i0 b hb => ?_⟩
  · rw [el] at hi
    have ha2 := (wkR_app (show i ≤ L.length by omega)).mp ha
    by_cases c : i < L.length
    · rw [gtD_l c]
      dsimp only
      rw [if_pos (show i ≤ L.length by omega), if_pos (show i + 1 ≤ L.length by omega), if_pos (show i ≤ L.length by omega), if_pos (show i + 1 ≤ L.length by omega)]
      exact j1 i c a0 i0 a ha2
    · have e : i = L.length := by omega
      subst e
      rw [gtD_e]
      dsimp only
      rw [if_pos (Nat.le_refl _), if_neg (by omega), if_pos (Nat.le_refl _), if_neg (by omega)]
      obtain ⟨r1, r2⟩ := hr a0 i0 a ha2
      have w := wk_k (h0 a0 i0) ha2
      exact h1 a0 i0 a r1 r2 w.2 w.1 _ _
  · rw [el] at hi ⊢
    dsimp only
    rw [if_neg (show ¬ L.length + 1 ≤ L.length by omega), if_neg (show ¬ L.length + 1 ≤ L.length by omega)]
    by_cases c : i ≤ L.length
    · rw [if_pos c, if_pos c]
      have := j2 i c
      omega
    · rw [if_neg c, if_neg c]
      omega
  · rw [el]
    dsimp only
    rw [if_neg (show ¬ L.length + 1 ≤ L.length by omega)]
    omega
  · rw [el]
    dsimp only
    rw [if_neg (show ¬ L.length + 1 ≤ L.length by omega)]
    omega
  · obtain ⟨a, a1, a2⟩ := wkR_s hb
    obtain ⟨r1, r2⟩ := hr a0 i0 a a1
    have w := wk_k (h0 a0 i0) a1
    exact h2 a0 i0 a b r1 r2 w.2 w.1 a2
/-- a table pushed -/
theorem ps_st (h : psQ dA ad r la a m) (hs : stR dA SS nw y a) (ha : a.1.adep ≤ a.2.1.sz) : m.1.adep = y.pile + 1 ∧ y.pile < m.2.1.sz ∧ (∀ tb, tb < y.pile → m.2.2.2 tb = a.2.2.2 tb) ∧ (∀ tb, tb < m.2.1.sz → rsAll dA a.1.pl (m.2.2.2 tb).rs) ∧ m.1.pl = a.1.pl ∧ m.1.bO = a.1.bO ∧ m.1.bN = a.1.bN := by
  obtain ⟨h1, -, h3⟩ := h
  obtain ⟨s1, s2, s3, s4⟩ := hs
  have ea : m.1.adep = a.1.adep + 1 := by
    have := congrArg VS.adep h1
    exact this
  have ep : m.1.pl = a.1.pl := by
    have := congrArg VS.pl h1
    exact this
  have eo : m.1.bO = a.1.bO := by
    have := congrArg VS.bO h1
    exact this
  have en : m.1.bN = a.1.bN := by
    have := congrArg VS.bN h1
    exact this
  rcases h3 with ⟨c, c1, -, c3⟩ | ⟨c, c1, c2, c3, q, c4⟩
  · rw [c1, c3]
    exact ⟨by omega, by omega, fun _ _ => rfl, s3, ep, eo, en⟩
  · rw [c1]
    refine ⟨by omega, by omega, fun tb ht => (c3 tb (by omega)).2, fun tb ht => ?_, ep, eo, en⟩
    by_cases e : tb = a.2.1.sz
    · rw [e, c4]
      intro q' a' hq
      cases hq
    · rw [(c3 tb e).2]
      exact s3 tb (by omega)
theorem shp_c {d : Nat} (h : d < a.2.1.sz) : (shp a).2.2.2.1 d = (a.2.2.2 d).cN := if_pos h
end JS
