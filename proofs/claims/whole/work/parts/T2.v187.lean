/-! A question asked: the reference, by the class's reading. -/
theorem jk_T (f : Nat → Int32) (n : Nat) : JK f n (fun _ _ => True) (fun _ _ _ => True) :=
  ⟨fun _ _ _ _ _ => trivial, fun _ _ _ _ _ _ _ => trivial, fun _ _ _ _ _ _ _ => trivial, fun _ _ _ _ _ _ _ => trivial, fun _ _ _ _ _ _ _ _ _ => ⟨fun _ => trivial, fun _ => trivial⟩, fun _ _ _ _ _ _ _ _ _ _ _ _ _ _ _ _ _ _ _ _ _ => trivial⟩
/-- what the class reads of a tape -/
def qRd0 (f : Nat → Int32) (n : Nat) (ts : TKQ) : PR := qRd (pQ f n (nxT f n ts))
section AQ
variable {M v0 : MS} {a b : Int64} {n : Nat} {ts : TKQ}
theorem as_r1 (h : M.aW) (e1 : ts.2.2.1 = 0) (e2 : ts.2.2.2.2.1 = 0) (e3 : ts.2.2.2.2.2 = 0) : ((qRd0 M.tape M.length ts).2.1.2.2.2.2.1 = 0 → (qRd0 M.tape M.length ts).1 = true ∧ ∃ v, (M.as0 a b n).quF false = (true, v) ∧ v.faultCode = 0 ∧ v.faultPlace = 0) ∧ (¬ (qRd0 M.tape M.length ts).2.1.2.2.2.2.1 = 0 → (qRd0 M.tape M.length ts).1 = false ∧ ∃ v, (M.as0 a b n).quF false = (false, v) ∧ flR v (qRd0 M.tape M.length ts).2.1) := by
  obtain ⟨q1, q2⟩ := qu_q (x := M.as0 a b n) (how := false) (ts := ts) (as_1 h) (jk_T _ _) e1 e2 e3.symm trivial
  refine ⟨fun e => ?_, fun e => q2 e rfl⟩
  rcases q1 e with ⟨v, v1, v2, -, v4⟩ | ⟨v1, -⟩
  · refine ⟨v1, v, v2, v4.1.trans e, ?_⟩
    have z := (qz_qu (M.as0 a b n) false).2
    rw [v2] at z
    exact (z (v4.1.trans e)).2
  · cases v1
variable {dA : Nat → ClassId} {ad : Nat → Nat} {r : va_W} {la : Nat → Nat} {PS : Nat → PT} {SS : Nat → List LB} {nw : Nat} {I : SKT → Prop} {σ0 : SHT} {dn : Nat → Nat}
theorem as_r2 (h : v0.qW true) (hp : v0.faultPlace = 0) (e1 : ts.2.2.1 = 0) (e2 : ts.2.2.2.2.1 = 0) (e3 : ts.2.2.2.2.2 = 0) (he : (qRd0 v0.tape v0.length ts).2.1.2.2.2.2.1 = 0) (h0 : ∀ a0, I a0 → skQ dA ad r la a0) (hpl : ∀ a0, I a0 → plF a0.1.pl) (hkn : ∀ a0, I a0 → knOk dA a0.1.kn a0.1.nser a0.1.pl SS) (hb : basR PS SS nw I dn v0) (ho : shOk σ0) (hz : σ0.1 = 0) (ha : ∀ a0, I a0 → shp a0 = σ0 ∧ (∀ tb, tb < a0.2.1.sz → rsAll dA a0.1.pl (a0.2.2.2 tb).rs) ∧ ∀ k, a0.1.bO k < 256) :
    (∃ v, v0.quF true = (true, v) ∧ Jw dA ad r la PS SS nw I σ0 dn (qRd0 v0.tape v0.length ts).2.2 v ∧ v.pile = 1 ∧ v.works = true) ∨ ∃ v, v0.quF true = (false, v) ∧ FFq (Jx dA ad r la PS SS nw I σ0) (qRd0 v0.tape v0.length ts).2.2 v := by
  obtain ⟨q1, -⟩ := qu_q (x := v0) (how := true) (ts := ts) h (jk_w h0 hpl hkn) e1 e2 (hp.trans e3.symm) (J_0 (y := v0.qu0 true) hb rfl ho hz ha)
  rcases q1 he with ⟨v, v1, v2, v3, v4⟩ | ⟨-, v, v1, v2⟩
  · obtain ⟨d1, d2, d3⟩ := qu_in h v2
    have w : v.works = true := qk_f d2 MS.works rfl
    refine Or.inl ⟨v, v2, v3, ?_, w⟩
    have s := d1.1
    have s5 := s.2.2.2.2 w
    have s2 := s.2.1
    rw [d3] at s2 s5
    have s2 : 0 = v.opn := s2
    omega
  · exact Or.inr ⟨v, v1, v2⟩
end AQ
section AH
variable {dA : Nat → ClassId} {ad : Nat → Nat} {r : va_W} {la : Nat → Nat} {PS : Nat → PT} {SS : Nat → List LB} {nw : Nat} {I : SKT → Prop} {σ0 : SHT} {dn : Nat → Nat} {S : List SP1} {v : MS}
/-- every step can be done: what the call wants to know of the steps -/
theorem as_w1 (hj : Jw dA ad r la PS SS nw I σ0 dn S v) (hw : v.works = true) (hp : v.pile = 1) : ∃ (cC cS : Nat → Nat) (σ : SHT), (∀ i, i ≤ S.length → cC i ≤ cC S.length ∧ cS i ≤ cS S.length) ∧ (∀ a0, I a0 → ∀ i a, i < S.length → wkR dA ad r la PS SS nw S a0 i a → wkO dA ad r la SS (S.getD i (spO 0 0 0)) (cC i) (cC (i + 1)) (cS i) (cS (i + 1)) a) ∧ cC S.length ≤ 9 * S.length ∧ cS S.length + shQ σ0 ≤ shQ σ ∧ shOk σ ∧ basR PS SS nw I dn v ∧ ∀ a0, I a0 → ∀ a, wkR dA ad r la PS SS nw S a0 S.length a → shp a = σ ∧ 0 < a.2.1.sz ∧ (∃ NL RS, tabR v 0 (a.2.2.2 0) NL RS SS ∧ tbK dA a.1.pl nw (a.2.2.2 0) NL RS) ∧ (∀ tb, tb < a.2.1.sz → rsAll dA a.1.pl (a.2.2.2 tb).rs) ∧ ∀ k, a.1.bO k < 256 := by
  obtain ⟨bb, σ, cC, cS, ⟨j1, j2, j3, j4⟩, k2, k3, k4⟩ := hj hw
  refine ⟨cC, cS, σ, j2, fun a0 i0 i a hi ha => j1 i hi a0 i0 a ha, j3, j4, k2, bb, fun a0 i0 a ha => ?_⟩
  obtain ⟨e, s1, s2, s3, s4⟩ := k4 a0 i0 a ha
  have ea : a.1.adep ≤ a.2.1.sz := by
    have := k2.1
    rw [← e] at this
    exact this
  exact ⟨e, by omega, s2 0 (by omega), s3, s4⟩
/-- a step that can't be done -/
theorem as_w2 (hj : FFq (Jx dA ad r la PS SS nw I σ0) S v) : ∃ (k : Nat) (cC cS : Nat → Nat) (σ : SHT), k < S.length ∧ (∀ i, i ≤ k → cC i ≤ cC k ∧ cS i ≤ cS k) ∧ (∀ a0, I a0 → ∀ i a, i < k → wkR dA ad r la PS SS nw S a0 i a → wkO dA ad r la SS (S.getD i (spO 0 0 0)) (cC i) (cC (i + 1)) (cS i) (cS (i + 1)) a) ∧ cC k ≤ 9 * k ∧ cS k + shQ σ0 ≤ shQ σ ∧ shOk σ ∧ (∀ a0, I a0 → ∀ a, wkR dA ad r la PS SS nw S a0 k a → shp a = σ ∧ wkX dA (S.getD k (spO 0 0 0)) a ∧ (∀ tb, tb < a.2.1.sz → rsAll dA a.1.pl (a.2.2.2 tb).rs) ∧ ∀ k, a.1.bO k < 256) ∧ v.faultCode = 5 ∧ v.faultPlace = nI (S.getD k (spO 0 0 0)).2.1 := by
  obtain ⟨L1, s, L2, eS, σ, cC, cS, ⟨j1, j2, j3, j4⟩, k2, k3, k4, k5⟩ := hj
  subst eS
  refine ⟨L1.length, cC, cS, σ, by rw [List.length_append, List.length_cons]; omega, j2, fun a0 i0 i a hi ha => ?_, j3, j4, k2, fun a0 i0 a ha => ?_, k4, by rw [gtD_e]; exact k5⟩
  · rw [gtD_l hi]
    exact j1 i hi a0 i0 a ((wkR_app (by omega)).mp ha)
  · rw [gtD_e]
    exact k3 a0 i0 a ((wkR_app (Nat.le_refl _)).mp ha)
end AH
