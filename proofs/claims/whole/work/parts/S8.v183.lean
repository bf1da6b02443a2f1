/-! A sign between two tables: both sides. -/
/-- how the two uppermost tables go together -/
def MS.jCk (y : MS) : Nat := if y.smN (y.pile - 2) (y.pile - 1) = true then 0 else if y.tableNames (y.pile - 1) = 0 then 1 else if y.tableNames (y.pile - 2) = 0 then 2 else 3
theorem jC_y {y : MS} {t u : TB} {NL NR : Nat → List Int32} (h1 : nmRe y (y.pile - 2) t.nc NL) (h2 : nmRe y (y.pile - 1) u.nc NR) : jnC NL NR t u = y.jCk := by
  unfold MS.jCk jnC
  rw [sm_nam h1 h2, h1.1, h2.1]
theorem opB_c (y : MS) : y.opB = !decide (y.jCk = 3) := by
  unfold MS.opB MS.jCk
  cases y.smN (y.pile - 2) (y.pile - 1) with
  | true => rfl
  | false =>
    rw [if_neg (by decide)]
    by_cases c : y.tableNames (y.pile - 1) = 0
    · rw [decide_eq_true c, if_pos c]
      rfl
    · rw [decide_eq_false c, if_neg c]
      by_cases d : y.tableNames (y.pile - 2) = 0
      · rw [decide_eq_true d, if_pos d]
        rfl
      · rw [decide_eq_false d, if_neg d]
        rfl
theorem op_pile {y : MS} {k : Int32} {q : Nat} (h : y.opB = true) : (y.opS k q).pile = y.pile - 1 := by
  rw [op_v h]
  show (y.opM k).pile - 1 = y.pile - 1
  have : (y.opM k).pile = y.pile := by
    unfold MS.opM
    split
    · rfl
    · split <;> rfl
  rw [this]
section OJ
variable {dA : Nat → ClassId} {ad : Nat → Nat} {r : va_W} {la : Nat → Nat} {PS : Nat → PT} {SS : Nat → List LB} {nw : Nat} {I : SKT → Prop} {σ0 : SHT} {dn : Nat → Nat} {y : MS} {σ : SHT} {L : List SP1} {cC cS : Nat → Nat} {k : Int32}
theorem st_op {a : SKT} (h2 : 2 ≤ y.pile) (hs : stR dA SS nw y a) : ∃ (NL NR : Nat → List Int32) (RS RU : Nat → List LB), tabR y (y.pile - 2) (a.2.2.2 (y.pile - 2)) NL RS SS ∧ tabR y (y.pile - 1) (a.2.2.2 (y.pile - 1)) NR RU SS ∧ tbK dA a.1.pl nw (a.2.2.2 (y.pile - 2)) NL RS ∧ tbK dA a.1.pl nw (a.2.2.2 (y.pile - 1)) NR RU ∧ jnC NL NR (a.2.2.2 (y.pile - 2)) (a.2.2.2 (y.pile - 1)) = y.jCk := by
  obtain ⟨NL, RS, t1, t2⟩ := hs.2.1 (y.pile - 2) (by omega)
  obtain ⟨NR, RU, v1, v2⟩ := hs.2.1 (y.pile - 1) (by omega)
  exact ⟨NL, NR, RS, RU, t1, v1, t2, v2, jC_y t1.1.1 v1.1.1⟩
theorem J_op (h0 : ∀ a0, I a0 → skQ dA ad r la a0) (hpl : ∀ a0, I a0 → plF a0.1.pl) (hb : basR PS SS nw I dn y) (hj : jOk dA ad r la PS SS nw I σ0 L σ cC cS) (ho : shOk σ) (hp : σ.1 = y.pile) (hr : ∀ a0, I a0 → ∀ a, wkR dA ad r la PS SS nw L a0 L.length a → shp a = σ ∧ stR dA SS nw y a) (h2 : 2 ≤ y.pile) (hop : isOp k) (ob : y.opB = true) (q : Nat) : ∃ (σ1 : SHT) (cC' cS' : Nat → Nat), jOk dA ad r la PS SS nw I σ0 (L ++ [spO k q 0]) σ1 cC' cS' ∧ shOk σ1 ∧ σ1.1 = (y.opS k q).pile ∧ ∀ a0, I a0 → ∀ b, wkR dA ad r la PS SS nw (L ++ [spO k q 0]) a0 (L ++ [spO k q 0]).length b → shp b = σ1 ∧ stR dA SS nw (y.opS k q) b := by
  obtain ⟨p1, p2, p3⟩ := shJn_ok (k := y.jCk) ho (by omega)
  have jk : ¬ y.jCk = 3 := fun z => by
    rw [opB_c, decide_eq_true z] at ob
    cases ob
  have A : ∀ a0, I a0 → ∀ a, shp a = σ → stR dA SS nw y a → skQ dA ad r la a → a0.1.ak a.1 → ∀ c0 s0, wkO dA ad r la SS (spO k q 0) c0 (c0 + 0) s0 (s0 + 0) a := by
    intro a0 i0 a e hs _ _ c0 s0
    have ea : a.1.adep ≤ a.2.1.sz := by
      have := ho.1
      rw [← e] at this
      exact this
    obtain ⟨NL, NR, RS, RU, t1, v1, t2, v2, ej⟩ := st_op h2 hs
    rw [← ej] at jk
    rw [← hs.1] at t2 v2 jk
    exact Or.inr (Or.inr (Or.inr ⟨hop, by rw [hs.1]; exact h2, ea, Nat.le_refl _, Nat.le_refl _, NL, NR, RS, RU, nw, t2, v2, jk⟩))
  have B : ∀ a0, I a0 → ∀ a b, shp a = σ → stR dA SS nw y a → skQ dA ad r la a → a0.1.ak a.1 → wkS dA ad r la PS SS nw (spO k q 0) a b → shp b = shJn y.jCk σ ∧ stR dA SS nw (y.opS k q) b := by
    intro a0 i0 a b e hs _ hak hw
    have ea : a.1.adep ≤ a.2.1.sz := by
      have := ho.1
      rw [← e] at this
      exact this
    rcases hw with ⟨e1, -⟩ | ⟨e1, -⟩ | ⟨e1, -⟩ | ⟨-, NL, NR, RS, RU, wi, k1, k2, j3, jz⟩
    · have e1 : k = 257 := e1
      rw [e1] at hop
      exact absurd hop nop_57
    · have e1 : k = 264 := e1
      rw [e1] at hop
      exact absurd hop nop_64
    · have e1 : k = 265 := e1
      rw [e1] at hop
      exact absurd hop nop_65
    · have pla : plF a.1.pl := by rw [(ak_f hak).1]; exact hpl a0 i0
      have sj := shp_J jz (by rw [hs.1]; exact h2) ea j3
      obtain ⟨NL1, NR1, RS1, RU1, t1, v1, t2, v2, -⟩ := st_op h2 hs
      rw [hs.1] at k1 k2 j3 sj
      have ew : wi = nw := k1.2.2.2.2.2.1.symm.trans t2.2.2.2.2.2.1
      rw [ew] at k1 k2
      have T1 := tab_u pla t2 k1 t1
      have U1 := tab_u pla v2 k2 v1
      obtain ⟨-, NL', RS', o1, o2⟩ := op_T (q := q) hop ⟨rfl, rfl⟩ h2 T1 U1 k1 k2 hb.2.1.1 hb.2.1.2 j3
      have ej := jC_y T1.1.1 U1.1.1
      rw [ej, e] at sj
      refine ⟨sj, ?_⟩
      obtain ⟨z1, z2, z3, z4, z5, z6, -⟩ := jz
      rw [hs.1] at z1 z5 z6
      rw [ej] at z5 z6 o1 o2
      have pb : b.1.pl = a.1.pl := (congrArg VS.pl z1).trans rfl
      have ab : b.1.adep = y.pile - 1 := (congrArg VS.adep z1).trans rfl
      have obo : b.1.bO = a.1.bO := (congrArg VS.bO z1).trans rfl
      obtain ⟨JT, eJ⟩ : ∃ JT, JT = jnT k NL RS RU (a.2.2.2 (y.pile - 2)) (a.2.2.2 (y.pile - 1)) y.jCk := ⟨_, rfl⟩
      have hsz : y.pile ≤ a.2.1.sz := by
        have := hs.1
        omega
      have hT : b.2.2.2 (y.pile - 2) = JT ∧ (∀ tb, tb < y.pile - 2 → b.2.2.2 tb = a.2.2.2 tb) ∧ (∀ tb, tb < a.2.1.sz → b.2.2.2 tb = JT ∨ ∃ q, q < a.2.1.sz ∧ b.2.2.2 tb = a.2.2.2 q) := by
        by_cases c : y.jCk = 2
        · have et : b.2.2.2 = va_up (va_up a.2.2.2 (y.pile - 2) JT) (y.pile - 1) (a.2.2.2 (y.pile - 2)) := by rw [eJ]; exact (z6 c).2
          rw [et]
          refine ⟨?_, fun tb ht => ?_, fun tb ht => ?_⟩
          · rw [va_up_ne _ _ (show ¬ y.pile - 2 = y.pile - 1 by omega), va_up_self]
          · rw [va_up_ne _ _ (by omega), va_up_ne _ _ (by omega)]
          · by_cases d : tb = y.pile - 1
            · rw [d, va_up_self]
              exact Or.inr ⟨y.pile - 2, by omega, rfl⟩
            · rw [va_up_ne _ _ d]
              by_cases d2 : tb = y.pile - 2
              · rw [d2, va_up_self]
                exact Or.inl rfl
              · rw [va_up_ne _ _ d2]
                exact Or.inr ⟨tb, ht, rfl⟩
        · have et : b.2.2.2 = va_up a.2.2.2 (y.pile - 2) JT := by
            rw [eJ]
            refine (z5 ?_).2
            have h3 : y.jCk ≤ 3 := by
              unfold MS.jCk
              repeat' split
              all_goals omega
            omega
          rw [et]
          refine ⟨va_up_self _ _ _, fun tb ht => va_up_ne _ _ (by omega), fun tb ht => ?_⟩
          by_cases d2 : tb = y.pile - 2
          · rw [d2, va_up_self]
            exact Or.inl rfl
          · rw [va_up_ne _ _ d2]
            exact Or.inr ⟨tb, ht, rfl⟩
      rw [← eJ] at o1 o2
      obtain ⟨x1, x2, x3⟩ := hT
      refine ⟨by rw [op_pile ob]; exact ab, fun tb ht => ?_, fun tb ht => ?_, by rw [obo]; exact hs.2.2.2⟩
      · rw [op_pile ob] at ht
        rw [pb]
        by_cases c : tb = y.pile - 2
        · rw [c, x1]
          exact ⟨NL', RS', o1, o2⟩
        · obtain ⟨NL3, RS3, w1, w2⟩ := hs.2.1 tb (by omega)
          rw [x2 tb (by omega)]
          exact ⟨NL3, RS3, tab_o (op_O ⟨rfl, rfl⟩ (show y.pile - 2 < y.pile - 1 by omega) hb.1.2.1.1 (by rw [t1.2.1.1]; exact t1.2.1.2.1) (by rw [v1.2.1.1]; exact v1.2.1.2.1) ob) c w1, w2⟩
      · rw [pb]
        rw [z3] at ht
        rcases x3 tb ht with e3 | ⟨q3, l3, e3⟩
        · rw [e3]
          exact o2.2.2.2.1
        · rw [e3]
          exact hs.2.2.1 q3 l3
  obtain ⟨cC', cS', q1, q2⟩ := J_step h0 hj hr A (by omega) (by omega) B
  exact ⟨_, cC', cS', q1, p1, by rw [p3, hp, op_pile ob], q2⟩
theorem J_opx (hb : basR PS SS nw I dn y) (hj : jOk dA ad r la PS SS nw I σ0 L σ cC cS) (ho : shOk σ) (hp : σ.1 = y.pile) (hr : ∀ a0, I a0 → ∀ a, wkR dA ad r la PS SS nw L a0 L.length a → shp a = σ ∧ stR dA SS nw y a) (h2 : 2 ≤ y.pile) (hop : isOp k) (ob : y.opB = false) (q : Nat) : Jx dA ad r la PS SS nw I σ0 L (spO k q 0) (y.opS k q) := by
  have jk : y.jCk = 3 := by
    rw [opB_c] at ob
    by_cases c : y.jCk = 3
    · exact c
    · rw [decide_eq_false c] at ob
      cases ob
  have es : y.opS k q = MS.s_faultPlace (MS.s_faultCode y 5) (nI q) := by
    unfold MS.opS
    rw [if_neg (by rw [ob]; decide)]
  refine ⟨σ, cC, cS, hj, ho, fun a0 i0 a ha => ?_, by rw [es], by rw [es]; rfl⟩
  obtain ⟨e, hs⟩ := hr a0 i0 a ha
  refine ⟨e, ?_⟩
  have ea : a.1.adep ≤ a.2.1.sz := by
    have := ho.1
    rw [← e] at this
    exact this
  obtain ⟨NL, NR, RS, RU, t1, v1, t2, v2, ej⟩ := st_op h2 hs
  rw [jk] at ej
  rw [← hs.1] at t2 v2 ej
  exact ⟨⟨hop, by rw [hs.1]; exact h2, ea, NL, NR, RS, RU, nw, t2, v2, ej⟩, hs.2.2.1, hs.2.2.2⟩
end OJ
