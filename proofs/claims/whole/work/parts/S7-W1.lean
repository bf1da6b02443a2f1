section
/-! A number, a turn: both sides. -/
theorem num_cn (t : TB) (v : Int64) (n : Nat) : (t.num v n).cN = t.cN ∧ (t.num v n).rs = t.rs := by
  have : ∀ k, (mkG (TB.cl (TB.s_rc (TB.s_wi (TB.s_nc t 0) n) 1)) v k).rs = t.rs := fun k => by
    induction k with
    | zero => rfl
    | succ k ih => exact ih
  obtain ⟨k1, k2, k3, -⟩ := mkG_k (TB.cl (TB.s_rc (TB.s_wi (TB.s_nc t 0) n) 1)) v n
  exact ⟨k3, this n⟩
theorem ne_5764 : ¬ (257 : Int32) = 264 := by decide
theorem ne_5765 : ¬ (257 : Int32) = 265 := by decide
theorem ne_6465 : ¬ (264 : Int32) = 265 := by decide
theorem nop_57 : ¬ isOp 257 := by unfold isOp; decide
theorem nop_64 : ¬ isOp 264 := by unfold isOp; decide
theorem nop_65 : ¬ isOp 265 := by unfold isOp; decide
section NT
variable {dA : Nat → ClassId} {ad : Nat → Nat} {r : va_W} {la : Nat → Nat} {PS : Nat → PT} {SS : Nat → List LB} {nw : Nat} {I : SKT → Prop} {σ0 : SHT} {dn : Nat → Nat} {y : MS} {σ : SHT} {L : List SP1} {cC cS : Nat → Nat}
theorem J_num (h0 : ∀ a0, I a0 → skQ dA ad r la a0) (hb : basR PS SS nw I dn y) (hj : jOk dA ad r la PS SS nw I σ0 L σ cC cS) (ho : shOk σ) (hp : σ.1 = y.pile) (hr : ∀ a0, I a0 → ∀ a, wkR dA ad r la PS SS nw L a0 L.length a → shp a = σ ∧ stR dA SS nw y a) (h20 : y.pile < 20) (q : Nat) : ∃ (σ1 : SHT) (cC' cS' : Nat → Nat), jOk dA ad r la PS SS nw I σ0 (L ++ [spO 257 q y.amount]) σ1 cC' cS' ∧ shOk σ1 ∧ σ1.1 = y.nbS.pile ∧ ∀ a0, I a0 → ∀ b, wkR dA ad r la PS SS nw (L ++ [spO 257 q y.amount]) a0 (L ++ [spO 257 q y.amount]).length b → shp b = σ1 ∧ stR dA SS nw y.nbS b := by
  obtain ⟨p1, p2, p3, p4⟩ := shPu_ok ho (by omega)
  have w : y.windows = nw := hb.1.1
  have h64 : nw ≤ 64 := by
    have := hb.1.2.1.1
    rw [w] at this
    exact this
  have A : ∀ a0, I a0 → ∀ a, shp a = σ → stR dA SS nw y a → skQ dA ad r la a → a0.1.ak a.1 → ∀ c0 s0, wkO dA ad r la SS (spO 257 q y.amount) c0 (c0 + 6) s0 (s0 + puS σ) a := by
    intro a0 i0 a e hs _ _ c0 s0
    have ea : a.1.adep ≤ a.2.1.sz := by
      have := ho.1
      rw [← e] at this
      exact this
    have ee : a.2.1.eN ≤ 40 := by
      have := ho.2.2.1
      rw [← e] at this
      exact this
    refine Or.inl ⟨rfl, ea, by omega, ?_, ?_, fun m hm => ?_⟩
    · unfold psC
      split <;> omega
    · rw [← e]
      exact Nat.le_refl _
    · have em := shp_ps hm
      rw [e] at em
      obtain ⟨b1, b2, b3, b4, b5, b6, b7⟩ := ps_st hm hs ea
      have cn := p1.2.2.2.1 σ.1 p2
      rw [← em, hp, shp_c b2] at cn
      rw [hs.1]
      exact ⟨by omega, cn.1⟩
  have B : ∀ a0, I a0 → ∀ a b, shp a = σ → stR dA SS nw y a → skQ dA ad r la a → a0.1.ak a.1 → wkS dA ad r la PS SS nw (spO 257 q y.amount) a b → shp b = shPu σ ∧ stR dA SS nw y.nbS b := by
    intro a0 i0 a b e hs _ _ hw
    have ea : a.1.adep ≤ a.2.1.sz := by
      have := ho.1
      rw [← e] at this
      exact this
    rcases hw with ⟨-, m, hm, hu⟩ | ⟨e1, -⟩ | ⟨e1, -⟩ | ⟨e1, -⟩
    · have em := shp_ps hm
      rw [e] at em
      obtain ⟨b1, b2, b3, b4, b5, b6, b7⟩ := ps_st hm hs ea
      have hu : skU dA ad r la m m.1 a.1.adep ((m.2.2.2 a.1.adep).num y.amount nw) b := hu
      rw [hs.1] at hu
      obtain ⟨n1, n2⟩ := num_cn (m.2.2.2 y.pile) y.amount nw
      have eb := shp_U hu b2
      have cn := p1.2.2.2.1 σ.1 p2
      rw [← em, hp, shp_c b2] at cn
      rw [n1, va_up_id (shp_c b2).symm] at eb
      refine ⟨eb.trans em, ?_⟩
      obtain ⟨u1, u2, u3, u4, u5⟩ := hu
      have pb : b.1.pl = a.1.pl := (congrArg VS.pl u1).trans b5
      have ab : b.1.adep = m.1.adep := (congrArg VS.adep u1).trans rfl
      have ob : b.1.bO = m.1.bO := (congrArg VS.bO u1).trans rfl
      refine ⟨ab.trans b1, fun tb ht => ?_, fun tb ht => ?_, by rw [ob, b6]; exact hs.2.2.2⟩
      · rw [u4, pb]
        have ht : tb < y.pile + 1 := ht
        by_cases c : tb = y.pile
        · rw [c, va_up_self]
          refine ⟨fun _ => [], fun _ => [], ?_, ?_⟩
          · have := nb_tab (m := y) hb.1.2.1.1 (m.2.2.2 y.pile) (fun _ => []) (fun _ => []) SS
            rw [w] at this
            exact this
          · obtain ⟨k1, k2, k3⟩ := num_nc (m.2.2.2 y.pile) y.amount nw
            refine ⟨fun k hk => by rw [k1] at hk; omega, by omega, fun g => by omega, by rw [n2]; exact b4 _ b2, by omega, k3, by rw [k2, k3, n1]; omega, by rw [n1]; omega, fun _ => by omega⟩
        · rw [va_up_ne _ _ c]
          obtain ⟨NL, RS, t1, t2⟩ := hs.2.1 tb (by omega)
          rw [b3 tb (by omega)]
          exact ⟨NL, RS, tab_o (nb_O hb.1.2.1.1) c t1, t2⟩
      · rw [u4, pb]
        rw [u2] at ht
        by_cases c : tb = y.pile
        · rw [c, va_up_self, n2]
          exact b4 _ b2
        · rw [va_up_ne _ _ c]
          exact b4 tb ht
    · exact absurd e1 ne_5764
    · exact absurd e1 ne_5765
    · exact absurd e1 nop_57
  obtain ⟨cC', cS', q1, q2⟩ := J_step h0 hj hr A (by omega) p4 B
  exact ⟨shPu σ, cC', cS', q1, p1, by rw [p3, hp]; rfl, q2⟩
theorem J_turn (h0 : ∀ a0, I a0 → skQ dA ad r la a0) (hb : basR PS SS nw I dn y) (hj : jOk dA ad r la PS SS nw I σ0 L σ cC cS) (ho : shOk σ) (hp : σ.1 = y.pile) (hr : ∀ a0, I a0 → ∀ a, wkR dA ad r la PS SS nw L a0 L.length a → shp a = σ ∧ stR dA SS nw y a) (h1 : 1 ≤ y.pile) (q : Nat) : ∃ (σ1 : SHT) (cC' cS' : Nat → Nat), jOk dA ad r la PS SS nw I σ0 (L ++ [spO 265 q 0]) σ1 cC' cS' ∧ shOk σ1 ∧ σ1.1 = y.ngS.pile ∧ ∀ a0, I a0 → ∀ b, wkR dA ad r la PS SS nw (L ++ [spO 265 q 0]) a0 (L ++ [spO 265 q 0]).length b → shp b = σ1 ∧ stR dA SS nw y.ngS b := by
  have A : ∀ a0, I a0 → ∀ a, shp a = σ → stR dA SS nw y a → skQ dA ad r la a → a0.1.ak a.1 → ∀ c0 s0, wkO dA ad r la SS (spO 265 q 0) c0 (c0 + 0) s0 (s0 + 0) a := by
    intro a0 i0 a e hs _ _ c0 s0
    have ea : a.1.adep ≤ a.2.1.sz := by
      have := ho.1
      rw [← e] at this
      exact this
    obtain ⟨NL, RS, t1, t2⟩ := hs.2.1 (y.pile - 1) (by omega)
    rw [← hs.1] at t2
    exact Or.inr (Or.inr (Or.inl ⟨rfl, by rw [hs.1]; exact h1, ea, t2.2.2.2.2.2.2.2.1, t2.2.2.2.2.2.2.1, Nat.le_refl _, Nat.le_refl _⟩))
  have B : ∀ a0, I a0 → ∀ a b, shp a = σ → stR dA SS nw y a → skQ dA ad r la a → a0.1.ak a.1 → wkS dA ad r la PS SS nw (spO 265 q 0) a b → shp b = σ ∧ stR dA SS nw y.ngS b := by
    intro a0 i0 a b e hs _ _ hw
    have ea : a.1.adep ≤ a.2.1.sz := by
      have := ho.1
      rw [← e] at this
      exact this
    rcases hw with ⟨e1, -⟩ | ⟨e1, -⟩ | ⟨-, hu⟩ | ⟨e1, -⟩
    · exact absurd (Eq.symm e1) ne_5765
    · exact absurd (Eq.symm e1) ne_6465
    · rw [hs.1] at hu
      obtain ⟨t, et⟩ : ∃ t, t = a.2.2.2 (y.pile - 1) := ⟨_, rfl⟩
      rw [← et] at hu
      have lt : y.pile - 1 < a.2.1.sz := by
        have := hs.1
        omega
      have eb := shp_U hu lt
      have cn : (TB.s_ce t (tnG t.ce (t.rc * t.wi))).cN = (shp a).2.2.2.1 (y.pile - 1) := by
        rw [shp_c lt, ← et]
      rw [va_up_id cn] at eb
      refine ⟨eb.trans e, ?_⟩
      obtain ⟨u1, u2, u3, u4, u5⟩ := hu
      have pb : b.1.pl = a.1.pl := (congrArg VS.pl u1).trans rfl
      have ab : b.1.adep = a.1.adep := (congrArg VS.adep u1).trans rfl
      have ob : b.1.bO = a.1.bO := (congrArg VS.bO u1).trans rfl
      obtain ⟨NLt, RSt, t1, t2⟩ := hs.2.1 (y.pile - 1) (by omega)
      rw [← et] at t1 t2
      refine ⟨ab.trans hs.1, fun tb ht => ?_, fun tb ht => ?_, by rw [ob]; exact hs.2.2.2⟩
      · rw [u4, pb]
        have ht : tb < y.pile := ht
        by_cases c : tb = y.pile - 1
        · rw [c, va_up_self]
          exact ⟨NLt, RSt, ng_tab t1, tbK_s t2 ⟨rfl, rfl, rfl, rfl, rfl, rfl⟩⟩
        · rw [va_up_ne _ _ c]
          obtain ⟨NL, RS, v1, v2⟩ := hs.2.1 tb ht
          exact ⟨NL, RS, tab_o (ng_O hb.1.2.1.1 (by rw [t1.2.1.1]; exact t1.2.1.2.1)) c v1, v2⟩
      · rw [u4, pb]
        rw [u2] at ht
        by_cases c : tb = y.pile - 1
        · rw [c, va_up_self]
          exact t2.2.2.2.1
        · rw [va_up_ne _ _ c]
          exact hs.2.2.1 tb ht
    · exact absurd e1 nop_65
  obtain ⟨cC', cS', q1, q2⟩ := J_step h0 hj hr A (by omega) (by omega) B
  exact ⟨σ, cC', cS', q1, ho, hp, q2⟩
end NT
end
section
/-! A sign between two tables: both sides. -/
/-- how the two uppermost tables go together -/
def MS.jCk (y : MS) : Nat := if y.smN (y.pile - 2) (y.pile - 1) = true then 0 else if y.tableNames (y.pile - 1) = 0 then 1 else if y.tableNames (y.pile - 2) = 0 then 2 else 3
theorem jC_y {y : MS} {t u : TB} {NL NR : Nat → List Int32} (h1 : nmRe y (y.pile - 2) t.nc NL) (h2 : nmRe y (y.pile - 1) u.nc NR) : jnC NL NR t u = y.jCk := by
  unfold MS.jCk jnC
  rw [sm_nam h1 h2, h1.1, h2.1]
theorem opB_c (y : MS) : y.opB = !decide (y.jCk = 3) := by
  unfold MS.opB MS.jCk
  cases y.smN (y.pile - 2) (y.pile - 1) with
  | true => rfl
  | false =>
    rw [if_neg (by decide)]
    by_cases c : y.tableNames (y.pile - 1) = 0
    · rw [decide_eq_true c, if_pos c]
      rfl
    · rw [decide_eq_false c, if_neg c]
      by_cases d : y.tableNames (y.pile - 2) = 0
      · rw [decide_eq_true d, if_pos d]
        rfl
      · rw [decide_eq_false d, if_neg d]
        rfl
theorem op_pile {y : MS} {k : Int32} {q : Nat} (h : y.opB = true) : (y.opS k q).pile = y.pile - 1 := by
  rw [op_v h]
  show (y.opM k).pile - 1 = y.pile - 1
  have : (y.opM k).pile = y.pile := by
    unfold MS.opM
    split
    · rfl
    · split <;> rfl
  rw [this]
section OJ
variable {dA : Nat → ClassId} {ad : Nat → Nat} {r : va_W} {la : Nat → Nat} {PS : Nat → PT} {SS : Nat → List LB} {nw : Nat} {I : SKT → Prop} {σ0 : SHT} {dn : Nat → Nat} {y : MS} {σ : SHT} {L : List SP1} {cC cS : Nat → Nat} {k : Int32}
theorem st_op {a : SKT} (h2 : 2 ≤ y.pile) (hs : stR dA SS nw y a) : ∃ (NL NR : Nat → List Int32) (RS RU : Nat → List LB), tabR y (y.pile - 2) (a.2.2.2 (y.pile - 2)) NL RS SS ∧ tabR y (y.pile - 1) (a.2.2.2 (y.pile - 1)) NR RU SS ∧ tbK dA a.1.pl nw (a.2.2.2 (y.pile - 2)) NL RS ∧ tbK dA a.1.pl nw (a.2.2.2 (y.pile - 1)) NR RU ∧ jnC NL NR (a.2.2.2 (y.pile - 2)) (a.2.2.2 (y.pile - 1)) = y.jCk := by
  obtain ⟨NL, RS, t1, t2⟩ := hs.2.1 (y.pile - 2) (by omega)
  obtain ⟨NR, RU, v1, v2⟩ := hs.2.1 (y.pile - 1) (by omega)
  exact ⟨NL, NR, RS, RU, t1, v1, t2, v2, jC_y t1.1.1 v1.1.1⟩
theorem J_op (h0 : ∀ a0, I a0 → skQ dA ad r la a0) (hpl : ∀ a0, I a0 → plF a0.1.pl) (hb : basR PS SS nw I dn y) (hj : jOk dA ad r la PS SS nw I σ0 L σ cC cS) (ho : shOk σ) (hp : σ.1 = y.pile) (hr : ∀ a0, I a0 → ∀ a, wkR dA ad r la PS SS nw L a0 L.length a → shp a = σ ∧ stR dA SS nw y a) (h2 : 2 ≤ y.pile) (hop : isOp k) (ob : y.opB = true) (q : Nat) : ∃ (σ1 : SHT) (cC' cS' : Nat → Nat), jOk dA ad r la PS SS nw I σ0 (L ++ [spO k q 0]) σ1 cC' cS' ∧ shOk σ1 ∧ σ1.1 = (y.opS k q).pile ∧ ∀ a0, I a0 → ∀ b, wkR dA ad r la PS SS nw (L ++ [spO k q 0]) a0 (L ++ [spO k q 0]).length b → shp b = σ1 ∧ stR dA SS nw (y.opS k q) b := by
  obtain ⟨p1, p2, p3⟩ := shJn_ok (k := y.jCk) ho (by omega)
  have jk : ¬ y.jCk = 3 := fun z => by
    rw [opB_c, decide_eq_true z] at ob
    cases ob
  have A : ∀ a0, I a0 → ∀ a, shp a = σ → stR dA SS nw y a → skQ dA ad r la a → a0.1.ak a.1 → ∀ c0 s0, wkO dA ad r la SS (spO k q 0) c0 (c0 + 0) s0 (s0 + 0) a := by
    intro a0 i0 a e hs _ _ c0 s0
    have ea : a.1.adep ≤ a.2.1.sz := by
      have := ho.1
      rw [← e] at this
      exact this
    obtain ⟨NL, NR, RS, RU, t1, v1, t2, v2, ej⟩ := st_op h2 hs
    rw [← ej] at jk
    rw [← hs.1] at t2 v2 jk
    exact Or.inr (Or.inr (Or.inr ⟨hop, by rw [hs.1]; exact h2, ea, Nat.le_refl _, Nat.le_refl _, NL, NR, RS, RU, nw, t2, v2, jk⟩))
  have B : ∀ a0, I a0 → ∀ a b, shp a = σ → stR dA SS nw y a → skQ dA ad r la a → a0.1.ak a.1 → wkS dA ad r la PS SS nw (spO k q 0) a b → shp b = shJn y.jCk σ ∧ stR dA SS nw (y.opS k q) b := by
    intro a0 i0 a b e hs _ hak hw
    have ea : a.1.adep ≤ a.2.1.sz := by
      have := ho.1
      rw [← e] at this
      exact this
    rcases hw with ⟨e1, -⟩ | ⟨e1, -⟩ | ⟨e1, -⟩ | ⟨-, NL, NR, RS, RU, wi, k1, k2, j3, jz⟩
    · have e1 : k = 257 := e1
      rw [e1] at hop
      exact absurd hop nop_57
    · have e1 : k = 264 := e1
      rw [e1] at hop
      exact absurd hop nop_64
    · have e1 : k = 265 := e1
      rw [e1] at hop
      exact absurd hop nop_65
    · have pla : plF a.1.pl := by rw [(ak_f hak).1]; exact hpl a0 i0
      have sj := shp_J jz (by rw [hs.1]; exact h2) ea j3
      obtain ⟨NL1, NR1, RS1, RU1, t1, v1, t2, v2, -⟩ := st_op h2 hs
      rw [hs.1] at k1 k2 j3 sj
      have ew : wi = nw := k1.2.2.2.2.2.1.symm.trans t2.2.2.2.2.2.1
      rw [ew] at k1 k2
      have T1 := tab_u pla t2 k1 t1
      have U1 := tab_u pla v2 k2 v1
      obtain ⟨-, NL', RS', o1, o2⟩ := op_T (q := q) hop ⟨rfl, rfl⟩ h2 T1 U1 k1 k2 hb.2.1.1 hb.2.1.2 j3
      have ej := jC_y T1.1.1 U1.1.1
      rw [ej, e] at sj
      refine ⟨sj, ?_⟩
      obtain ⟨z1, z2, z3, z4, z5, z6, -⟩ := jz
      rw [hs.1] at z1 z5 z6
      rw [ej] at z5 z6 o1 o2
      have pb : b.1.pl = a.1.pl := (congrArg VS.pl z1).trans rfl
      have ab : b.1.adep = y.pile - 1 := (congrArg VS.adep z1).trans rfl
      have obo : b.1.bO = a.1.bO := (congrArg VS.bO z1).trans rfl
      obtain ⟨JT, eJ⟩ : ∃ JT, JT = jnT k NL RS RU (a.2.2.2 (y.pile - 2)) (a.2.2.2 (y.pile - 1)) y.jCk := ⟨_, rfl⟩
      have hsz : y.pile ≤ a.2.1.sz := by
        have := hs.1
        omega
      have hT : b.2.2.2 (y.pile - 2) = JT ∧ (∀ tb, tb < y.pile - 2 → b.2.2.2 tb = a.2.2.2 tb) ∧ (∀ tb, tb < a.2.1.sz → b.2.2.2 tb = JT ∨ ∃ q, q < a.2.1.sz ∧ b.2.2.2 tb = a.2.2.2 q) := by
        by_cases c : y.jCk = 2
        · have et : b.2.2.2 = va_up (va_up a.2.2.2 (y.pile - 2) JT) (y.pile - 1) (a.2.2.2 (y.pile - 2)) := by rw [eJ]; exact (z6 c).2
          rw [et]
          refine ⟨?_, fun tb ht => ?_, fun tb ht => ?_⟩
          · rw [va_up_ne _ _ (show ¬ y.pile - 2 = y.pile - 1 by omega), va_up_self]
          · rw [va_up_ne _ _ (by omega), va_up_ne _ _ (by omega)]
          · by_cases d : tb = y.pile - 1
            · rw [d, va_up_self]
              exact Or.inr ⟨y.pile - 2, by omega, rfl⟩
            · rw [va_up_ne _ _ d]
              by_cases d2 : tb = y.pile - 2
              · rw [d2, va_up_self]
                exact Or.inl rfl
              · rw [va_up_ne _ _ d2]
                exact Or.inr ⟨tb, ht, rfl⟩
        · have et : b.2.2.2 = va_up a.2.2.2 (y.pile - 2) JT := by
            rw [eJ]
            refine (z5 ?_).2
            have h3 : y.jCk ≤ 3 := by
              unfold MS.jCk
              repeat' split
              all_goals omega
            omega
          rw [et]
          refine ⟨va_up_self _ _ _, fun tb ht => va_up_ne _ _ (by omega), fun tb ht => ?_⟩
          by_cases d2 : tb = y.pile - 2
          · rw [d2, va_up_self]
            exact Or.inl rfl
          · rw [va_up_ne _ _ d2]
            exact Or.inr ⟨tb, ht, rfl⟩
      rw [← eJ] at o1 o2
      obtain ⟨x1, x2, x3⟩ := hT
      refine ⟨by rw [op_pile ob]; exact ab, fun tb ht => ?_, fun tb ht => ?_, by rw [obo]; exact hs.2.2.2⟩
      · rw [op_pile ob] at ht
        rw [pb]
        by_cases c : tb = y.pile - 2
        · rw [c, x1]
          exact ⟨NL', RS', o1, o2⟩
        · obtain ⟨NL3, RS3, w1, w2⟩ := hs.2.1 tb (by omega)
          rw [x2 tb (by omega)]
          exact ⟨NL3, RS3, tab_o (op_O ⟨rfl, rfl⟩ (show y.pile - 2 < y.pile - 1 by omega) hb.1.2.1.1 (by rw [t1.2.1.1]; exact t1.2.1.2.1) (by rw [v1.2.1.1]; exact v1.2.1.2.1) ob) c w1, w2⟩
      · rw [pb]
        rw [z3] at ht
        rcases x3 tb ht with e3 | ⟨q3, l3, e3⟩
        · rw [e3]
          exact o2.2.2.2.1
        · rw [e3]
          exact hs.2.2.1 q3 l3
  obtain ⟨cC', cS', q1, q2⟩ := J_step h0 hj hr A (by omega) (by omega) B
  exact ⟨_, cC', cS', q1, p1, by rw [p3, hp, op_pile ob], q2⟩
theorem J_opx (hb : basR PS SS nw I dn y) (hj : jOk dA ad r la PS SS nw I σ0 L σ cC cS) (ho : shOk σ) (hp : σ.1 = y.pile) (hr : ∀ a0, I a0 → ∀ a, wkR dA ad r la PS SS nw L a0 L.length a → shp a = σ ∧ stR dA SS nw y a) (h2 : 2 ≤ y.pile) (hop : isOp k) (ob : y.opB = false) (q : Nat) : Jx dA ad r la PS SS nw I σ0 L (spO k q 0) (y.opS k q) := by
  have jk : y.jCk = 3 := by
    rw [opB_c] at ob
    by_cases c : y.jCk = 3
    · exact c
    · rw [decide_eq_false c] at ob
      cases ob
  have es : y.opS k q = MS.s_faultPlace (MS.s_faultCode y 5) (nI q) := by
    unfold MS.opS
    rw [if_neg (by rw [ob]; decide)]
  refine ⟨σ, cC, cS, hj, ho, fun a0 i0 a ha => ?_, by rw [es], by rw [es]; rfl⟩
  obtain ⟨e, hs⟩ := hr a0 i0 a ha
  refine ⟨e, ?_⟩
  have ea : a.1.adep ≤ a.2.1.sz := by
    have := ho.1
    rw [← e] at this
    exact this
  obtain ⟨NL, NR, RS, RU, t1, v1, t2, v2, ej⟩ := st_op h2 hs
  rw [jk] at ej
  rw [← hs.1] at t2 v2 ej
  exact ⟨⟨hop, by rw [hs.1]; exact h2, ea, NL, NR, RS, RU, nw, t2, v2, ej⟩, hs.2.2.1, hs.2.2.2⟩
end OJ
end
section
/-! A function: both sides. -/
theorem fn_lt {wh : Nat} (h : wh < 7) : isFn (nI wh) := by
  unfold isFn
  rcases (show wh = 0 ∨ wh = 1 ∨ wh = 2 ∨ wh = 3 ∨ wh = 4 ∨ wh = 5 ∨ wh = 6 by omega) with e | e | e | e | e | e | e <;> subst e <;> decide
theorem pkG_rc {SS : Nat → List LB} {kn : Nat → Option Nat} {nm : Nat} {NL : Nat → List Int32} {KD : Nat → Int32} {MN MT : Nat → List Int32} {g : PKS} (h : g.1.rc ≤ 256) : ∀ i, (pkG NL nm KD MN MT SS kn g i).1.rc ≤ 256
  | 0 => h
  | i + 1 => by
    have ih := pkG_rc (SS := SS) (kn := kn) (nm := nm) (NL := NL) (KD := KD) (MN := MN) (MT := MT) h i
    unfold pkG
    split
    · show (adT NL (pkG NL nm KD MN MT SS kn g i).1 (pkG NL nm KD MN MT SS kn g i).2.1 (SS i) ((kn i).getD 0)).rc ≤ 256
      rw [adT_rc.1]
      split <;> omega
    · exact ih
theorem rw_256 (s : SP1) (SS : Nat → List LB) (n : Nat) : rwN s SS n ≤ 256 := pkG_rc (Nat.zero_le _) n
theorem rw_R {SS : Nat → List LB} {kn : Nat → Option Nat} {n : Nat} (s : SP1) {g : PKS} (h1 : g.1.rc = 0) (h2 : g.1.nc = s.2.2.2.1) (h3 : g.2.1 = fun _ => []) : (pkG s.2.2.2.2.1 s.2.2.2.2.2.1 s.2.2.2.2.2.2.1 s.2.2.2.2.2.2.2.1 s.2.2.2.2.2.2.2.2 SS kn g n).1.rc = rwN s SS n := by
  obtain ⟨e, -, -⟩ := pkG_sh (NL := s.2.2.2.2.1) (nm := s.2.2.2.2.2.1) (KD := s.2.2.2.2.2.2.1) (MN := s.2.2.2.2.2.2.2.1) (MT := s.2.2.2.2.2.2.2.2) (SS := SS) (kn := kn) (kn' := fun _ => none) (g := g) (g' := (TB.s_nc (tb0 0) s.2.2.2.1, fun _ => [], fun _ => 0, fun _ => false)) h1 h2 h3 n
  exact e
theorem ptR_ak {m : MS} {x y : VS} {PS : Nat → PT} {dn : Nat → Nat} (h : x.ak y) (hp : ptR m x PS dn) : ptR m y PS dn := by
  rw [show y = x.akS y from h]
  exact hp
section FJ
variable {dA : Nat → ClassId} {ad : Nat → Nat} {r : va_W} {la : Nat → Nat} {PS : Nat → PT} {SS : Nat → List LB} {nw : Nat} {I : SKT → Prop} {σ0 : SHT} {dn : Nat → Nat} {y z : MS} {σ : SHT} {L : List SP1} {cC cS : Nat → Nat} {f : Nat → Int32} {n wh : Nat} {t : TKQ} {B0 : RN} {p : Nat} {s : SP1}
theorem J_fun (h0 : ∀ a0, I a0 → skQ dA ad r la a0) (hkn : ∀ a0, I a0 → knOk dA a0.1.kn a0.1.nser a0.1.pl SS) (hb : basR PS SS nw I dn y) (hj : jOk dA ad r la PS SS nw I σ0 L σ cC cS) (ho : shOk σ) (hp : σ.1 = y.pile) (hr : ∀ a0, I a0 → ∀ a, wkR dA ad r la PS SS nw L a0 L.length a → shp a = σ ∧ stR dA SS nw y a) (h20 : y.pile < 20) (hqi : y.qI) (bz : basR PS SS nw I dn z) (oz : tabO y z y.pile) (zp : z.pile = y.pile) (zq : ∀ q, q < z.points → z.pointSeries q < 256) (s1 : s.1 = 264) (hn : nmRe z z.pile s.2.2.2.1 s.2.2.2.2.1) (hnn : s.2.2.2.1 ≤ 6) (hm : ∀ i, i < z.seriesCount → ∀ v, ((MS.s_valueLength z v).mt i p).1 = pkT s.2.2.2.2.2.1 s.2.2.2.2.2.2.1 s.2.2.2.2.2.2.2.1 s.2.2.2.2.2.2.2.2 SS i) (hnu : s.2.2.1.toInt32 = nI wh) (hwh : wh < 7) : ∃ (σ1 : SHT) (cC' cS' : Nat → Nat), jOk dA ad r la PS SS nw I σ0 (L ++ [s]) σ1 cC' cS' ∧ shOk σ1 ∧ σ1.1 = (z.rkS wh p).pile ∧ ∀ a0, I a0 → ∀ b, wkR dA ad r la PS SS nw (L ++ [s]) a0 (L ++ [s]).length b → shp b = σ1 ∧ stR dA SS nw (z.rkS wh p) b := by
  obtain ⟨p1, p2, p3, p4⟩ := shPu_ok ho (by omega)
  have w : z.windows = nw := bz.1.1
  have h64 : nw ≤ 64 := by
    have := bz.1.2.1.1
    rw [w] at this
    exact this
  obtain ⟨R, eR⟩ : ∃ R, R = rwN s SS z.seriesCount := ⟨_, rfl⟩
  have hR : R ≤ 256 := by
    rw [eR]
    exact rw_256 s SS _
  have hRw : R * nw ≤ 16384 := rw_le hR h64
  obtain ⟨f1, f2, f3⟩ := shFn_ok ho (by omega) hRw
  have A : ∀ a0, I a0 → ∀ a, shp a = σ → stR dA SS nw y a → skQ dA ad r la a → a0.1.ak a.1 → ∀ c0 s0, wkO dA ad r la SS s c0 (c0 + 9) s0 (s0 + fnS (R * nw) σ) a := by
    intro a0 i0 a e hs _ hak c0 s0
    have ea : a.1.adep ≤ a.2.1.sz := by
      have := ho.1
      rw [← e] at this
      exact this
    have ee : a.2.1.eN ≤ 40 := by
      have := ho.2.2.1
      rw [← e] at this
      exact this
    have ep : psS a.1 a.2.1 = puS σ := by rw [← e]; rfl
    refine Or.inr (Or.inl ⟨s1, ea, by omega, hnn, by rw [hnu]; exact fn_lt hwh, ?_, ?_, fun m hm => ?_⟩)
    · unfold psC
      split <;> omega
    · rw [ep]
      unfold fnS
      omega
    · have em := shp_ps hm
      rw [e] at em
      obtain ⟨b1, b2, b3, b4, b5, b6, b7⟩ := ps_st hm hs ea
      have cn := p1.2.2.2.1 σ.1 p2
      have hak2 := ak_t hak (ps_k hm)
      obtain ⟨k1, k2, k3, k4, -⟩ := ak_f hak2
      have cq : (shPu σ).2.2.2.1 σ.1 = (m.2.2.2 y.pile).cN := by rw [← em, hp, shp_c b2]
      have bq : (shPu σ).2.2.2.2 = m.1.bN := by rw [← em]; rfl
      have mb : m.1.bN ≤ 32768 := by rw [← bq]; exact p1.2.2.2.2
      rw [cq] at cn
      obtain ⟨z1, z2, z3, z4, z5⟩ := bz.2.2 a0 i0
      rw [hs.1, k1, k2, k3, k4, z3, z2, ep]
      refine ⟨by omega, by rw [← (ak_f hak).1]; exact b4 _ b2, by omega, by rw [b6]; exact hs.2.2.2, ?_⟩
      rw [rw_R s (g := (TB.s_rc (TB.s_wi (TB.s_nc (m.2.2.2 y.pile) s.2.2.2.1) nw) 0, fun _ => [], m.1.aro, m.1.ahb)) rfl rfl rfl, ← eR]
      unfold pkS fnS
      rw [cq, bq]
      omega
  have B : ∀ a0, I a0 → ∀ a b, shp a = σ → stR dA SS nw y a → skQ dA ad r la a → a0.1.ak a.1 → wkS dA ad r la PS SS nw s a b → shp b = shFn (R * nw) σ ∧ stR dA SS nw (z.rkS wh p) b := by
    intro a0 i0 a b e hs _ hak hw
    have ea : a.1.adep ≤ a.2.1.sz := by
      have := ho.1
      rw [← e] at this
      exact this
    rcases hw with ⟨e1, -⟩ | ⟨-, m, W, v9, hmp, pf, hu⟩ | ⟨e1, -⟩ | ⟨e1, -⟩
    · rw [s1] at e1
      exact absurd (Eq.symm e1) ne_5764
    · have em := shp_ps hmp
      rw [e] at em
      obtain ⟨b1, b2, b3, b4, b5, b6, b7⟩ := ps_st hmp hs ea
      have hak2 := ak_t hak (ps_k hmp)
      have hak3 : a0.1.ak (VS.s_ll m.1 W) := ak_t hak2 rfl
      obtain ⟨k1, k2, k3, k4, k5, k6, -⟩ := ak_f hak3
      have cn := p1.2.2.2.1 σ.1 p2
      have cq : (shPu σ).2.2.2.1 σ.1 = (m.2.2.2 y.pile).cN := by rw [← em, hp, shp_c b2]
      have bq : (shPu σ).2.2.2.2 = m.1.bN := by rw [← em]; rfl
      have mb : m.1.bN ≤ 32768 := by rw [← bq]; exact p1.2.2.2.2
      rw [cq] at cn
      rw [hs.1] at pf hu
      obtain ⟨x, ex⟩ : ∃ x, x = VS.s_ll m.1 W := ⟨_, rfl⟩
      have xb : x.bN = m.1.bN ∧ x.bO = m.1.bO ∧ x.pl = m.1.pl := by rw [ex]; exact ⟨rfl, rfl, rfl⟩
      rw [← ex] at pf k1 k2 k3 k4 k5 k6 hak3
      obtain ⟨z1, z2, z3, z4, z5⟩ := bz.2.2 a0 i0
      have RR := rw_R (SS := SS) (kn := a0.1.kn) (n := z.seriesCount) s (g := (TB.s_rc (TB.s_wi (TB.s_nc (m.2.2.2 y.pile) s.2.2.2.1) x.awi) 0, fun _ => [], x.aro, x.ahb)) rfl rfl rfl
      obtain ⟨q1, ⟨RS', q2, q3⟩, q4, q5, q6⟩ := pk_T (R := R) (p := p) pf hn hnn bz.2.1.1 bz.2.1.2 bz.1.2.2.1 zq hm hnu hwh bz.1.2.1 (ptR_ak hak3 z1) ⟨by rw [k5]; exact z4, by rw [k6]; exact z5, by rw [k4, w]; exact z3⟩ (k3.trans z2) (by rw [k1, k2, k3]; exact hkn a0 i0) cn.2 (by rw [xb.1]; exact mb) (by rw [xb.2.1, b6]; exact hs.2.2.2) (by rw [k2, k3, z2, RR, eR])
      rw [w] at q3 q4 q5
      rw [xb.1] at q5
      rw [xb.2.2, b5] at q3
      rw [zp] at q2
      have eb := shp_U hu b2
      have e1 : shp b = shFn (R * nw) σ := by
        rw [eb, q4]
        unfold shFn
        rw [← em, hp, shp_c b2]
        show (m.1.adep, _, _, _, v9.2.2.2.2.2.1) = (m.1.adep, _, _, _, gwN (R * nw) m.1.bN)
        rw [q5]
      refine ⟨e1, ?_⟩
      obtain ⟨u1, u2, u3, u4, u5⟩ := hu
      have pb : b.1.pl = a.1.pl := (congrArg VS.pl u1).trans b5
      have ab : b.1.adep = m.1.adep := (congrArg VS.adep u1).trans rfl
      have obo : b.1.bO = v9.2.2.2.2.2.2.2.1 := (congrArg VS.bO u1).trans rfl
      have pz : (z.rkS wh p).pile = y.pile + 1 := by
        rw [← zp]
        rfl
      refine ⟨by rw [pz]; exact ab.trans b1, fun tb ht => ?_, fun tb ht => ?_, by rw [obo]; exact q6⟩
      · rw [pz] at ht
        rw [u4, pb]
        by_cases c : tb = y.pile
        · rw [c, va_up_self]
          exact ⟨_, RS', q2, q3⟩
        · rw [va_up_ne _ _ c]
          obtain ⟨NL3, RS3, w1, w2⟩ := hs.2.1 tb (by omega)
          rw [b3 tb (by omega)]
          have o2 := rk_O (z := z) (wh := wh) (p := p) bz.1.2.1 bz.1.2.2.1
          rw [zp] at o2
          exact ⟨NL3, RS3, tab_o (tabO_t oz o2) c w1, w2⟩
      · rw [u4, pb]
        rw [u2] at ht
        by_cases c : tb = y.pile
        · rw [c, va_up_self]
          exact q3.2.2.2.1
        · rw [va_up_ne _ _ c]
          exact b4 tb ht
    · rw [s1] at e1
      exact absurd e1 ne_6465
    · rw [s1] at e1
      exact absurd e1 nop_64
  obtain ⟨cC', cS', q1, q2⟩ := J_step h0 hj hr A (by omega) f2 B
  refine ⟨_, cC', cS', q1, f1, ?_, q2⟩
  rw [f3, hp, ← zp]
  rfl
end FJ
end
section
/-! The invariant of the steps is kept by every step. -/
section KW
variable {dA : Nat → ClassId} {ad : Nat → Nat} {r : va_W} {la : Nat → Nat} {PS : Nat → PT} {SS : Nat → List LB} {nw : Nat} {I : SKT → Prop} {σ0 : SHT} {dn : Nat → Nat} {f : Nat → Int32} {n : Nat}
theorem bas_ck {y z : MS} (h : y.ck z) (hb : basR PS SS nw I dn y) : basR PS SS nw I dn z := by
  rw [show z = y.ckS z from h]
  exact hb
theorem tabO_nk {y z : MS} (h : y.nk z) (ho : y.nmO z y.pile) : tabO y z y.pile :=
  ⟨⟨nk_f h MS.tape rfl, nk_f h MS.windows rfl, nk_f h MS.seriesCount rfl⟩, fun q hq => ⟨ho.1 q hq, congrFun (nk_f h MS.tableRows rfl) q⟩, fun q hq => ho.2 q hq, fun q _ => congrFun (nk_f h MS.rowSeries rfl) q, fun q _ => ⟨congrFun (nk_f h MS.isCell rfl) q, congrFun (nk_f h MS.cells rfl) q⟩⟩
theorem jk_w (h0 : ∀ a0, I a0 → skQ dA ad r la a0) (hpl : ∀ a0, I a0 → plF a0.1.pl) (hkn : ∀ a0, I a0 → knOk dA a0.1.kn a0.1.nser a0.1.pl SS) : JK f n (Jw dA ad r la PS SS nw I σ0 dn) (Jx dA ad r la PS SS nw I σ0) := by
  refine ⟨fun L y z j h => ?_, fun L s y z j hw h => ?_, fun L y q j hw qi h20 => ?_, fun L y q j hw qi h1 => ?_, fun L y a q j hw qi h2 hb => ⟨fun ob => ?_, fun ob => ?_⟩, fun L y z t b wh j hw qi h20 ft fl nk no hn hnn hu hl he hf hwh => ?_⟩
  · intro wz
    have h : z = y.sgS z := h
    have wy : y.works = true := by
      rw [h] at wz
      exact wz
    obtain ⟨bb, σ, cC, cS, j1, j2, j3, j4⟩ := j wy
    refine ⟨?_, σ, cC, cS, j1, j2, ?_, fun a0 i0 a ha => ⟨(j4 a0 i0 a ha).1, ?_⟩⟩
    · rw [h]
      exact bb
    · rw [h]
      exact j3
    · rw [h]
      exact (j4 a0 i0 a ha).2
  · intro wz
    have : z.works = y.works := nk_f h MS.works rfl
    rw [this, hw] at wz
    cases wz
  · intro _
    obtain ⟨bb, σ, cC, cS, j1, j2, j3, j4⟩ := j hw
    obtain ⟨σ1, cC', cS', k⟩ := J_num h0 bb j1 j2 j3 j4 h20 q
    exact ⟨bas_ck (ck_nb y) bb, σ1, cC', cS', k⟩
  · intro _
    obtain ⟨bb, σ, cC, cS, j1, j2, j3, j4⟩ := j hw
    obtain ⟨σ1, cC', cS', k⟩ := J_turn h0 bb j1 j2 j3 j4 h1 q
    exact ⟨bas_ck (ck_ng y) bb, σ1, cC', cS', k⟩
  · intro _
    obtain ⟨bb, σ, cC, cS, j1, j2, j3, j4⟩ := j hw
    obtain ⟨σ1, cC', cS', k⟩ := J_op h0 hpl bb j1 j2 j3 j4 h2 (bin_c hb).2.2.1 ob q
    exact ⟨bas_ck (ck_opS y _ q) bb, σ1, cC', cS', k⟩
  · obtain ⟨bb, σ, cC, cS, j1, j2, j3, j4⟩ := j hw
    exact J_opx bb j1 j2 j3 j4 h2 (bin_c hb).2.2.1 ob q
  · intro _
    obtain ⟨bb, σ, cC, cS, j1, j2, j3, j4⟩ := j hw
    have bz : basR PS SS nw I dn z := bas_ck (ck_nk nk) bb
    have zp : z.pile = y.pile := nk_f nk MS.pile rfl
    have zt : z.tape = f := (nk_f nk MS.tape rfl).trans ft
    have zl : z.length = n := (nk_f nk MS.length rfl).trans fl
    have zq : ∀ q, q < z.points → z.pointSeries q < 256 := fun q hq => by
      rw [nk_f nk MS.points rfl] at hq
      rw [nk_f nk MS.pointSeries rfl]
      exact qi.2.2.2.1 q hq
    obtain ⟨u, u1, u2, u3, u4⟩ := hu
    obtain ⟨σ1, cC', cS', k⟩ := J_fun (p := (tkT f n b.2.1 40).2.2.2.1) (s := pfS f t b (tlT f n b.2.1)) (wh := wh) h0 hkn bb j1 j2 j3 j4 h20 qi bz (tabO_nk nk no) zp zq rfl (by rw [zp]; exact hn) hnn (fun i hi v => by
      have := mt_T (x := MS.s_valueLength z v) (u := u) (s := i) (SS := SS) (t := b.2.1) bz.1.2.2.2 bz.2.1.1 hi (bz.2.1.2 i hi) (u1.trans zt.symm) (u2.trans zl.symm) u3 u4 (show (tlT z.tape z.length b.2.1).1 = true by rw [zt, zl]; exact hl)
      have this : ((MS.s_valueLength z v).mt i (tkT z.tape z.length b.2.1 40).2.2.2.1).1 = allB (tlT z.tape z.length b.2.1).2.2.1 (tkF (tlT z.tape z.length b.2.1).2.2.2.1 (tlT z.tape z.length b.2.1).2.2.2.2.1 (tlT z.tape z.length b.2.1).2.2.2.2.2 (SS i)) := this
      rw [zt, zl] at this
      exact this) (by
      show ((fnV (tkw f t)).toInt64).toInt32 = nI wh
      rw [hf, Int32.toInt32_toInt64]) hwh
    exact ⟨bas_ck (ck_rk z wh _) bz, σ1, cC', cS', k⟩
/-- before the first step -/
theorem J_0 {y : MS} (hb : basR PS SS nw I dn y) (hp : y.pile = 0) (ho : shOk σ0) (h0 : σ0.1 = 0) (ha : ∀ a0, I a0 → shp a0 = σ0 ∧ (∀ tb, tb < a0.2.1.sz → rsAll dA a0.1.pl (a0.2.2.2 tb).rs) ∧ ∀ k, a0.1.bO k < 256) : Jw dA ad r la PS SS nw I σ0 dn [] y := by
  intro _
  refine ⟨hb, σ0, fun _ => 0, fun _ => 0, ⟨fun i hi => absurd hi (Nat.not_lt_zero i), fun _ _ => ⟨Nat.le_refl 0, Nat.le_refl 0⟩, Nat.zero_le _, by show 0 + shQ σ0 ≤ shQ σ0; omega⟩, ho, by rw [hp]; exact h0, fun a0 i0 a e => ?_⟩
  have e : a = a0 := e
  obtain ⟨x1, x2, x3⟩ := ha a0 i0
  rw [e]
  refine ⟨x1, ?_, fun tb ht => by rw [hp] at ht; exact absurd ht (Nat.not_lt_zero tb), x2, x3⟩
  rw [hp, ← h0, ← x1]
  rfl
end KW
end
section
/-! What a question changes in the reference, whether it stops or not. -/
/-- only what a question uses is other, and without a fault the fault's place is as it was -/
def MS.qz (x y : MS) : Prop := x.qk y ∧ (y.faultCode = 0 → x.faultCode = 0 ∧ y.faultPlace = x.faultPlace)
theorem qz_tr {x y z : MS} (h1 : x.qz y) (h2 : y.qz z) : x.qz z := ⟨qk_tr h1.1 h2.1, fun e => ⟨(h1.2 (h2.2 e).1).1, (h2.2 e).2.trans (h1.2 (h2.2 e).1).2⟩⟩
theorem qz_rf (x : MS) : x.qz x := ⟨rfl, fun e => ⟨e, rfl⟩⟩
theorem qz_c {x y : MS} (h : x.qk y) (h1 : y.faultCode = x.faultCode) (h2 : y.faultPlace = x.faultPlace) : x.qz y := ⟨h, fun e => ⟨h1.symm.trans e, h2⟩⟩
theorem i1_n0 : ¬ (1 : Int32) = 0 := by decide
theorem i2_n0 : ¬ (2 : Int32) = 0 := by decide
theorem i3_n0 : ¬ (3 : Int32) = 0 := by decide
theorem i4_n0 : ¬ (4 : Int32) = 0 := by decide
theorem i5_n0 : ¬ (5 : Int32) = 0 := by decide
theorem qz_fl (x : MS) {k : Int32} (q : Nat) (h : ¬ k = 0) : x.qz (x.flS k q) := ⟨qk_ck (ck_tk (tk_fl x k q)), fun e => absurd e h⟩
theorem qz_nxD (x : MS) (d : Nat) : x.qz (x.nxD d).2 := by
  refine ⟨qk_ck (ck_tk (tk_nxD x d)), ?_⟩
  unfold MS.nxD
  repeat' split
  all_goals first | exact fun e => ⟨e, rfl⟩ | exact fun e => absurd e i1_n0
theorem qz_nx (x : MS) : x.qz x.nx.2 := qz_nxD x x.sk
theorem qz_nd (x : MS) (k : Int32) : x.qz (x.ndF k).2 := by
  unfold MS.ndF
  split
  · exact qz_nx x
  · exact qz_fl x _ i2_n0
theorem qz_mc (x : MS) : x.qz x.mcF.2 := by
  unfold MS.mcF
  split
  · refine qz_tr (qz_nd x 2) ?_
    unfold MS.mc1
    split
    · split
      · exact qz_tr (qz_nx _) (qz_nd _ 3)
      · exact qz_nx _
    · exact qz_fl _ _ i2_n0
  · exact qz_nd x 2
theorem qz_ml : ∀ (w : Nat) (y : MS), y.qz (MS.mlF w y).2
  | 0, y => qz_rf y
  | w + 1, y => by
    unfold MS.mlF
    split
    · split
      · split
        · exact qz_tr (qz_mc y) (qz_tr (qz_nx _) (qz_ml w _))
        · exact qz_tr (qz_mc y) (qz_nx _)
      · exact qz_mc y
    · exact qz_mc y
theorem qz_ad (x : MS) (t : Nat) : x.qz (x.adS t) := qz_c (qk_ck (ck_nk (nk_ad x t))) rfl rfl
theorem qz_byL (t : Nat) : ∀ (w : Nat) (y : MS), y.qz (MS.byL t w y).2
  | 0, y => qz_rf y
  | w + 1, y => by
    unfold MS.byL
    split
    · split
      · exact qz_fl _ _ i4_n0
      · split
        · split
          · split
            · exact qz_tr (qz_ad y t) (qz_tr (qz_nx _) (qz_tr (qz_nx _) (qz_byL t w _)))
            · exact qz_tr (qz_ad y t) (qz_tr (qz_nx _) (qz_nx _))
          · exact qz_tr (qz_ad y t) (qz_tr (qz_nx _) (qz_nd _ 41))
        · exact qz_tr (qz_ad y t) (qz_nx _)
    · exact qz_fl _ _ i2_n0
theorem qz_by (x : MS) : x.qz x.byF.2 := by
  unfold MS.byF
  split
  · split
    · exact qz_tr (qz_nx x) (qz_tr (qz_nd _ 40) (qz_byL _ _ _))
    · exact qz_tr (qz_nx x) (qz_nd _ 40)
  · exact qz_nx x
theorem qz_rk (z : MS) (wh p : Nat) : z.qz (z.rkS wh p) := qz_c (qk_ck (ck_rk z wh p)) rfl rfl
theorem qz_cl5 (z : MS) (wh p : Nat) : z.qz (z.cl5 wh p).2 := by
  unfold MS.cl5
  split
  · split
    · exact qz_tr (qz_rk z wh p) (qz_nx _)
    · exact qz_nx z
  · exact qz_fl _ _ i2_n0
theorem qz_cl4 (y : MS) (wh p : Nat) : y.qz (y.cl4 wh p).2 := by
  unfold MS.cl4
  split
  · exact qz_tr (qz_nd y 125) (qz_cl5 _ wh p)
  · exact qz_nd y 125
theorem qz_cl3 {y : MS} {m : Bool × MS} (h : y.qz m.2) (wh p : Nat) : y.qz (MS.cl3 m wh p).2 := by
  unfold MS.cl3
  split
  · exact qz_tr h (qz_cl4 _ wh p)
  · exact h
theorem qz_cl2 (y : MS) (wh : Nat) : y.qz (y.cl2 wh).2 := by
  unfold MS.cl2
  split
  · split
    · split
      · exact qz_tr (qz_nd y 40) (qz_tr (qz_nd _ 123) (qz_cl4 _ wh _))
      · exact qz_tr (qz_nd y 40) (qz_tr (qz_nd _ 123) (qz_cl3 (qz_ml _ _) wh _))
    · exact qz_tr (qz_nd y 40) (qz_nd _ 123)
  · exact qz_nd y 40
theorem qz_cl0 (x : MS) : x.qz x.cl0 := qz_c rfl rfl rfl
theorem qz_cl (x : MS) (wh : Nat) : x.qz (x.clF wh).2 := by
  unfold MS.clF
  split
  · split
    · split
      · exact qz_tr (qz_cl0 x) (qz_tr (qz_nx _) (qz_tr (qz_by _) (qz_cl2 _ wh)))
      · exact qz_tr (qz_cl0 x) (qz_tr (qz_nx _) (qz_by _))
    · exact qz_tr (qz_cl0 x) (qz_tr (qz_nx _) (qz_cl2 _ wh))
  · exact qz_tr (qz_cl0 x) (qz_nx _)
theorem qz_op (x : MS) (sg : Int32) (q : Nat) : x.qz (x.opS sg q) := by
  refine ⟨qk_ck (ck_opS x sg q), ?_⟩
  unfold MS.opS
  split
  · have hc : (x.opM sg).faultCode = x.faultCode := by
      unfold MS.opM
      split
      · rfl
      · split <;> rfl
    have hp : (x.opM sg).faultPlace = x.faultPlace := by
      unfold MS.opM
      split
      · rfl
      · split <;> rfl
    exact fun e => ⟨hc.symm.trans e, hp⟩
  · exact fun e => absurd e i5_n0
theorem qz_pop (x : MS) : x.qz x.pop := qz_c (qk_dk (dk_pop x)) rfl rfl
theorem qz_dn (x : MS) : x.qz x.dnF.2 := by
  unfold MS.dnF
  split
  · split
    · exact qz_tr (qz_pop x) (qz_c (qk_ck (ck_ng _)) rfl rfl)
    · exact qz_tr (qz_pop x) (qz_op _ _ _)
  · exact qz_pop x
theorem qz_dtF (rk : Nat) : ∀ (w : Nat) (x : MS), x.qz (MS.dtF rk w x).2
  | 0, x => qz_rf x
  | w + 1, x => by
    unfold MS.dtF
    split
    · exact qz_rf x
    · split
      · exact qz_rf x
      · split
        · exact qz_tr (qz_dn x) (qz_dtF rk w _)
        · exact qz_dn x
theorem qz_dt (x : MS) (rk : Nat) : x.qz (x.dt rk).2 := qz_dtF rk x.signCount x
theorem qz_od3 {x : MS} {m : Bool × MS} (h : x.qz m.2) : x.qz (MS.od3 m).2 := by
  unfold MS.od3
  split
  · exact qz_tr h (qz_dt _ 3)
  · exact h
theorem qz_nm1 (y : MS) : y.qz y.nm1.2 := by
  unfold MS.nm1
  split
  · exact qz_tr (qz_c (qk_ck (ck_nb y)) rfl rfl) (qz_nx _)
  · exact qz_nx y
theorem qz_os (x : MS) (sg : Nat) : x.qz (x.osF sg).2 := by
  unfold MS.osF
  split
  · exact qz_fl _ _ i3_n0
  · exact qz_tr (y := x.psS sg) (qz_c rfl rfl rfl) (qz_nx (x.psS sg))
theorem qz_wa (x : MS) (b : Bool) : x.qz (MS.s_wants x b) := qz_c rfl rfl rfl
theorem qz_od (x : MS) : x.qz x.odF.2 := by
  unfold MS.odF
  split
  · exact qz_os x 109
  · split
    · exact qz_os x 40
    · split
      · split
        · exact qz_od3 (qz_tr (qz_wa x false) (qz_nm1 _))
        · exact qz_tr (qz_wa x false) (qz_fl _ _ i2_n0)
      · exact qz_od3 (qz_tr (qz_wa x false) (qz_cl _ _))
theorem qz_opr (x : MS) : x.qz x.opr.2 := by
  unfold MS.opr
  split
  · unfold MS.opr1
    split
    · exact qz_tr (qz_dt x _) (qz_tr (y := (x.dt (rkN x.kind)).2.psh) (qz_c rfl rfl rfl) (qz_nx _))
    · exact qz_dt x _
  · split
    · unfold MS.opr2
      split
      · exact qz_od3 (qz_tr (qz_dt x 1) (qz_tr (y := (x.dt 1).2.pop4) (qz_c rfl rfl rfl) (qz_nx _)))
      · exact qz_dt x 1
    · exact qz_fl _ _ i2_n0
theorem qz_q1 (x : MS) : x.qz x.q1.2 := by
  unfold MS.q1
  split
  · exact qz_od x
  · exact qz_opr x
theorem qz_qL : ∀ (w : Nat) (x : MS), x.qz (MS.qL w x).2
  | 0, x => qz_rf x
  | w + 1, x => by
    unfold MS.qL
    split
    · exact qz_rf x
    · split
      · exact qz_tr (qz_q1 x) (qz_qL w _)
      · exact qz_q1 x
theorem qz_qu (x : MS) (how : Bool) : (MS.s_works x how).qz (x.quF how).2 := by
  have h0 : (MS.s_works x how).qz (x.qu0 how) := qz_c rfl rfl rfl
  unfold MS.quF
  split
  · split
    · refine qz_tr h0 (qz_tr (qz_nx _) (qz_tr (qz_qL (x.length + 1) _) ?_))
      unfold MS.qu3
      split
      · exact qz_fl _ _ i2_n0
      · exact qz_dt _ 1
    · exact qz_tr h0 (qz_tr (qz_nx _) (qz_qL _ _))
  · exact qz_tr h0 (qz_nx _)
end
section
/-! A question asked: the reference, by the class's reading. -/
theorem jk_T (f : Nat → Int32) (n : Nat) : JK f n (fun _ _ => True) (fun _ _ _ => True) :=
  ⟨fun _ _ _ _ _ => trivial, fun _ _ _ _ _ _ _ => trivial, fun _ _ _ _ _ _ _ => trivial, fun _ _ _ _ _ _ _ => trivial, fun _ _ _ _ _ _ _ _ _ => ⟨fun _ => trivial, fun _ => trivial⟩, fun _ _ _ _ _ _ _ _ _ _ _ _ _ _ _ _ _ _ _ _ _ => trivial⟩
/-- what the class reads of a tape -/
def qRd0 (f : Nat → Int32) (n : Nat) (ts : TKQ) : PR := qRd (pQ f n (nxT f n ts))
section AQ
variable {M v0 : MS} {a b : Int64} {n : Nat} {ts : TKQ}
theorem as_r1 (h : M.aW) (e1 : ts.2.2.1 = 0) (e2 : ts.2.2.2.2.1 = 0) (e3 : ts.2.2.2.2.2 = 0) : ((qRd0 M.tape M.length ts).2.1.2.2.2.2.1 = 0 → (qRd0 M.tape M.length ts).1 = true ∧ ∃ v, (M.as0 a b n).quF false = (true, v) ∧ v.faultCode = 0 ∧ v.faultPlace = 0) ∧ (¬ (qRd0 M.tape M.length ts).2.1.2.2.2.2.1 = 0 → (qRd0 M.tape M.length ts).1 = false ∧ ∃ v, (M.as0 a b n).quF false = (false, v) ∧ flR v (qRd0 M.tape M.length ts).2.1) := by
  obtain ⟨q1, q2⟩ := qu_q (x := M.as0 a b n) (how := false) (ts := ts) (as_1 h) (jk_T _ _) e1 e2 e3.symm trivial
  refine ⟨fun e => ?_, fun e => q2 e rfl⟩
  rcases q1 e with ⟨v, v1, v2, -, v4⟩ | ⟨v1, -⟩
  · refine ⟨v1, v, v2, v4.1.trans e, ?_⟩
    have z := (qz_qu (M.as0 a b n) false).2
    rw [v2] at z
    exact (z (v4.1.trans e)).2
  · cases v1
variable {dA : Nat → ClassId} {ad : Nat → Nat} {r : va_W} {la : Nat → Nat} {PS : Nat → PT} {SS : Nat → List LB} {nw : Nat} {I : SKT → Prop} {σ0 : SHT} {dn : Nat → Nat}
theorem as_r2 (h : v0.qW true) (hp : v0.faultPlace = 0) (e1 : ts.2.2.1 = 0) (e2 : ts.2.2.2.2.1 = 0) (e3 : ts.2.2.2.2.2 = 0) (he : (qRd0 v0.tape v0.length ts).2.1.2.2.2.2.1 = 0) (h0 : ∀ a0, I a0 → skQ dA ad r la a0) (hpl : ∀ a0, I a0 → plF a0.1.pl) (hkn : ∀ a0, I a0 → knOk dA a0.1.kn a0.1.nser a0.1.pl SS) (hb : basR PS SS nw I dn v0) (ho : shOk σ0) (hz : σ0.1 = 0) (ha : ∀ a0, I a0 → shp a0 = σ0 ∧ (∀ tb, tb < a0.2.1.sz → rsAll dA a0.1.pl (a0.2.2.2 tb).rs) ∧ ∀ k, a0.1.bO k < 256) :
    (∃ v, v0.quF true = (true, v) ∧ Jw dA ad r la PS SS nw I σ0 dn (qRd0 v0.tape v0.length ts).2.2 v ∧ v.pile = 1 ∧ v.works = true) ∨ ∃ v, v0.quF true = (false, v) ∧ FFq (Jx dA ad r la PS SS nw I σ0) (qRd0 v0.tape v0.length ts).2.2 v := by
  obtain ⟨q1, -⟩ := qu_q (x := v0) (how := true) (ts := ts) h (jk_w h0 hpl hkn) e1 e2 (hp.trans e3.symm) (J_0 (y := v0.qu0 true) hb rfl ho hz ha)
  rcases q1 he with ⟨v, v1, v2, v3, v4⟩ | ⟨-, v, v1, v2⟩
  · obtain ⟨d1, d2, d3⟩ := qu_in h v2
    have w : v.works = true := qk_f d2 MS.works rfl
    refine Or.inl ⟨v, v2, v3, ?_, w⟩
    have s := d1.1
    have s5 := s.2.2.2.2 w
    have s2 := s.2.1
    rw [d3] at s2 s5
    have s2 : 0 = v.opn := s2
    omega
  · exact Or.inr ⟨v, v1, v2⟩
end AQ
section AH
variable {dA : Nat → ClassId} {ad : Nat → Nat} {r : va_W} {la : Nat → Nat} {PS : Nat → PT} {SS : Nat → List LB} {nw : Nat} {I : SKT → Prop} {σ0 : SHT} {dn : Nat → Nat} {S : List SP1} {v : MS}
/-- every step can be done: what the call wants to know of the steps -/
theorem as_w1 (hj : Jw dA ad r la PS SS nw I σ0 dn S v) (hw : v.works = true) (hp : v.pile = 1) : ∃ (cC cS : Nat → Nat) (σ : SHT), (∀ i, i ≤ S.length → cC i ≤ cC S.length ∧ cS i ≤ cS S.length) ∧ (∀ a0, I a0 → ∀ i a, i < S.length → wkR dA ad r la PS SS nw S a0 i a → wkO dA ad r la SS (S.getD i (spO 0 0 0)) (cC i) (cC (i + 1)) (cS i) (cS (i + 1)) a) ∧ cC S.length ≤ 9 * S.length ∧ cS S.length + shQ σ0 ≤ shQ σ ∧ shOk σ ∧ basR PS SS nw I dn v ∧ ∀ a0, I a0 → ∀ a, wkR dA ad r la PS SS nw S a0 S.length a → shp a = σ ∧ 0 < a.2.1.sz ∧ (∃ NL RS, tabR v 0 (a.2.2.2 0) NL RS SS ∧ tbK dA a.1.pl nw (a.2.2.2 0) NL RS) ∧ (∀ tb, tb < a.2.1.sz → rsAll dA a.1.pl (a.2.2.2 tb).rs) ∧ ∀ k, a.1.bO k < 256 := by
  obtain ⟨bb, σ, cC, cS, ⟨j1, j2, j3, j4⟩, k2, k3, k4⟩ := hj hw
  refine ⟨cC, cS, σ, j2, fun a0 i0 i a hi ha => j1 i hi a0 i0 a ha, j3, j4, k2, bb, fun a0 i0 a ha => ?_⟩
  obtain ⟨e, s1, s2, s3, s4⟩ := k4 a0 i0 a ha
  have ea : a.1.adep ≤ a.2.1.sz := by
    have := k2.1
    rw [← e] at this
    exact this
  exact ⟨e, by omega, s2 0 (by omega), s3, s4⟩
/-- a step that can't be done -/
theorem as_w2 (hj : FFq (Jx dA ad r la PS SS nw I σ0) S v) : ∃ (k : Nat) (cC cS : Nat → Nat) (σ : SHT), k < S.length ∧ (∀ i, i ≤ k → cC i ≤ cC k ∧ cS i ≤ cS k) ∧ (∀ a0, I a0 → ∀ i a, i < k → wkR dA ad r la PS SS nw S a0 i a → wkO dA ad r la SS (S.getD i (spO 0 0 0)) (cC i) (cC (i + 1)) (cS i) (cS (i + 1)) a) ∧ cC k ≤ 9 * k ∧ cS k + shQ σ0 ≤ shQ σ ∧ shOk σ ∧ (∀ a0, I a0 → ∀ a, wkR dA ad r la PS SS nw S a0 k a → shp a = σ ∧ wkX dA (S.getD k (spO 0 0 0)) a ∧ (∀ tb, tb < a.2.1.sz → rsAll dA a.1.pl (a.2.2.2 tb).rs) ∧ ∀ k, a.1.bO k < 256) ∧ v.faultCode = 5 ∧ v.faultPlace = nI (S.getD k (spO 0 0 0)).2.1 := by
  obtain ⟨L1, s, L2, eS, σ, cC, cS, ⟨j1, j2, j3, j4⟩, k2, k3, k4, k5⟩ := hj
  subst eS
  refine ⟨L1.length, cC, cS, σ, by rw [List.length_append, List.length_cons]; omega, j2, fun a0 i0 i a hi ha => ?_, j3, j4, k2, fun a0 i0 a ha => ?_, k4, by rw [gtD_e]; exact k5⟩
  · rw [gtD_l hi]
    exact j1 i hi a0 i0 a ((wkR_app (by omega)).mp ha)
  · rw [gtD_e]
    exact k3 a0 i0 a ((wkR_app (Nat.le_refl _)).mp ha)
end AH
end
section
/-! The table shown: both sides. -/
/-- what names, text, isThere and cell tell -/
def shwR (m : MS) (t : TB) (NL : Nat → List Int32) (RS : Nat → List LB) : Prop :=
  (m.names = t.nc ∧ t.nc ≤ 6 ∧ m.rows = t.rc ∧ t.rc ≤ 256 ∧ m.shownWindows = t.wi ∧ t.wi ≤ 64) ∧
  (∀ r w, r < t.rc → w < t.wi → m.isShown (64 * r + w) = hasB (t.th r) w ∧ (hasB (t.th r) w = true → m.shown (64 * r + w) = t.ce (r * t.wi + w))) ∧
  ∀ r k, r < t.rc → k < t.nc → m.rowLengths (6 * r + k) = (valS (RS r) (NL k)).length ∧ (valS (RS r) (NL k)).length ≤ 24 ∧ ∀ j, j < (valS (RS r) (NL k)).length → m.rowTexts ((6 * r + k) * 24 + j) = (valS (RS r) (NL k)).getD j 0 &&& 255
theorem cpA_at {α : Type} (f g : Nat → α) (a b : Nat) : ∀ n j, cpA f g a b n j = if b ≤ j ∧ j < b + n then f (a + (j - b)) else g j
  | 0, j => by rw [if_neg (by omega)]; rfl
  | n + 1, j => by
    show va_up (cpA f g a b n) (b + n) (f (a + n)) j = _
    by_cases e : j = b + n
    · rw [e, va_up_self, if_pos (by omega), show b + n - b = n by omega]
    · rw [va_up_ne _ _ e, cpA_at f g a b n j]
      exact if_cg (by omega) rfl rfl
theorem shG_at {α : Type} (f g : Nat → α) {w : Nat} (hw : w ≤ 64) : ∀ n r c, r < n → c < w → shG f g w n (64 * r + c) = f ((0 * 256 + r) * 64 + c)
  | 0, r, c, hr, _ => absurd hr (Nat.not_lt_zero r)
  | n + 1, r, c, hr, hc => by
    show cpA f (shG f g w n) (cA 0 n) (64 * n) w (64 * r + c) = _
    rw [cpA_at]
    by_cases e : r = n
    · subst e
      rw [if_pos (by omega)]
      unfold cA
      rw [show 64 * r + c - 64 * r = c by omega]
    · rw [if_neg (by omega)]
      exact shG_at f g hw n r c (by omega) hc
section KT
variable {x : MS} {r : Nat}
theorem ktK_at (g : ktT) (hl : ∀ k, k < x.tableNames 0 → (x.ktV r k).2.1 ≤ 24) : ∀ n, n ≤ x.tableNames 0 → (∀ k, k < n → (x.ktK r g n).1 (6 * r + k) = (x.ktV r k).2.1 ∧ ∀ j, j < (x.ktV r k).2.1 → (x.ktK r g n).2.1 ((6 * r + k) * 24 + j) = x.texts ((x.ktV r k).1 + j)) ∧ (∀ q, q < 6 * r → (x.ktK r g n).1 q = g.1 q) ∧ ∀ q, q < 6 * r * 24 → (x.ktK r g n).2.1 q = g.2.1 q
  | 0, _ => ⟨fun k hk => absurd hk (Nat.not_lt_zero k), fun _ _ => rfl, fun _ _ => rfl⟩
  | n + 1, hn => by
    obtain ⟨i1, i2, i3⟩ := ktK_at g hl n (by omega)
    have ln := hl n (by omega)
    show (∀ k, k < n + 1 → va_up (x.ktK r g n).1 (6 * r + n) (x.ktV r n).2.1 (6 * r + k) = _ ∧ ∀ j, j < (x.ktV r k).2.1 → cpG x.texts (x.ktK r g n).2.1 (x.ktV r n).1 ((6 * r + n) * 24) (x.ktV r n).2.1 ((6 * r + k) * 24 + j) = _) ∧ (∀ q, q < 6 * r → va_up (x.ktK r g n).1 (6 * r + n) (x.ktV r n).2.1 q = _) ∧ ∀ q, q < 6 * r * 24 → cpG x.texts (x.ktK r g n).2.1 (x.ktV r n).1 ((6 * r + n) * 24) (x.ktV r n).2.1 q = _
    refine ⟨fun k hk => ?_, fun q hq => ?_, fun q hq => ?_⟩
    · by_cases e : k = n
      · subst e
        rw [va_up_self]
        refine ⟨rfl, fun j hj => ?_⟩
        rw [cpG_at, if_pos (by omega), Nat.add_sub_cancel_left]
      · rw [va_up_ne _ _ (by omega)]
        obtain ⟨a1, a2⟩ := i1 k (by omega)
        refine ⟨a1, fun j hj => ?_⟩
        have lk := hl k (by omega)
        rw [cpG_at, if_neg (by omega)]
        exact a2 j hj
    · rw [va_up_ne _ _ (by omega)]
      exact i2 q hq
    · rw [cpG_at, if_neg (by omega)]
      exact i3 q hq
theorem ktR_at (h6 : x.tableNames 0 ≤ 6) {N : Nat} (hl : ∀ r k, r < N → k < x.tableNames 0 → (x.ktV r k).2.1 ≤ 24) : ∀ n, n ≤ N → ∀ r k, r < n → k < x.tableNames 0 → (x.ktR n).1 (6 * r + k) = (x.ktV r k).2.1 ∧ ∀ j, j < (x.ktV r k).2.1 → (x.ktR n).2.1 ((6 * r + k) * 24 + j) = x.texts ((x.ktV r k).1 + j)
  | 0, _, r, k, hr, _ => absurd hr (Nat.not_lt_zero r)
  | n + 1, hn, r, k, hr, hk => by
    obtain ⟨a1, a2, a3⟩ := ktK_at (x := x) (r := n) (x.ktR n) (fun k hk => hl n k (by omega) hk) (x.tableNames 0) (Nat.le_refl _)
    show (x.ktK n (x.ktR n) (x.tableNames 0)).1 (6 * r + k) = _ ∧ ∀ j, j < (x.ktV r k).2.1 → (x.ktK n (x.ktR n) (x.tableNames 0)).2.1 ((6 * r + k) * 24 + j) = _
    by_cases e : r = n
    · subst e
      exact a1 k hk
    · obtain ⟨b1, b2⟩ := ktR_at h6 hl n (by omega) r k (by omega) hk
      refine ⟨by rw [a2 _ (by omega)]; exact b1, fun j hj => ?_⟩
      have lk := hl r k (by omega) hk
      rw [a3 _ (by omega)]
      exact b2 j hj
end KT
theorem getD_and {L : List Int32} (h : asc L) {j : Nat} (hj : j < L.length) : L.getD j 0 &&& 255 = L.getD j 0 := by
  rw [gD_el hj]
  obtain ⟨n, n1, n2⟩ := h _ (List.getElem_mem hj)
  rw [n2]
  exact asc_and n n1
theorem kp_shw {v : MS} {t : TB} {NL : Nat → List Int32} {RS SS : Nat → List LB} (ht : tabR v 0 t NL RS SS) (hx : txR v.texts v.textLengths v.seriesCount SS) (hg : ∀ q, q < v.seriesCount → serG (SS q)) : shwR v.kpS t NL RS := by
  obtain ⟨⟨n1, n2⟩, ⟨r1, r2, r3, r4⟩, s1, s2, s3⟩ := ht
  have val : ∀ r k, r < t.rc → k < t.nc → voR v.texts (valS (RS r) (NL k)) (v.ktV r k) ∧ serG (RS r) := fun r k hr hk => by
    obtain ⟨g1, -⟩ := s1 (by omega)
    obtain ⟨a1, a2⟩ := g1 r hr
    have G := hg _ a1
    have q := vo_val hx a1 G.2.1 G.1.1 (v.nameFroms (6 * 0 + k)) (v.nameLengths (6 * 0 + k))
    rw [n1.2 k hk, ← a2] at q
    rw [← a2] at G
    refine ⟨?_, G⟩
    unfold MS.ktV
    rw [show 256 * 0 + r = r by omega, show 6 * 0 + k = k by omega] at q
    exact q
  have tn : v.tableNames 0 = t.nc := n1.1
  have ln : ∀ r k, r < t.rc → k < v.tableNames 0 → (v.ktV r k).2.1 ≤ 24 := fun r k hr hk => by
    obtain ⟨q1, q2⟩ := val r k hr (by omega)
    rw [q1.1]
    exact (valS_a q2 (NL k)).2
  refine ⟨⟨tn, n2, r1, r2, r3.symm, by rw [r3]; exact r4⟩, fun r w hr hw => ?_, fun r k hr hk => ?_⟩
  · show shG v.isCell v.isShown v.windows (v.tableRows 0) (64 * r + w) = _ ∧ (_ → shG v.cells v.shown v.windows (v.tableRows 0) (64 * r + w) = _)
    rw [shG_at _ _ r4 _ r w (by omega) (by rw [← r3]; exact hw), shG_at _ _ r4 _ r w (by omega) (by rw [← r3]; exact hw)]
    exact (s3 r hr).1 w hw
  · obtain ⟨q1, q2⟩ := val r k hr hk
    obtain ⟨b1, b2⟩ := ktR_at (x := v) (by omega) ln (v.tableRows 0) (by omega) r k (by omega) (by omega)
    obtain ⟨c1, c2⟩ := valS_a q2 (NL k)
    refine ⟨?_, c2, fun j hj => ?_⟩
    · show (v.ktR (v.tableRows 0)).1 (6 * r + k) = _
      rw [b1]
      exact q1.1
    · show (v.ktR (v.tableRows 0)).2.1 ((6 * r + k) * 24 + j) = _
      rw [b2 j (by rw [q1.1]; exact hj), q1.2 j hj, getD_and c1 hj]
end
section
set_option maxHeartbeats 4000000 in
set_option maxRecDepth 100000 in
theorem k8_end (l : Launch) (D : va_G) (dA : Nat → ClassId) (sz : Nat) (h : Nat) (ad : Nat → Nat) (x : VS) (p0 : Int32) (F9 : VS → Prop) (fr : Nat) (lo : Nat) (mc9 : Nat) (ms9 : Nat) (hc9 : ∀ sz : Nat, Met l ⟨"SeriesVault", "end", "(I)V"⟩ [Cond.code ⟨"SeriesVault", "end", "(I)V"⟩ prog_1_method_4_code 2 none] { frames := fr, cells := mc9, slots := ms9, locals := lo } (pC D dA [.ref h, .int p0] (VW dA h ad x) sz) (va_Qv (fun (u9 : VS) => F9 u9) (fun (u9 : VS) t9 => bW D (va_A (VW dA h ad x) sz) (VW dA h ad u9) t9) (va_A (VW dA h ad x) sz)) mc9 ms9 (va_A (VW dA h ad x) sz)) : Met l ⟨"SeriesVaultLaw", "end", "(LSeriesVault;I)I"⟩ [Cond.codeWith ⟨"SeriesVaultLaw", "end", "(LSeriesVault;I)I"⟩ method_4_code 3 (some FieldType.int) [(0, 5, 8, 19)]] { frames := fr + 1, cells := mc9, slots := ms9, locals := lo + 21 } (pC D dA [.ref h, .int p0] (VW dA h ad x) sz) (va_Qi (fun (r9 : Int32) (u9 : VS) => r9 = 0 ∧ F9 u9) (fun (u9 : VS) t9 => bW D (va_A (VW dA h ad x) sz) (VW dA h ad u9) t9) (va_A (VW dA h ad x) sz)) mc9 ms9 (va_A (VW dA h ad x) sz) := by
  refine mkW (y := ⟨"SeriesVaultLaw", "end", "(LSeriesVault;I)I"⟩) (cc := method_4_code) (maxL := 3) (av := [.ref h, .int p0]) (ws := VW dA h ad x) (sz := sz) (Qc := fun A => va_Qi (fun (r9 : Int32) (u9 : VS) => r9 = 0 ∧ F9 u9) (fun (u9 : VS) t9 => bW D A (VW dA h ad u9) t9) A) (by decide) (Nat.le_of_ble_eq_true rfl) ?_
  intro A p e s m below meth c ls hsz htab hB
  obtain ⟨hx, hb, hr, hml, hown, hin, hlk, hE, hK, hP, hD, hS, hA, hN, hl⟩ := hB
  have hown : s.vm.findClass "SeriesVaultLaw" = some m.cls := hown
  have hl : lv_has ls 3 [(0, .ref h), (1, .int p0)] := hl
  obtain ⟨H, hH⟩ : ∃ z, z = s.heap := ⟨_, rfl⟩
  have hP : va_P D vwCl (VW dA h ad x) H := by rw [hH]; exact hP
  have hS : va_S A s.heap H [] := by rw [hH]; exact hS
  rw [← hH]
  refine lv_aload_n hx hb d_SeriesVaultLaw_end_0 rfl (lv_at hl 0 rfl) ?_
  refine lv_iload_n hx hb d_SeriesVaultLaw_end_1 rfl (lv_at hl 1 rfl) ?_
  refine jkV (wr := []) (rnV (As := [.int p0]) (rest := []) hx hb hml hown hE hK (hN _ _ hS) hP hD ((fun (_ : Launch) (_ : va_G) (_ : Nat → ClassId) (sz9 : Nat) (_ : Nat) (_ : Nat → Nat) (_ : VS) (_ : Int32) => hc9 sz9) l D dA H.size h ad x p0) (q0 := 0) rfl rfl w346 w345 w347 w348 w277 rfl rfl ⟨⟨by decide, by decide⟩, rfl⟩ ⟨(by first | exact Nat.le_of_ble_eq_true rfl | (dsimp only; omega)), (by first | exact Nat.le_of_ble_eq_true rfl | (dsimp only; omega))⟩ rfl hl.1 rfl (by first | exact Nat.le_of_ble_eq_true rfl | (dsimp only; omega)) d_SeriesVaultLaw_end_2 ⟨(show 0 + mc9 ≤ mc9 by omega), (show 0 + ms9 ≤ ms9 by omega)⟩) hP hD hS hA (fun u2 H locs hp9 hP hD hS => ?_)
  obtain ⟨u8, h9u⟩ : ∃ z9, z9 = u2 := ⟨_, rfl⟩
  subst h9u
  have hP : va_P D vwCl (VW dA h ad u8) H := hP
  have hD : va_D A (VW dA h ad u8) := hD
  have f_f_3 := hp9
  refine lv_goto hx hb d_SeriesVaultLaw_end_5 (tgt := 11) rfl ?_
  refine lv_iconst (v := 0) hx hb d_SeriesVaultLaw_end_11 (by decide) ?_
  exact rfI hx hb hr hlk hS u8 ⟨rfl, f_f_3⟩ hP hD (show 0 + mc9 ≤ mc9 by omega) (show 0 + ms9 ≤ ms9 by omega) d_SeriesVaultLaw_end_12
set_option maxHeartbeats 4000000 in
set_option maxRecDepth 100000 in
theorem k8_end_1 (l : Launch) (D : va_G) (dA : Nat → ClassId) (sz : Nat) (h : Nat) (ad : Nat → Nat) (x : VS) (p0 : Int32) (F9 : VS → Prop) (fr : Nat) (lo : Nat) (mc9 : Nat) (ms9 : Nat) (hc9 : ∀ sz : Nat, mX l ⟨"SeriesVault", "end", "(I)V"⟩ [Cond.code ⟨"SeriesVault", "end", "(I)V"⟩ prog_1_method_4_code 2 none] { frames := fr, cells := mc9, slots := ms9, locals := lo } (pC D dA [.ref h, .int p0] (VW dA h ad x) sz) "java/lang/IllegalArgumentException" (fun st9 t9 => va_F (va_A (VW dA h ad x) sz) st9 t9 ∧ ∃ u9 : VS, F9 u9 ∧ bW D (va_A (VW dA h ad x) sz) (VW dA h ad u9) t9) mc9 ms9 (va_A (VW dA h ad x) sz)) : Met l ⟨"SeriesVaultLaw", "end", "(LSeriesVault;I)I"⟩ [Cond.codeWith ⟨"SeriesVaultLaw", "end", "(LSeriesVault;I)I"⟩ method_4_code 3 (some FieldType.int) [(0, 5, 8, 19)]] { frames := fr + 1, cells := mc9, slots := ms9, locals := lo + 21 } (pC D dA [.ref h, .int p0] (VW dA h ad x) sz) (va_Qi (fun (r9 : Int32) (u9 : VS) => r9 = 1 ∧ F9 u9) (fun (u9 : VS) t9 => bW D (va_A (VW dA h ad x) sz) (VW dA h ad u9) t9) (va_A (VW dA h ad x) sz)) mc9 ms9 (va_A (VW dA h ad x) sz) := by
  refine mkW (y := ⟨"SeriesVaultLaw", "end", "(LSeriesVault;I)I"⟩) (cc := method_4_code) (maxL := 3) (av := [.ref h, .int p0]) (ws := VW dA h ad x) (sz := sz) (Qc := fun A => va_Qi (fun (r9 : Int32) (u9 : VS) => r9 = 1 ∧ F9 u9) (fun (u9 : VS) t9 => bW D A (VW dA h ad u9) t9) A) (by decide) (Nat.le_of_ble_eq_true rfl) ?_
  intro A p e s m below meth c ls hsz htab hB
  obtain ⟨hx, hb, hr, hml, hown, hin, hlk, hE, hK, hP, hD, hS, hA, hN, hl⟩ := hB
  have hown : s.vm.findClass "SeriesVaultLaw" = some m.cls := hown
  have hl : lv_has ls 3 [(0, .ref h), (1, .int p0)] := hl
  obtain ⟨H, hH⟩ : ∃ z, z = s.heap := ⟨_, rfl⟩
  have hP : va_P D vwCl (VW dA h ad x) H := by rw [hH]; exact hP
  have hS : va_S A s.heap H [] := by rw [hH]; exact hS
  rw [← hH]
  refine lv_aload_n hx hb d_SeriesVaultLaw_end_0 rfl (lv_at hl 0 rfl) ?_
  refine lv_iload_n hx hb d_SeriesVaultLaw_end_1 rfl (lv_at hl 1 rfl) ?_
  refine xkV (S := VS) (F := F9) (w1 := fun u => VW dA h ad u) (wr := []) (As := [.int p0]) (rest := []) hx hb hml hown hE hK (hN _ _ hS) (hc9 H.size) (q0 := 0) rfl rfl w346 w345 w347 w348 w277 rfl rfl ⟨⟨by decide, by decide⟩, rfl⟩ ⟨(by first | exact Nat.le_of_ble_eq_true rfl | (dsimp only; omega)), (by first | exact Nat.le_of_ble_eq_true rfl | (dsimp only; omega))⟩ rfl hl.1 rfl (by first | exact Nat.le_of_ble_eq_true rfl | (dsimp only; omega)) d_SeriesVaultLaw_end_2 ⟨(show 0 + mc9 ≤ mc9 by omega), (show 0 + ms9 ≤ ms9 by omega)⟩ hP hD hS hA (fun u2 xa1 ce H locs hf9 hP hD hS hce hcv hcl => ?_)
  have hP : va_P D vwCl (VW dA h ad u2) H := hP
  have hD : va_D A (VW dA h ad u2) := hD
  refine xCatch (E := "java/lang/IllegalArgumentException") hown hE [] ⟨0, 5, 8, 19⟩ [] htab (fun _ h => absurd h List.not_mem_nil) (by decide) (by decide) w349 w267 hce hcv hcl ?_
  refine lv_astore_n hx hb d_SeriesVaultLaw_end_8 rfl hl (by decide) rfl (fun ls hl => ?_)
  have hl : lv_has ls 3 [(2, .ref xa1), (0, .ref h), (1, .int p0)] := hl
  refine lv_iconst (v := 1) hx hb d_SeriesVaultLaw_end_9 (by decide) ?_
  exact rfI hx hb hr hlk hS u2 ⟨rfl, hf9⟩ hP hD (show 0 + mc9 ≤ mc9 by omega) (show 0 + ms9 ≤ ms9 by omega) d_SeriesVaultLaw_end_10
set_option maxHeartbeats 4000000 in
set_option maxRecDepth 100000 in
theorem k8_fault (l : Launch) (D : va_G) (dA : Nat → ClassId) (sz : Nat) (h : Nat) (ad : Nat → Nat) (o : Nat) (og : Nat → Int64) (x : VS) (p0 : Int32) (v9 : Int32) (F9 : VS → Prop) (fr : Nat) (lo : Nat) (mc9 : Nat) (ms9 : Nat) (hc9 : ∀ sz : Nat, Met l ⟨"SeriesVault", "fault", "(I)I"⟩ [Cond.code ⟨"SeriesVault", "fault", "(I)I"⟩ prog_1_method_6_code 2 (some FieldType.int)] { frames := fr, cells := mc9, slots := ms9, locals := lo } (pC D dA [.ref h, .int p0] (VW dA h ad x) sz) (va_Qi (fun (r9 : Int32) (u9 : VS) => r9 = v9 ∧ F9 u9) (fun (u9 : VS) t9 => bW D (va_A (VW dA h ad x) sz) (VW dA h ad u9) t9) (va_A (VW dA h ad x) sz)) mc9 ms9 (va_A (VW dA h ad x) sz)) : Met l ⟨"SeriesVaultLaw", "fault", "(LSeriesVault;I[J)I"⟩ [Cond.codeWith ⟨"SeriesVaultLaw", "fault", "(LSeriesVault;I[J)I"⟩ method_7_code 4 (some FieldType.int) [(0, 9, 12, 35)]] { frames := fr + 1, cells := mc9, slots := ms9, locals := lo + 21 } (pC D dA [.ref h, .int p0, .ref o] ([(o, .inl (dA 2, 1, .inr (.inl og)))] ++ (VW dA h ad x)) sz) (va_Qi (fun (r9 : Int32) (u9 : VS) => r9 = 0 ∧ F9 u9) (fun (u9 : VS) t9 => bW D (va_A ([(o, .inl (dA 2, 1, .inr (.inl og)))] ++ (VW dA h ad x)) sz) ([(o, .inl (dA 2, 1, .inr (.inl (va_up og 0 (v9.toInt64)))))] ++ (VW dA h ad u9)) t9) (va_A ([(o, .inl (dA 2, 1, .inr (.inl og)))] ++ (VW dA h ad x)) sz)) mc9 ms9 (va_A ([(o, .inl (dA 2, 1, .inr (.inl og)))] ++ (VW dA h ad x)) sz) := by
  refine mkW (y := ⟨"SeriesVaultLaw", "fault", "(LSeriesVault;I[J)I"⟩) (cc := method_7_code) (maxL := 4) (av := [.ref h, .int p0, .ref o]) (ws := [(o, .inl (dA 2, 1, .inr (.inl og)))] ++ (VW dA h ad x)) (sz := sz) (Qc := fun A => va_Qi (fun (r9 : Int32) (u9 : VS) => r9 = 0 ∧ F9 u9) (fun (u9 : VS) t9 => bW D A ([(o, .inl (dA 2, 1, .inr (.inl (va_up og 0 (v9.toInt64)))))] ++ (VW dA h ad u9)) t9) A) (by decide) (Nat.le_of_ble_eq_true rfl) ?_
  intro A p e s m below meth c ls hsz htab hB
  obtain ⟨hx, hb, hr, hml, hown, hin, hlk, hE, hK, hP, hD, hS, hA, hN, hl⟩ := hB
  have hown : s.vm.findClass "SeriesVaultLaw" = some m.cls := hown
  have hl : lv_has ls 4 [(0, .ref h), (1, .int p0), (2, .ref o)] := hl
  obtain ⟨H, hH⟩ : ∃ z, z = s.heap := ⟨_, rfl⟩
  have hP : va_P D vwCl ([(o, .inl (dA 2, 1, .inr (.inl og)))] ++ (VW dA h ad x)) H := by rw [hH]; exact hP
  have hS : va_S A s.heap H [] := by rw [hH]; exact hS
  rw [← hH]
  refine lv_aload_n hx hb d_SeriesVaultLaw_fault_0 rfl (lv_at hl 2 rfl) ?_
  refine lv_iconst (v := 0) hx hb d_SeriesVaultLaw_fault_1 (by decide) ?_
  refine lv_aload_n hx hb d_SeriesVaultLaw_fault_2 rfl (lv_at hl 0 rfl) ?_
  refine lv_iload_n hx hb d_SeriesVaultLaw_fault_3 rfl (lv_at hl 1 rfl) ?_
  have hPc : va_P D vwCl (VW dA h ad x) H := spP (wr := [(o, .inl (dA 2, 1, .inr (.inl og)))]) hP
  have hDc : va_D A (VW dA h ad x) := spD (wr := [(o, .inl (dA 2, 1, .inr (.inl og)))]) hD
  refine jkI (wr := [(o, .inl (dA 2, 1, .inr (.inl og)))]) (rnV (As := [.int p0]) (rest := [.int 0, .ref o]) hx hb hml hown hE hK (hN _ _ hS) hPc hDc ((fun (_ : Launch) (_ : va_G) (_ : Nat → ClassId) (sz9 : Nat) (_ : Nat) (_ : Nat → Nat) (_ : VS) (_ : Int32) => hc9 sz9) l D dA H.size h ad x p0) (q0 := 0) rfl rfl w351 w350 w352 w353 w277 rfl rfl ⟨⟨by decide, by decide⟩, rfl⟩ ⟨(by first | exact Nat.le_of_ble_eq_true rfl | (dsimp only; omega)), (by first | exact Nat.le_of_ble_eq_true rfl | (dsimp only; omega))⟩ rfl hl.1 rfl (by first | exact Nat.le_of_ble_eq_true rfl | (dsimp only; omega)) d_SeriesVaultLaw_fault_4 ⟨(show 0 + mc9 ≤ mc9 by omega), (show 0 + ms9 ≤ ms9 by omega)⟩) hP hD hS hA (fun r1 u2 H locs hp9 hP hD hS => ?_)
  obtain ⟨u8, h9u⟩ : ∃ z9, z9 = u2 := ⟨_, rfl⟩
  subst h9u
  have hP : va_P D vwCl ([(o, .inl (dA 2, 1, .inr (.inl og)))] ++ (VW dA h ad u8)) H := hP
  have hD : va_D A ([(o, .inl (dA 2, 1, .inr (.inl og)))] ++ (VW dA h ad u8)) := hD
  obtain ⟨hp9, f_f_3⟩ := hp9
  replace hp9 : v9 = r1 := Eq.symm hp9
  subst hp9
  refine lv_i2l hx hb d_SeriesVaultLaw_fault_7 rfl ?_
  refine nlst (n := 1) hx hb hK hP hD hS (0) 2 rfl rfl (0) (by omega) (by decide) d_SeriesVaultLaw_fault_8 (fun H locs hP hD hS => ?_)
  have hP : va_P D vwCl ([(o, .inl (dA 2, 1, .inr (.inl (va_up og 0 v9.toInt64))))] ++ (VW dA h ad u8)) H := hP
  have hD : va_D A ([(o, .inl (dA 2, 1, .inr (.inl (va_up og 0 v9.toInt64))))] ++ (VW dA h ad u8)) := hD
  refine lv_goto hx hb d_SeriesVaultLaw_fault_9 (tgt := 15) rfl ?_
  refine lv_iconst (v := 0) hx hb d_SeriesVaultLaw_fault_15 (by decide) ?_
  exact rfI hx hb hr hlk hS u8 ⟨rfl, f_f_3⟩ hP hD (show 0 + mc9 ≤ mc9 by omega) (show 0 + ms9 ≤ ms9 by omega) d_SeriesVaultLaw_fault_16
set_option maxHeartbeats 4000000 in
set_option maxRecDepth 100000 in
theorem k8_fault_1 (l : Launch) (D : va_G) (dA : Nat → ClassId) (sz : Nat) (h : Nat) (ad : Nat → Nat) (o : Nat) (og : Nat → Int64) (x : VS) (p0 : Int32) (F9 : VS → Prop) (fr : Nat) (lo : Nat) (mc9 : Nat) (ms9 : Nat) (hc9 : ∀ sz : Nat, mX l ⟨"SeriesVault", "fault", "(I)I"⟩ [Cond.code ⟨"SeriesVault", "fault", "(I)I"⟩ prog_1_method_6_code 2 (some FieldType.int)] { frames := fr, cells := mc9, slots := ms9, locals := lo } (pC D dA [.ref h, .int p0] (VW dA h ad x) sz) "java/lang/IndexOutOfBoundsException" (fun st9 t9 => va_F (va_A (VW dA h ad x) sz) st9 t9 ∧ ∃ u9 : VS, F9 u9 ∧ bW D (va_A (VW dA h ad x) sz) (VW dA h ad u9) t9) mc9 ms9 (va_A (VW dA h ad x) sz)) : Met l ⟨"SeriesVaultLaw", "fault", "(LSeriesVault;I[J)I"⟩ [Cond.codeWith ⟨"SeriesVaultLaw", "fault", "(LSeriesVault;I[J)I"⟩ method_7_code 4 (some FieldType.int) [(0, 9, 12, 35)]] { frames := fr + 1, cells := mc9, slots := ms9, locals := lo + 21 } (pC D dA [.ref h, .int p0, .ref o] ([(o, .inl (dA 2, 1, .inr (.inl og)))] ++ (VW dA h ad x)) sz) (va_Qi (fun (r9 : Int32) (u9 : VS) => r9 = 1 ∧ F9 u9) (fun (u9 : VS) t9 => bW D (va_A ([(o, .inl (dA 2, 1, .inr (.inl og)))] ++ (VW dA h ad x)) sz) ([(o, .inl (dA 2, 1, .inr (.inl og)))] ++ (VW dA h ad u9)) t9) (va_A ([(o, .inl (dA 2, 1, .inr (.inl og)))] ++ (VW dA h ad x)) sz)) mc9 ms9 (va_A ([(o, .inl (dA 2, 1, .inr (.inl og)))] ++ (VW dA h ad x)) sz) := by
  refine mkW (y := ⟨"SeriesVaultLaw", "fault", "(LSeriesVault;I[J)I"⟩) (cc := method_7_code) (maxL := 4) (av := [.ref h, .int p0, .ref o]) (ws := [(o, .inl (dA 2, 1, .inr (.inl og)))] ++ (VW dA h ad x)) (sz := sz) (Qc := fun A => va_Qi (fun (r9 : Int32) (u9 : VS) => r9 = 1 ∧ F9 u9) (fun (u9 : VS) t9 => bW D A ([(o, .inl (dA 2, 1, .inr (.inl og)))] ++ (VW dA h ad u9)) t9) A) (by decide) (Nat.le_of_ble_eq_true rfl) ?_
  intro A p e s m below meth c ls hsz htab hB
  obtain ⟨hx, hb, hr, hml, hown, hin, hlk, hE, hK, hP, hD, hS, hA, hN, hl⟩ := hB
  have hown : s.vm.findClass "SeriesVaultLaw" = some m.cls := hown
  have hl : lv_has ls 4 [(0, .ref h), (1, .int p0), (2, .ref o)] := hl
  obtain ⟨H, hH⟩ : ∃ z, z = s.heap := ⟨_, rfl⟩
  have hP : va_P D vwCl ([(o, .inl (dA 2, 1, .inr (.inl og)))] ++ (VW dA h ad x)) H := by rw [hH]; exact hP
  have hS : va_S A s.heap H [] := by rw [hH]; exact hS
  rw [← hH]
  refine lv_aload_n hx hb d_SeriesVaultLaw_fault_0 rfl (lv_at hl 2 rfl) ?_
  refine lv_iconst (v := 0) hx hb d_SeriesVaultLaw_fault_1 (by decide) ?_
  refine lv_aload_n hx hb d_SeriesVaultLaw_fault_2 rfl (lv_at hl 0 rfl) ?_
  refine lv_iload_n hx hb d_SeriesVaultLaw_fault_3 rfl (lv_at hl 1 rfl) ?_
  refine xkV (S := VS) (F := F9) (w1 := fun u => VW dA h ad u) (wr := [(o, .inl (dA 2, 1, .inr (.inl og)))]) (As := [.int p0]) (rest := [.int 0, .ref o]) hx hb hml hown hE hK (hN _ _ hS) (hc9 H.size) (q0 := 0) rfl rfl w351 w350 w352 w353 w277 rfl rfl ⟨⟨by decide, by decide⟩, rfl⟩ ⟨(by first | exact Nat.le_of_ble_eq_true rfl | (dsimp only; omega)), (by first | exact Nat.le_of_ble_eq_true rfl | (dsimp only; omega))⟩ rfl hl.1 rfl (by first | exact Nat.le_of_ble_eq_true rfl | (dsimp only; omega)) d_SeriesVaultLaw_fault_4 ⟨(show 0 + mc9 ≤ mc9 by omega), (show 0 + ms9 ≤ ms9 by omega)⟩ hP hD hS hA (fun u2 xa1 ce H locs hf9 hP hD hS hce hcv hcl => ?_)
  have hP : va_P D vwCl ([(o, .inl (dA 2, 1, .inr (.inl og)))] ++ (VW dA h ad u2)) H := hP
  have hD : va_D A ([(o, .inl (dA 2, 1, .inr (.inl og)))] ++ (VW dA h ad u2)) := hD
  refine xCatch (E := "java/lang/IndexOutOfBoundsException") hown hE [] ⟨0, 9, 12, 35⟩ [] htab (fun _ h => absurd h List.not_mem_nil) (by decide) (by decide) w354 w222 hce hcv hcl ?_
  refine lv_astore_n hx hb d_SeriesVaultLaw_fault_12 rfl hl (by decide) rfl (fun ls hl => ?_)
  have hl : lv_has ls 4 [(3, .ref xa1), (0, .ref h), (1, .int p0), (2, .ref o)] := hl
  refine lv_iconst (v := 1) hx hb d_SeriesVaultLaw_fault_13 (by decide) ?_
  exact rfI hx hb hr hlk hS u2 ⟨rfl, hf9⟩ hP hD (show 0 + mc9 ≤ mc9 by omega) (show 0 + ms9 ≤ ms9 by omega) d_SeriesVaultLaw_fault_14
set_option maxHeartbeats 4000000 in
set_option maxRecDepth 100000 in
theorem k8_feed (l : Launch) (D : va_G) (dA : Nat → ClassId) (sz : Nat) (h : Nat) (ad : Nat → Nat) (o : Nat) (og : Nat → Int64) (x : VS) (p0 : Int32) (p1 : Int32) (p2 : Int32) (p3 : Int32) (p4 : Int32) (v9 : Int32) (F9 : VS → Prop) (fr : Nat) (lo : Nat) (mc9 : Nat) (ms9 : Nat) (hc9 : ∀ sz : Nat, Met l ⟨"SeriesVault", "feed", "(IIIII)I"⟩ [Cond.code ⟨"SeriesVault", "feed", "(IIIII)I"⟩ prog_1_method_2_code 6 (some FieldType.int)] { frames := fr, cells := mc9, slots := ms9, locals := lo } (pC D dA [.ref h, .int p0, .int p1, .int p2, .int p3, .int p4] (VW dA h ad x) sz) (va_Qi (fun (r9 : Int32) (u9 : VS) => r9 = v9 ∧ F9 u9) (fun (u9 : VS) t9 => bW D (va_A (VW dA h ad x) sz) (VW dA h ad u9) t9) (va_A (VW dA h ad x) sz)) mc9 ms9 (va_A (VW dA h ad x) sz)) : Met l ⟨"SeriesVaultLaw", "feed", "(LSeriesVault;IIIII[J)I"⟩ [Cond.codeWith ⟨"SeriesVaultLaw", "feed", "(LSeriesVault;IIIII[J)I"⟩ method_3_code 8 (some FieldType.int) [(0, 16, 19, 13)]] { frames := fr + 1, cells := mc9, slots := ms9, locals := lo + 25 } (pC D dA [.ref h, .int p0, .int p1, .int p2, .int p3, .int p4, .ref o] ([(o, .inl (dA 2, 1, .inr (.inl og)))] ++ (VW dA h ad x)) sz) (va_Qi (fun (r9 : Int32) (u9 : VS) => r9 = 0 ∧ F9 u9) (fun (u9 : VS) t9 => bW D (va_A ([(o, .inl (dA 2, 1, .inr (.inl og)))] ++ (VW dA h ad x)) sz) ([(o, .inl (dA 2, 1, .inr (.inl (va_up og 0 (v9.toInt64)))))] ++ (VW dA h ad u9)) t9) (va_A ([(o, .inl (dA 2, 1, .inr (.inl og)))] ++ (VW dA h ad x)) sz)) mc9 ms9 (va_A ([(o, .inl (dA 2, 1, .inr (.inl og)))] ++ (VW dA h ad x)) sz) := by
  refine mkW (y := ⟨"SeriesVaultLaw", "feed", "(LSeriesVault;IIIII[J)I"⟩) (cc := method_3_code) (maxL := 8) (av := [.ref h, .int p0, .int p1, .int p2, .int p3, .int p4, .ref o]) (ws := [(o, .inl (dA 2, 1, .inr (.inl og)))] ++ (VW dA h ad x)) (sz := sz) (Qc := fun A => va_Qi (fun (r9 : Int32) (u9 : VS) => r9 = 0 ∧ F9 u9) (fun (u9 : VS) t9 => bW D A ([(o, .inl (dA 2, 1, .inr (.inl (va_up og 0 (v9.toInt64)))))] ++ (VW dA h ad u9)) t9) A) (by decide) (Nat.le_of_ble_eq_true rfl) ?_
  intro A p e s m below meth c ls hsz htab hB
  obtain ⟨hx, hb, hr, hml, hown, hin, hlk, hE, hK, hP, hD, hS, hA, hN, hl⟩ := hB
  have hown : s.vm.findClass "SeriesVaultLaw" = some m.cls := hown
  have hl : lv_has ls 8 [(0, .ref h), (1, .int p0), (2, .int p1), (3, .int p2), (4, .int p3), (5, .int p4), (6, .ref o)] := hl
  obtain ⟨H, hH⟩ : ∃ z, z = s.heap := ⟨_, rfl⟩
  have hP : va_P D vwCl ([(o, .inl (dA 2, 1, .inr (.inl og)))] ++ (VW dA h ad x)) H := by rw [hH]; exact hP
  have hS : va_S A s.heap H [] := by rw [hH]; exact hS
  rw [← hH]
  refine lv_aload hx hb d_SeriesVaultLaw_feed_0 (lv_at hl 6 rfl) ?_
  refine lv_iconst (v := 0) hx hb d_SeriesVaultLaw_feed_2 (by decide) ?_
  refine lv_aload_n hx hb d_SeriesVaultLaw_feed_3 rfl (lv_at hl 0 rfl) ?_
  refine lv_iload_n hx hb d_SeriesVaultLaw_feed_4 rfl (lv_at hl 1 rfl) ?_
  refine lv_iload_n hx hb d_SeriesVaultLaw_feed_5 rfl (lv_at hl 2 rfl) ?_
  refine lv_iload_n hx hb d_SeriesVaultLaw_feed_6 rfl (lv_at hl 3 rfl) ?_
  refine lv_iload hx hb d_SeriesVaultLaw_feed_7 (lv_at hl 4 rfl) ?_
  refine lv_iload hx hb d_SeriesVaultLaw_feed_9 (lv_at hl 5 rfl) ?_
  have hPc : va_P D vwCl (VW dA h ad x) H := spP (wr := [(o, .inl (dA 2, 1, .inr (.inl og)))]) hP
  have hDc : va_D A (VW dA h ad x) := spD (wr := [(o, .inl (dA 2, 1, .inr (.inl og)))]) hD
  refine jkI (wr := [(o, .inl (dA 2, 1, .inr (.inl og)))]) (rnV (As := [.int p0, .int p1, .int p2, .int p3, .int p4]) (rest := [.int 0, .ref o]) hx hb hml hown hE hK (hN _ _ hS) hPc hDc ((fun (_ : Launch) (_ : va_G) (_ : Nat → ClassId) (sz9 : Nat) (_ : Nat) (_ : Nat → Nat) (_ : VS) (_ : Int32) (_ : Int32) (_ : Int32) (_ : Int32) (_ : Int32) => hc9 sz9) l D dA H.size h ad x p0 p1 p2 p3 p4) (q0 := 0) rfl rfl w620 w619 w621 w622 w277 rfl rfl ⟨⟨by decide, by decide⟩, rfl⟩ ⟨(by first | exact Nat.le_of_ble_eq_true rfl | (dsimp only; omega)), (by first | exact Nat.le_of_ble_eq_true rfl | (dsimp only; omega))⟩ rfl hl.1 rfl (by first | exact Nat.le_of_ble_eq_true rfl | (dsimp only; omega)) d_SeriesVaultLaw_feed_11 ⟨(show 0 + mc9 ≤ mc9 by omega), (show 0 + ms9 ≤ ms9 by omega)⟩) hP hD hS hA (fun r1 u2 H locs hp9 hP hD hS => ?_)
  obtain ⟨u8, h9u⟩ : ∃ z9, z9 = u2 := ⟨_, rfl⟩
  subst h9u
  have hP : va_P D vwCl ([(o, .inl (dA 2, 1, .inr (.inl og)))] ++ (VW dA h ad u8)) H := hP
  have hD : va_D A ([(o, .inl (dA 2, 1, .inr (.inl og)))] ++ (VW dA h ad u8)) := hD
  obtain ⟨hp9, f_f_3⟩ := hp9
  replace hp9 : v9 = r1 := Eq.symm hp9
  subst hp9
  refine lv_i2l hx hb d_SeriesVaultLaw_feed_14 rfl ?_
  refine nlst (n := 1) hx hb hK hP hD hS (0) 2 rfl rfl (0) (by omega) (by decide) d_SeriesVaultLaw_feed_15 (fun H locs hP hD hS => ?_)
  have hP : va_P D vwCl ([(o, .inl (dA 2, 1, .inr (.inl (va_up og 0 v9.toInt64))))] ++ (VW dA h ad u8)) H := hP
  have hD : va_D A ([(o, .inl (dA 2, 1, .inr (.inl (va_up og 0 v9.toInt64))))] ++ (VW dA h ad u8)) := hD
  refine lv_goto hx hb d_SeriesVaultLaw_feed_16 (tgt := 23) rfl ?_
  refine lv_iconst (v := 0) hx hb d_SeriesVaultLaw_feed_23 (by decide) ?_
  exact rfI hx hb hr hlk hS u8 ⟨rfl, f_f_3⟩ hP hD (show 0 + mc9 ≤ mc9 by omega) (show 0 + ms9 ≤ ms9 by omega) d_SeriesVaultLaw_feed_24
theorem d_SeriesVaultLaw_feed_19 : decode method_3_code 19 = .ok (.astore 7, 2) := by decide +kernel
theorem d_SeriesVaultLaw_feed_21 : decode method_3_code 21 = .ok (.iconst 1, 1) := by decide +kernel
theorem d_SeriesVaultLaw_feed_22 : decode method_3_code 22 = .ok (.ireturn, 1) := by decide +kernel
theorem w1791 : Cond.classLink "SeriesVaultLaw" 13 "java/lang/UnsupportedOperationException" ∈ aW := aw_of (tb_3 (List.mem_of_getElem? (i := 49) rfl)) rfl
set_option maxHeartbeats 4000000 in
set_option maxRecDepth 100000 in
theorem k8_feed_1 (l : Launch) (D : va_G) (dA : Nat → ClassId) (sz : Nat) (h : Nat) (ad : Nat → Nat) (o : Nat) (og : Nat → Int64) (x : VS) (p0 : Int32) (p1 : Int32) (p2 : Int32) (p3 : Int32) (p4 : Int32) (F9 : VS → Prop) (fr : Nat) (lo : Nat) (mc9 : Nat) (ms9 : Nat) (hc9 : ∀ sz : Nat, mX l ⟨"SeriesVault", "feed", "(IIIII)I"⟩ [Cond.code ⟨"SeriesVault", "feed", "(IIIII)I"⟩ prog_1_method_2_code 6 (some FieldType.int)] { frames := fr, cells := mc9, slots := ms9, locals := lo } (pC D dA [.ref h, .int p0, .int p1, .int p2, .int p3, .int p4] (VW dA h ad x) sz) "java/lang/UnsupportedOperationException" (fun st9 t9 => va_F (va_A (VW dA h ad x) sz) st9 t9 ∧ ∃ u9 : VS, F9 u9 ∧ bW D (va_A (VW dA h ad x) sz) (VW dA h ad u9) t9) mc9 ms9 (va_A (VW dA h ad x) sz)) : Met l ⟨"SeriesVaultLaw", "feed", "(LSeriesVault;IIIII[J)I"⟩ [Cond.codeWith ⟨"SeriesVaultLaw", "feed", "(LSeriesVault;IIIII[J)I"⟩ method_3_code 8 (some FieldType.int) [(0, 16, 19, 13)]] { frames := fr + 1, cells := mc9, slots := ms9, locals := lo + 25 } (pC D dA [.ref h, .int p0, .int p1, .int p2, .int p3, .int p4, .ref o] ([(o, .inl (dA 2, 1, .inr (.inl og)))] ++ (VW dA h ad x)) sz) (va_Qi (fun (r9 : Int32) (u9 : VS) => r9 = 1 ∧ F9 u9) (fun (u9 : VS) t9 => bW D (va_A ([(o, .inl (dA 2, 1, .inr (.inl og)))] ++ (VW dA h ad x)) sz) ([(o, .inl (dA 2, 1, .inr (.inl og)))] ++ (VW dA h ad u9)) t9) (va_A ([(o, .inl (dA 2, 1, .inr (.inl og)))] ++ (VW dA h ad x)) sz)) mc9 ms9 (va_A ([(o, .inl (dA 2, 1, .inr (.inl og)))] ++ (VW dA h ad x)) sz) := by
  refine mkW (y := ⟨"SeriesVaultLaw", "feed", "(LSeriesVault;IIIII[J)I"⟩) (cc := method_3_code) (maxL := 8) (av := [.ref h, .int p0, .int p1, .int p2, .int p3, .int p4, .ref o]) (ws := [(o, .inl (dA 2, 1, .inr (.inl og)))] ++ (VW dA h ad x)) (sz := sz) (Qc := fun A => va_Qi (fun (r9 : Int32) (u9 : VS) => r9 = 1 ∧ F9 u9) (fun (u9 : VS) t9 => bW D A ([(o, .inl (dA 2, 1, .inr (.inl og)))] ++ (VW dA h ad u9)) t9) A) (by decide) (Nat.le_of_ble_eq_true rfl) ?_
  intro A p e s m below meth c ls hsz htab hB
  obtain ⟨hx, hb, hr, hml, hown, hin, hlk, hE, hK, hP, hD, hS, hA, hN, hl⟩ := hB
  have hown : s.vm.findClass "SeriesVaultLaw" = some m.cls := hown
  have hl : lv_has ls 8 [(0, .ref h), (1, .int p0), (2, .int p1), (3, .int p2), (4, .int p3), (5, .int p4), (6, .ref o)] := hl
  obtain ⟨H, hH⟩ : ∃ z, z = s.heap := ⟨_, rfl⟩
  have hP : va_P D vwCl ([(o, .inl (dA 2, 1, .inr (.inl og)))] ++ (VW dA h ad x)) H := by rw [hH]; exact hP
  have hS : va_S A s.heap H [] := by rw [hH]; exact hS
  rw [← hH]
  refine lv_aload hx hb d_SeriesVaultLaw_feed_0 (lv_at hl 6 rfl) ?_
  refine lv_iconst (v := 0) hx hb d_SeriesVaultLaw_feed_2 (by decide) ?_
  refine lv_aload_n hx hb d_SeriesVaultLaw_feed_3 rfl (lv_at hl 0 rfl) ?_
  refine lv_iload_n hx hb d_SeriesVaultLaw_feed_4 rfl (lv_at hl 1 rfl) ?_
  refine lv_iload_n hx hb d_SeriesVaultLaw_feed_5 rfl (lv_at hl 2 rfl) ?_
  refine lv_iload_n hx hb d_SeriesVaultLaw_feed_6 rfl (lv_at hl 3 rfl) ?_
  refine lv_iload hx hb d_SeriesVaultLaw_feed_7 (lv_at hl 4 rfl) ?_
  refine lv_iload hx hb d_SeriesVaultLaw_feed_9 (lv_at hl 5 rfl) ?_
  refine xkV (S := VS) (F := F9) (w1 := fun u => VW dA h ad u) (wr := [(o, .inl (dA 2, 1, .inr (.inl og)))]) (As := [.int p0, .int p1, .int p2, .int p3, .int p4]) (rest := [.int 0, .ref o]) hx hb hml hown hE hK (hN _ _ hS) (hc9 H.size) (q0 := 0) rfl rfl w620 w619 w621 w622 w277 rfl rfl ⟨⟨by decide, by decide⟩, rfl⟩ ⟨(by first | exact Nat.le_of_ble_eq_true rfl | (dsimp only; omega)), (by first | exact Nat.le_of_ble_eq_true rfl | (dsimp only; omega))⟩ rfl hl.1 rfl (by first | exact Nat.le_of_ble_eq_true rfl | (dsimp only; omega)) d_SeriesVaultLaw_feed_11 ⟨(show 0 + mc9 ≤ mc9 by omega), (show 0 + ms9 ≤ ms9 by omega)⟩ hP hD hS hA (fun u2 xa1 ce H locs hf9 hP hD hS hce hcv hcl => ?_)
  have hP : va_P D vwCl ([(o, .inl (dA 2, 1, .inr (.inl og)))] ++ (VW dA h ad u2)) H := hP
  have hD : va_D A ([(o, .inl (dA 2, 1, .inr (.inl og)))] ++ (VW dA h ad u2)) := hD
  refine xCatch (E := "java/lang/UnsupportedOperationException") hown hE [] ⟨0, 16, 19, 13⟩ [] htab (fun _ h => absurd h List.not_mem_nil) (by decide) (by decide) w1791 w1150 hce hcv hcl ?_
  refine lv_astore hx hb d_SeriesVaultLaw_feed_19 hl (by decide) rfl (fun ls hl => ?_)
  have hl : lv_has ls 8 [(7, .ref xa1), (0, .ref h), (1, .int p0), (2, .int p1), (3, .int p2), (4, .int p3), (5, .int p4), (6, .ref o)] := hl
  refine lv_iconst (v := 1) hx hb d_SeriesVaultLaw_feed_21 (by decide) ?_
  exact rfI hx hb hr hlk hS u2 ⟨rfl, hf9⟩ hP hD (show 0 + mc9 ≤ mc9 by omega) (show 0 + ms9 ≤ ms9 by omega) d_SeriesVaultLaw_feed_22
set_option maxHeartbeats 4000000 in
set_option maxRecDepth 100000 in
theorem k8_format (l : Launch) (D : va_G) (dA : Nat → ClassId) (sz : Nat) (h : Nat) (ad : Nat → Nat) (x : VS) (p0 : Int32) (p1 : Int32) (F9 : VS → Prop) (fr : Nat) (lo : Nat) (mc9 : Nat) (ms9 : Nat) (hc9 : ∀ sz : Nat, Met l ⟨"SeriesVault", "format", "(II)V"⟩ [Cond.code ⟨"SeriesVault", "format", "(II)V"⟩ prog_1_method_8_code 3 none] { frames := fr, cells := mc9, slots := ms9, locals := lo } (pC D dA [.ref h, .int p0, .int p1] (VW dA h ad x) sz) (va_Qv (fun (u9 : VS) => F9 u9) (fun (u9 : VS) t9 => bW D (va_A (VW dA h ad x) sz) (VW dA h ad u9) t9) (va_A (VW dA h ad x) sz)) mc9 ms9 (va_A (VW dA h ad x) sz)) : Met l ⟨"SeriesVaultLaw", "format", "(LSeriesVault;II)I"⟩ [Cond.codeWith ⟨"SeriesVaultLaw", "format", "(LSeriesVault;II)I"⟩ method_5_code 4 (some FieldType.int) [(0, 6, 9, 19)]] { frames := fr + 1, cells := mc9, slots := ms9, locals := lo + 22 } (pC D dA [.ref h, .int p0, .int p1] (VW dA h ad x) sz) (va_Qi (fun (r9 : Int32) (u9 : VS) => r9 = 0 ∧ F9 u9) (fun (u9 : VS) t9 => bW D (va_A (VW dA h ad x) sz) (VW dA h ad u9) t9) (va_A (VW dA h ad x) sz)) mc9 ms9 (va_A (VW dA h ad x) sz) := by
  refine mkW (y := ⟨"SeriesVaultLaw", "format", "(LSeriesVault;II)I"⟩) (cc := method_5_code) (maxL := 4) (av := [.ref h, .int p0, .int p1]) (ws := VW dA h ad x) (sz := sz) (Qc := fun A => va_Qi (fun (r9 : Int32) (u9 : VS) => r9 = 0 ∧ F9 u9) (fun (u9 : VS) t9 => bW D A (VW dA h ad u9) t9) A) (by decide) (Nat.le_of_ble_eq_true rfl) ?_
  intro A p e s m below meth c ls hsz htab hB
  obtain ⟨hx, hb, hr, hml, hown, hin, hlk, hE, hK, hP, hD, hS, hA, hN, hl⟩ := hB
  have hown : s.vm.findClass "SeriesVaultLaw" = some m.cls := hown
  have hl : lv_has ls 4 [(0, .ref h), (1, .int p0), (2, .int p1)] := hl
  obtain ⟨H, hH⟩ : ∃ z, z = s.heap := ⟨_, rfl⟩
  have hP : va_P D vwCl (VW dA h ad x) H := by rw [hH]; exact hP
  have hS : va_S A s.heap H [] := by rw [hH]; exact hS
  rw [← hH]
  refine lv_aload_n hx hb d_SeriesVaultLaw_format_0 rfl (lv_at hl 0 rfl) ?_
  refine lv_iload_n hx hb d_SeriesVaultLaw_format_1 rfl (lv_at hl 1 rfl) ?_
  refine lv_iload_n hx hb d_SeriesVaultLaw_format_2 rfl (lv_at hl 2 rfl) ?_
  refine jkV (wr := []) (rnV (As := [.int p0, .int p1]) (rest := []) hx hb hml hown hE hK (hN _ _ hS) hP hD ((fun (_ : Launch) (_ : va_G) (_ : Nat → ClassId) (sz9 : Nat) (_ : Nat) (_ : Nat → Nat) (_ : VS) (_ : Int32) (_ : Int32) => hc9 sz9) l D dA H.size h ad x p0 p1) (q0 := 0) rfl rfl w624 w623 w625 w626 w277 rfl rfl ⟨⟨by decide, by decide⟩, rfl⟩ ⟨(by first | exact Nat.le_of_ble_eq_true rfl | (dsimp only; omega)), (by first | exact Nat.le_of_ble_eq_true rfl | (dsimp only; omega))⟩ rfl hl.1 rfl (by first | exact Nat.le_of_ble_eq_true rfl | (dsimp only; omega)) d_SeriesVaultLaw_format_3 ⟨(show 0 + mc9 ≤ mc9 by omega), (show 0 + ms9 ≤ ms9 by omega)⟩) hP hD hS hA (fun u2 H locs hp9 hP hD hS => ?_)
  obtain ⟨u8, h9u⟩ : ∃ z9, z9 = u2 := ⟨_, rfl⟩
  subst h9u
  have hP : va_P D vwCl (VW dA h ad u8) H := hP
  have hD : va_D A (VW dA h ad u8) := hD
  have f_f_3 := hp9
  refine lv_goto hx hb d_SeriesVaultLaw_format_6 (tgt := 12) rfl ?_
  refine lv_iconst (v := 0) hx hb d_SeriesVaultLaw_format_12 (by decide) ?_
  exact rfI hx hb hr hlk hS u8 ⟨rfl, f_f_3⟩ hP hD (show 0 + mc9 ≤ mc9 by omega) (show 0 + ms9 ≤ ms9 by omega) d_SeriesVaultLaw_format_13
set_option maxHeartbeats 4000000 in
set_option maxRecDepth 100000 in
theorem k8_format_1 (l : Launch) (D : va_G) (dA : Nat → ClassId) (sz : Nat) (h : Nat) (ad : Nat → Nat) (x : VS) (p0 : Int32) (p1 : Int32) (F9 : VS → Prop) (fr : Nat) (lo : Nat) (mc9 : Nat) (ms9 : Nat) (hc9 : ∀ sz : Nat, mX l ⟨"SeriesVault", "format", "(II)V"⟩ [Cond.code ⟨"SeriesVault", "format", "(II)V"⟩ prog_1_method_8_code 3 none] { frames := fr, cells := mc9, slots := ms9, locals := lo } (pC D dA [.ref h, .int p0, .int p1] (VW dA h ad x) sz) "java/lang/IllegalArgumentException" (fun st9 t9 => va_F (va_A (VW dA h ad x) sz) st9 t9 ∧ ∃ u9 : VS, F9 u9 ∧ bW D (va_A (VW dA h ad x) sz) (VW dA h ad u9) t9) mc9 ms9 (va_A (VW dA h ad x) sz)) : Met l ⟨"SeriesVaultLaw", "format", "(LSeriesVault;II)I"⟩ [Cond.codeWith ⟨"SeriesVaultLaw", "format", "(LSeriesVault;II)I"⟩ method_5_code 4 (some FieldType.int) [(0, 6, 9, 19)]] { frames := fr + 1, cells := mc9, slots := ms9, locals := lo + 22 } (pC D dA [.ref h, .int p0, .int p1] (VW dA h ad x) sz) (va_Qi (fun (r9 : Int32) (u9 : VS) => r9 = 1 ∧ F9 u9) (fun (u9 : VS) t9 => bW D (va_A (VW dA h ad x) sz) (VW dA h ad u9) t9) (va_A (VW dA h ad x) sz)) mc9 ms9 (va_A (VW dA h ad x) sz) := by
  refine mkW (y := ⟨"SeriesVaultLaw", "format", "(LSeriesVault;II)I"⟩) (cc := method_5_code) (maxL := 4) (av := [.ref h, .int p0, .int p1]) (ws := VW dA h ad x) (sz := sz) (Qc := fun A => va_Qi (fun (r9 : Int32) (u9 : VS) => r9 = 1 ∧ F9 u9) (fun (u9 : VS) t9 => bW D A (VW dA h ad u9) t9) A) (by decide) (Nat.le_of_ble_eq_true rfl) ?_
  intro A p e s m below meth c ls hsz htab hB
  obtain ⟨hx, hb, hr, hml, hown, hin, hlk, hE, hK, hP, hD, hS, hA, hN, hl⟩ := hB
  have hown : s.vm.findClass "SeriesVaultLaw" = some m.cls := hown
  have hl : lv_has ls 4 [(0, .ref h), (1, .int p0), (2, .int p1)] := hl
  obtain ⟨H, hH⟩ : ∃ z, z = s.heap := ⟨_, rfl⟩
  have hP : va_P D vwCl (VW dA h ad x) H := by rw [hH]; exact hP
  have hS : va_S A s.heap H [] := by rw [hH]; exact hS
  rw [← hH]
  refine lv_aload_n hx hb d_SeriesVaultLaw_format_0 rfl (lv_at hl 0 rfl) ?_
  refine lv_iload_n hx hb d_SeriesVaultLaw_format_1 rfl (lv_at hl 1 rfl) ?_
  refine lv_iload_n hx hb d_SeriesVaultLaw_format_2 rfl (lv_at hl 2 rfl) ?_
  refine xkV (S := VS) (F := F9) (w1 := fun u => VW dA h ad u) (wr := []) (As := [.int p0, .int p1]) (rest := []) hx hb hml hown hE hK (hN _ _ hS) (hc9 H.size) (q0 := 0) rfl rfl w624 w623 w625 w626 w277 rfl rfl ⟨⟨by decide, by decide⟩, rfl⟩ ⟨(by first | exact Nat.le_of_ble_eq_true rfl | (dsimp only; omega)), (by first | exact Nat.le_of_ble_eq_true rfl | (dsimp only; omega))⟩ rfl hl.1 rfl (by first | exact Nat.le_of_ble_eq_true rfl | (dsimp only; omega)) d_SeriesVaultLaw_format_3 ⟨(show 0 + mc9 ≤ mc9 by omega), (show 0 + ms9 ≤ ms9 by omega)⟩ hP hD hS hA (fun u2 xa1 ce H locs hf9 hP hD hS hce hcv hcl => ?_)
  have hP : va_P D vwCl (VW dA h ad u2) H := hP
  have hD : va_D A (VW dA h ad u2) := hD
  refine xCatch (E := "java/lang/IllegalArgumentException") hown hE [] ⟨0, 6, 9, 19⟩ [] htab (fun _ h => absurd h List.not_mem_nil) (by decide) (by decide) w349 w267 hce hcv hcl ?_
  refine lv_astore_n hx hb d_SeriesVaultLaw_format_9 rfl hl (by decide) rfl (fun ls hl => ?_)
  have hl : lv_has ls 4 [(3, .ref xa1), (0, .ref h), (1, .int p0), (2, .int p1)] := hl
  refine lv_iconst (v := 1) hx hb d_SeriesVaultLaw_format_10 (by decide) ?_
  exact rfI hx hb hr hlk hS u2 ⟨rfl, hf9⟩ hP hD (show 0 + mc9 ≤ mc9 by omega) (show 0 + ms9 ≤ ms9 by omega) d_SeriesVaultLaw_format_11
set_option maxHeartbeats 4000000 in
set_option maxRecDepth 100000 in
theorem k8_series (l : Launch) (D : va_G) (dA : Nat → ClassId) (sz : Nat) (h : Nat) (ad : Nat → Nat) (o : Nat) (og : Nat → Int64) (x : VS) (v9 : Int32) (F9 : VS → Prop) (fr : Nat) (lo : Nat) (mc9 : Nat) (ms9 : Nat) (hc9 : ∀ sz : Nat, Met l ⟨"SeriesVault", "series", "()I"⟩ [Cond.code ⟨"SeriesVault", "series", "()I"⟩ prog_1_method_23_code 3 (some FieldType.int)] { frames := fr, cells := mc9, slots := ms9, locals := lo } (pC D dA [.ref h] (VW dA h ad x) sz) (va_Qi (fun (r9 : Int32) (u9 : VS) => r9 = v9 ∧ F9 u9) (fun (u9 : VS) t9 => bW D (va_A (VW dA h ad x) sz) (VW dA h ad u9) t9) (va_A (VW dA h ad x) sz)) mc9 ms9 (va_A (VW dA h ad x) sz)) : Met l ⟨"SeriesVaultLaw", "series", "(LSeriesVault;[J)I"⟩ [Cond.codeWith ⟨"SeriesVaultLaw", "series", "(LSeriesVault;[J)I"⟩ method_6_code 3 (some FieldType.int) [(0, 8, 11, 29), (0, 8, 14, 13)]] { frames := fr + 1, cells := mc9, slots := ms9, locals := lo + 22 } (pC D dA [.ref h, .ref o] ([(o, .inl (dA 2, 1, .inr (.inl og)))] ++ (VW dA h ad x)) sz) (va_Qi (fun (r9 : Int32) (u9 : VS) => r9 = 0 ∧ F9 u9) (fun (u9 : VS) t9 => bW D (va_A ([(o, .inl (dA 2, 1, .inr (.inl og)))] ++ (VW dA h ad x)) sz) ([(o, .inl (dA 2, 1, .inr (.inl (va_up og 0 (v9.toInt64)))))] ++ (VW dA h ad u9)) t9) (va_A ([(o, .inl (dA 2, 1, .inr (.inl og)))] ++ (VW dA h ad x)) sz)) mc9 ms9 (va_A ([(o, .inl (dA 2, 1, .inr (.inl og)))] ++ (VW dA h ad x)) sz) := by
  refine mkW (y := ⟨"SeriesVaultLaw", "series", "(LSeriesVault;[J)I"⟩) (cc := method_6_code) (maxL := 3) (av := [.ref h, .ref o]) (ws := [(o, .inl (dA 2, 1, .inr (.inl og)))] ++ (VW dA h ad x)) (sz := sz) (Qc := fun A => va_Qi (fun (r9 : Int32) (u9 : VS) => r9 = 0 ∧ F9 u9) (fun (u9 : VS) t9 => bW D A ([(o, .inl (dA 2, 1, .inr (.inl (va_up og 0 (v9.toInt64)))))] ++ (VW dA h ad u9)) t9) A) (by decide) (Nat.le_of_ble_eq_true rfl) ?_
  intro A p e s m below meth c ls hsz htab hB
  obtain ⟨hx, hb, hr, hml, hown, hin, hlk, hE, hK, hP, hD, hS, hA, hN, hl⟩ := hB
  have hown : s.vm.findClass "SeriesVaultLaw" = some m.cls := hown
  have hl : lv_has ls 3 [(0, .ref h), (1, .ref o)] := hl
  obtain ⟨H, hH⟩ : ∃ z, z = s.heap := ⟨_, rfl⟩
  have hP : va_P D vwCl ([(o, .inl (dA 2, 1, .inr (.inl og)))] ++ (VW dA h ad x)) H := by rw [hH]; exact hP
  have hS : va_S A s.heap H [] := by rw [hH]; exact hS
  rw [← hH]
  refine lv_aload_n hx hb d_SeriesVaultLaw_series_0 rfl (lv_at hl 1 rfl) ?_
  refine lv_iconst (v := 0) hx hb d_SeriesVaultLaw_series_1 (by decide) ?_
  refine lv_aload_n hx hb d_SeriesVaultLaw_series_2 rfl (lv_at hl 0 rfl) ?_
  have hPc : va_P D vwCl (VW dA h ad x) H := spP (wr := [(o, .inl (dA 2, 1, .inr (.inl og)))]) hP
  have hDc : va_D A (VW dA h ad x) := spD (wr := [(o, .inl (dA 2, 1, .inr (.inl og)))]) hD
  refine jkI (wr := [(o, .inl (dA 2, 1, .inr (.inl og)))]) (rnV (As := []) (rest := [.int 0, .ref o]) hx hb hml hown hE hK (hN _ _ hS) hPc hDc ((fun (_ : Launch) (_ : va_G) (_ : Nat → ClassId) (sz9 : Nat) (_ : Nat) (_ : Nat → Nat) (_ : VS) => hc9 sz9) l D dA H.size h ad x) (q0 := 0) rfl rfl w628 w627 w629 w630 w277 rfl rfl ⟨⟨by decide, by decide⟩, rfl⟩ ⟨(by first | exact Nat.le_of_ble_eq_true rfl | (dsimp only; omega)), (by first | exact Nat.le_of_ble_eq_true rfl | (dsimp only; omega))⟩ rfl hl.1 rfl (by first | exact Nat.le_of_ble_eq_true rfl | (dsimp only; omega)) d_SeriesVaultLaw_series_3 ⟨(show 0 + mc9 ≤ mc9 by omega), (show 0 + ms9 ≤ ms9 by omega)⟩) hP hD hS hA (fun r1 u2 H locs hp9 hP hD hS => ?_)
  obtain ⟨u8, h9u⟩ : ∃ z9, z9 = u2 := ⟨_, rfl⟩
  subst h9u
  have hP : va_P D vwCl ([(o, .inl (dA 2, 1, .inr (.inl og)))] ++ (VW dA h ad u8)) H := hP
  have hD : va_D A ([(o, .inl (dA 2, 1, .inr (.inl og)))] ++ (VW dA h ad u8)) := hD
  obtain ⟨hp9, f_f_3⟩ := hp9
  replace hp9 : v9 = r1 := Eq.symm hp9
  subst hp9
  refine lv_i2l hx hb d_SeriesVaultLaw_series_6 rfl ?_
  refine nlst (n := 1) hx hb hK hP hD hS (0) 2 rfl rfl (0) (by omega) (by decide) d_SeriesVaultLaw_series_7 (fun H locs hP hD hS => ?_)
  have hP : va_P D vwCl ([(o, .inl (dA 2, 1, .inr (.inl (va_up og 0 v9.toInt64))))] ++ (VW dA h ad u8)) H := hP
  have hD : va_D A ([(o, .inl (dA 2, 1, .inr (.inl (va_up og 0 v9.toInt64))))] ++ (VW dA h ad u8)) := hD
  refine lv_goto hx hb d_SeriesVaultLaw_series_8 (tgt := 17) rfl ?_
  refine lv_iconst (v := 0) hx hb d_SeriesVaultLaw_series_17 (by decide) ?_
  exact rfI hx hb hr hlk hS u8 ⟨rfl, f_f_3⟩ hP hD (show 0 + mc9 ≤ mc9 by omega) (show 0 + ms9 ≤ ms9 by omega) d_SeriesVaultLaw_series_18
theorem d_SeriesVaultLaw_series_11 : decode method_6_code 11 = .ok (.astore_n 2, 1) := by decide +kernel
theorem d_SeriesVaultLaw_series_12 : decode method_6_code 12 = .ok (.iconst 1, 1) := by decide +kernel
theorem d_SeriesVaultLaw_series_13 : decode method_6_code 13 = .ok (.ireturn, 1) := by decide +kernel
set_option maxHeartbeats 4000000 in
set_option maxRecDepth 100000 in
theorem k8_series_1 (l : Launch) (D : va_G) (dA : Nat → ClassId) (sz : Nat) (h : Nat) (ad : Nat → Nat) (o : Nat) (og : Nat → Int64) (x : VS) (F9 : VS → Prop) (fr : Nat) (lo : Nat) (mc9 : Nat) (ms9 : Nat) (hc9 : ∀ sz : Nat, mX l ⟨"SeriesVault", "series", "()I"⟩ [Cond.code ⟨"SeriesVault", "series", "()I"⟩ prog_1_method_23_code 3 (some FieldType.int)] { frames := fr, cells := mc9, slots := ms9, locals := lo } (pC D dA [.ref h] (VW dA h ad x) sz) "java/lang/IllegalStateException" (fun st9 t9 => va_F (va_A (VW dA h ad x) sz) st9 t9 ∧ ∃ u9 : VS, F9 u9 ∧ bW D (va_A (VW dA h ad x) sz) (VW dA h ad u9) t9) mc9 ms9 (va_A (VW dA h ad x) sz)) : Met l ⟨"SeriesVaultLaw", "series", "(LSeriesVault;[J)I"⟩ [Cond.codeWith ⟨"SeriesVaultLaw", "series", "(LSeriesVault;[J)I"⟩ method_6_code 3 (some FieldType.int) [(0, 8, 11, 29), (0, 8, 14, 13)]] { frames := fr + 1, cells := mc9, slots := ms9, locals := lo + 22 } (pC D dA [.ref h, .ref o] ([(o, .inl (dA 2, 1, .inr (.inl og)))] ++ (VW dA h ad x)) sz) (va_Qi (fun (r9 : Int32) (u9 : VS) => r9 = 1 ∧ F9 u9) (fun (u9 : VS) t9 => bW D (va_A ([(o, .inl (dA 2, 1, .inr (.inl og)))] ++ (VW dA h ad x)) sz) ([(o, .inl (dA 2, 1, .inr (.inl og)))] ++ (VW dA h ad u9)) t9) (va_A ([(o, .inl (dA 2, 1, .inr (.inl og)))] ++ (VW dA h ad x)) sz)) mc9 ms9 (va_A ([(o, .inl (dA 2, 1, .inr (.inl og)))] ++ (VW dA h ad x)) sz) := by
  refine mkW (y := ⟨"SeriesVaultLaw", "series", "(LSeriesVault;[J)I"⟩) (cc := method_6_code) (maxL := 3) (av := [.ref h, .ref o]) (ws := [(o, .inl (dA 2, 1, .inr (.inl og)))] ++ (VW dA h ad x)) (sz := sz) (Qc := fun A => va_Qi (fun (r9 : Int32) (u9 : VS) => r9 = 1 ∧ F9 u9) (fun (u9 : VS) t9 => bW D A ([(o, .inl (dA 2, 1, .inr (.inl og)))] ++ (VW dA h ad u9)) t9) A) (by decide) (Nat.le_of_ble_eq_true rfl) ?_
  intro A p e s m below meth c ls hsz htab hB
  obtain ⟨hx, hb, hr, hml, hown, hin, hlk, hE, hK, hP, hD, hS, hA, hN, hl⟩ := hB
  have hown : s.vm.findClass "SeriesVaultLaw" = some m.cls := hown
  have hl : lv_has ls 3 [(0, .ref h), (1, .ref o)] := hl
  obtain ⟨H, hH⟩ : ∃ z, z = s.heap := ⟨_, rfl⟩
  have hP : va_P D vwCl ([(o, .inl (dA 2, 1, .inr (.inl og)))] ++ (VW dA h ad x)) H := by rw [hH]; exact hP
  have hS : va_S A s.heap H [] := by rw [hH]; exact hS
  rw [← hH]
  refine lv_aload_n hx hb d_SeriesVaultLaw_series_0 rfl (lv_at hl 1 rfl) ?_
  refine lv_iconst (v := 0) hx hb d_SeriesVaultLaw_series_1 (by decide) ?_
  refine lv_aload_n hx hb d_SeriesVaultLaw_series_2 rfl (lv_at hl 0 rfl) ?_
  refine xkV (S := VS) (F := F9) (w1 := fun u => VW dA h ad u) (wr := [(o, .inl (dA 2, 1, .inr (.inl og)))]) (As := []) (rest := [.int 0, .ref o]) hx hb hml hown hE hK (hN _ _ hS) (hc9 H.size) (q0 := 0) rfl rfl w628 w627 w629 w630 w277 rfl rfl ⟨⟨by decide, by decide⟩, rfl⟩ ⟨(by first | exact Nat.le_of_ble_eq_true rfl | (dsimp only; omega)), (by first | exact Nat.le_of_ble_eq_true rfl | (dsimp only; omega))⟩ rfl hl.1 rfl (by first | exact Nat.le_of_ble_eq_true rfl | (dsimp only; omega)) d_SeriesVaultLaw_series_3 ⟨(show 0 + mc9 ≤ mc9 by omega), (show 0 + ms9 ≤ ms9 by omega)⟩ hP hD hS hA (fun u2 xa1 ce H locs hf9 hP hD hS hce hcv hcl => ?_)
  have hP : va_P D vwCl ([(o, .inl (dA 2, 1, .inr (.inl og)))] ++ (VW dA h ad u2)) H := hP
  have hD : va_D A ([(o, .inl (dA 2, 1, .inr (.inl og)))] ++ (VW dA h ad u2)) := hD
  refine xCatch (E := "java/lang/IllegalStateException") hown hE [] ⟨0, 8, 11, 29⟩ [⟨0, 8, 14, 13⟩] htab (fun _ h => absurd h List.not_mem_nil) (by decide) (by decide) w363 w289 hce hcv hcl ?_
  refine lv_astore_n hx hb d_SeriesVaultLaw_series_11 rfl hl (by decide) rfl (fun ls hl => ?_)
  have hl : lv_has ls 3 [(2, .ref xa1), (0, .ref h), (1, .ref o)] := hl
  refine lv_iconst (v := 1) hx hb d_SeriesVaultLaw_series_12 (by decide) ?_
  exact rfI hx hb hr hlk hS u2 ⟨rfl, hf9⟩ hP hD (show 0 + mc9 ≤ mc9 by omega) (show 0 + ms9 ≤ ms9 by omega) d_SeriesVaultLaw_series_13
theorem d_SeriesVaultLaw_series_14 : decode method_6_code 14 = .ok (.astore_n 2, 1) := by decide +kernel
theorem d_SeriesVaultLaw_series_15 : decode method_6_code 15 = .ok (.iconst 2, 1) := by decide +kernel
theorem d_SeriesVaultLaw_series_16 : decode method_6_code 16 = .ok (.ireturn, 1) := by decide +kernel
set_option maxHeartbeats 4000000 in
set_option maxRecDepth 100000 in
theorem k8_series_2 (l : Launch) (D : va_G) (dA : Nat → ClassId) (sz : Nat) (h : Nat) (ad : Nat → Nat) (o : Nat) (og : Nat → Int64) (x : VS) (F9 : VS → Prop) (fr : Nat) (lo : Nat) (mc9 : Nat) (ms9 : Nat) (hc9 : ∀ sz : Nat, mX l ⟨"SeriesVault", "series", "()I"⟩ [Cond.code ⟨"SeriesVault", "series", "()I"⟩ prog_1_method_23_code 3 (some FieldType.int)] { frames := fr, cells := mc9, slots := ms9, locals := lo } (pC D dA [.ref h] (VW dA h ad x) sz) "java/lang/UnsupportedOperationException" (fun st9 t9 => va_F (va_A (VW dA h ad x) sz) st9 t9 ∧ ∃ u9 : VS, F9 u9 ∧ bW D (va_A (VW dA h ad x) sz) (VW dA h ad u9) t9) mc9 ms9 (va_A (VW dA h ad x) sz)) : Met l ⟨"SeriesVaultLaw", "series", "(LSeriesVault;[J)I"⟩ [Cond.codeWith ⟨"SeriesVaultLaw", "series", "(LSeriesVault;[J)I"⟩ method_6_code 3 (some FieldType.int) [(0, 8, 11, 29), (0, 8, 14, 13)]] { frames := fr + 1, cells := mc9, slots := ms9, locals := lo + 22 } (pC D dA [.ref h, .ref o] ([(o, .inl (dA 2, 1, .inr (.inl og)))] ++ (VW dA h ad x)) sz) (va_Qi (fun (r9 : Int32) (u9 : VS) => r9 = 2 ∧ F9 u9) (fun (u9 : VS) t9 => bW D (va_A ([(o, .inl (dA 2, 1, .inr (.inl og)))] ++ (VW dA h ad x)) sz) ([(o, .inl (dA 2, 1, .inr (.inl og)))] ++ (VW dA h ad u9)) t9) (va_A ([(o, .inl (dA 2, 1, .inr (.inl og)))] ++ (VW dA h ad x)) sz)) mc9 ms9 (va_A ([(o, .inl (dA 2, 1, .inr (.inl og)))] ++ (VW dA h ad x)) sz) := by
  refine mkW (y := ⟨"SeriesVaultLaw", "series", "(LSeriesVault;[J)I"⟩) (cc := method_6_code) (maxL := 3) (av := [.ref h, .ref o]) (ws := [(o, .inl (dA 2, 1, .inr (.inl og)))] ++ (VW dA h ad x)) (sz := sz) (Qc := fun A => va_Qi (fun (r9 : Int32) (u9 : VS) => r9 = 2 ∧ F9 u9) (fun (u9 : VS) t9 => bW D A ([(o, .inl (dA 2, 1, .inr (.inl og)))] ++ (VW dA h ad u9)) t9) A) (by decide) (Nat.le_of_ble_eq_true rfl) ?_
  intro A p e s m below meth c ls hsz htab hB
  obtain ⟨hx, hb, hr, hml, hown, hin, hlk, hE, hK, hP, hD, hS, hA, hN, hl⟩ := hB
  have hown : s.vm.findClass "SeriesVaultLaw" = some m.cls := hown
  have hl : lv_has ls 3 [(0, .ref h), (1, .ref o)] := hl
  obtain ⟨H, hH⟩ : ∃ z, z = s.heap := ⟨_, rfl⟩
  have hP : va_P D vwCl ([(o, .inl (dA 2, 1, .inr (.inl og)))] ++ (VW dA h ad x)) H := by rw [hH]; exact hP
  have hS : va_S A s.heap H [] := by rw [hH]; exact hS
  rw [← hH]
  refine lv_aload_n hx hb d_SeriesVaultLaw_series_0 rfl (lv_at hl 1 rfl) ?_
  refine lv_iconst (v := 0) hx hb d_SeriesVaultLaw_series_1 (by decide) ?_
  refine lv_aload_n hx hb d_SeriesVaultLaw_series_2 rfl (lv_at hl 0 rfl) ?_
  refine xkV (S := VS) (F := F9) (w1 := fun u => VW dA h ad u) (wr := [(o, .inl (dA 2, 1, .inr (.inl og)))]) (As := []) (rest := [.int 0, .ref o]) hx hb hml hown hE hK (hN _ _ hS) (hc9 H.size) (q0 := 0) rfl rfl w628 w627 w629 w630 w277 rfl rfl ⟨⟨by decide, by decide⟩, rfl⟩ ⟨(by first | exact Nat.le_of_ble_eq_true rfl | (dsimp only; omega)), (by first | exact Nat.le_of_ble_eq_true rfl | (dsimp only; omega))⟩ rfl hl.1 rfl (by first | exact Nat.le_of_ble_eq_true rfl | (dsimp only; omega)) d_SeriesVaultLaw_series_3 ⟨(show 0 + mc9 ≤ mc9 by omega), (show 0 + ms9 ≤ ms9 by omega)⟩ hP hD hS hA (fun u2 xa1 ce H locs hf9 hP hD hS hce hcv hcl => ?_)
  have hP : va_P D vwCl ([(o, .inl (dA 2, 1, .inr (.inl og)))] ++ (VW dA h ad u2)) H := hP
  have hD : va_D A ([(o, .inl (dA 2, 1, .inr (.inl og)))] ++ (VW dA h ad u2)) := hD
  refine xCatch (E := "java/lang/UnsupportedOperationException") hown hE [⟨0, 8, 11, 29⟩] ⟨0, 8, 14, 13⟩ [] htab (List.forall_mem_cons.mpr ⟨⟨by decide, "java/lang/IllegalStateException", w363, by decide⟩, fun _ h => absurd h List.not_mem_nil⟩) (by decide) (by decide) w1791 w1150 hce hcv hcl ?_
  refine lv_astore_n hx hb d_SeriesVaultLaw_series_14 rfl hl (by decide) rfl (fun ls hl => ?_)
  have hl : lv_has ls 3 [(2, .ref xa1), (0, .ref h), (1, .ref o)] := hl
  refine lv_iconst (v := 2) hx hb d_SeriesVaultLaw_series_15 (by decide) ?_
  exact rfI hx hb hr hlk hS u2 ⟨rfl, hf9⟩ hP hD (show 0 + mc9 ≤ mc9 by omega) (show 0 + ms9 ≤ ms9 by omega) d_SeriesVaultLaw_series_16
theorem d_SeriesVaultLaw_letter_8 : decode method_8_code 8 = .ok (.i2l, 1) := by decide +kernel
theorem d_SeriesVaultLaw_letter_9 : decode method_8_code 9 = .ok (.lastore, 1) := by decide +kernel
theorem d_SeriesVaultLaw_letter_10 : decode method_8_code 10 = .ok (.goto 11, 3) := by decide +kernel
theorem d_SeriesVaultLaw_letter_21 : decode method_8_code 21 = .ok (.iconst 0, 1) := by decide +kernel
theorem d_SeriesVaultLaw_letter_22 : decode method_8_code 22 = .ok (.ireturn, 1) := by decide +kernel
set_option maxHeartbeats 4000000 in
set_option maxRecDepth 100000 in
theorem k8_letter (l : Launch) (D : va_G) (dA : Nat → ClassId) (sz : Nat) (h : Nat) (ad : Nat → Nat) (o : Nat) (og : Nat → Int64) (x : VS) (p0 : Int32) (p1 : Int32) (v9 : Int32) (F9 : VS → Prop) (fr : Nat) (lo : Nat) (mc9 : Nat) (ms9 : Nat) (hc9 : ∀ sz : Nat, Met l ⟨"SeriesVault", "letter", "(II)I"⟩ [Cond.code ⟨"SeriesVault", "letter", "(II)I"⟩ prog_1_method_26_code 3 (some FieldType.int)] { frames := fr, cells := mc9, slots := ms9, locals := lo } (pC D dA [.ref h, .int p0, .int p1] (VW dA h ad x) sz) (va_Qi (fun (r9 : Int32) (u9 : VS) => r9 = v9 ∧ F9 u9) (fun (u9 : VS) t9 => bW D (va_A (VW dA h ad x) sz) (VW dA h ad u9) t9) (va_A (VW dA h ad x) sz)) mc9 ms9 (va_A (VW dA h ad x) sz)) : Met l ⟨"SeriesVaultLaw", "letter", "(LSeriesVault;II[J)I"⟩ [Cond.codeWith ⟨"SeriesVaultLaw", "letter", "(LSeriesVault;II[J)I"⟩ method_8_code 5 (some FieldType.int) [(0, 10, 13, 29), (0, 10, 17, 35)]] { frames := fr + 1, cells := mc9, slots := ms9, locals := lo + 22 } (pC D dA [.ref h, .int p0, .int p1, .ref o] ([(o, .inl (dA 2, 1, .inr (.inl og)))] ++ (VW dA h ad x)) sz) (va_Qi (fun (r9 : Int32) (u9 : VS) => r9 = 0 ∧ F9 u9) (fun (u9 : VS) t9 => bW D (va_A ([(o, .inl (dA 2, 1, .inr (.inl og)))] ++ (VW dA h ad x)) sz) ([(o, .inl (dA 2, 1, .inr (.inl (va_up og 0 (v9.toInt64)))))] ++ (VW dA h ad u9)) t9) (va_A ([(o, .inl (dA 2, 1, .inr (.inl og)))] ++ (VW dA h ad x)) sz)) mc9 ms9 (va_A ([(o, .inl (dA 2, 1, .inr (.inl og)))] ++ (VW dA h ad x)) sz) := by
  refine mkW (y := ⟨"SeriesVaultLaw", "letter", "(LSeriesVault;II[J)I"⟩) (cc := method_8_code) (maxL := 5) (av := [.ref h, .int p0, .int p1, .ref o]) (ws := [(o, .inl (dA 2, 1, .inr (.inl og)))] ++ (VW dA h ad x)) (sz := sz) (Qc := fun A => va_Qi (fun (r9 : Int32) (u9 : VS) => r9 = 0 ∧ F9 u9) (fun (u9 : VS) t9 => bW D A ([(o, .inl (dA 2, 1, .inr (.inl (va_up og 0 (v9.toInt64)))))] ++ (VW dA h ad u9)) t9) A) (by decide) (Nat.le_of_ble_eq_true rfl) ?_
  intro A p e s m below meth c ls hsz htab hB
  obtain ⟨hx, hb, hr, hml, hown, hin, hlk, hE, hK, hP, hD, hS, hA, hN, hl⟩ := hB
  have hown : s.vm.findClass "SeriesVaultLaw" = some m.cls := hown
  have hl : lv_has ls 5 [(0, .ref h), (1, .int p0), (2, .int p1), (3, .ref o)] := hl
  obtain ⟨H, hH⟩ : ∃ z, z = s.heap := ⟨_, rfl⟩
  have hP : va_P D vwCl ([(o, .inl (dA 2, 1, .inr (.inl og)))] ++ (VW dA h ad x)) H := by rw [hH]; exact hP
  have hS : va_S A s.heap H [] := by rw [hH]; exact hS
  rw [← hH]
  refine lv_aload_n hx hb d_SeriesVaultLaw_letter_0 rfl (lv_at hl 3 rfl) ?_
  refine lv_iconst (v := 0) hx hb d_SeriesVaultLaw_letter_1 (by decide) ?_
  refine lv_aload_n hx hb d_SeriesVaultLaw_letter_2 rfl (lv_at hl 0 rfl) ?_
  refine lv_iload_n hx hb d_SeriesVaultLaw_letter_3 rfl (lv_at hl 1 rfl) ?_
  refine lv_iload_n hx hb d_SeriesVaultLaw_letter_4 rfl (lv_at hl 2 rfl) ?_
  have hPc : va_P D vwCl (VW dA h ad x) H := spP (wr := [(o, .inl (dA 2, 1, .inr (.inl og)))]) hP
  have hDc : va_D A (VW dA h ad x) := spD (wr := [(o, .inl (dA 2, 1, .inr (.inl og)))]) hD
  refine jkI (wr := [(o, .inl (dA 2, 1, .inr (.inl og)))]) (rnV (As := [.int p0, .int p1]) (rest := [.int 0, .ref o]) hx hb hml hown hE hK (hN _ _ hS) hPc hDc ((fun (_ : Launch) (_ : va_G) (_ : Nat → ClassId) (sz9 : Nat) (_ : Nat) (_ : Nat → Nat) (_ : VS) (_ : Int32) (_ : Int32) => hc9 sz9) l D dA H.size h ad x p0 p1) (q0 := 0) rfl rfl w369 w368 w370 w371 w277 rfl rfl ⟨⟨by decide, by decide⟩, rfl⟩ ⟨(by first | exact Nat.le_of_ble_eq_true rfl | (dsimp only; omega)), (by first | exact Nat.le_of_ble_eq_true rfl | (dsimp only; omega))⟩ rfl hl.1 rfl (by first | exact Nat.le_of_ble_eq_true rfl | (dsimp only; omega)) d_SeriesVaultLaw_letter_5 ⟨(show 0 + mc9 ≤ mc9 by omega), (show 0 + ms9 ≤ ms9 by omega)⟩) hP hD hS hA (fun r1 u2 H locs hp9 hP hD hS => ?_)
  obtain ⟨u8, h9u⟩ : ∃ z9, z9 = u2 := ⟨_, rfl⟩
  subst h9u
  have hP : va_P D vwCl ([(o, .inl (dA 2, 1, .inr (.inl og)))] ++ (VW dA h ad u8)) H := hP
  have hD : va_D A ([(o, .inl (dA 2, 1, .inr (.inl og)))] ++ (VW dA h ad u8)) := hD
  obtain ⟨hp9, f_f_3⟩ := hp9
  replace hp9 : v9 = r1 := Eq.symm hp9
  subst hp9
  refine lv_i2l hx hb d_SeriesVaultLaw_letter_8 rfl ?_
  refine nlst (n := 1) hx hb hK hP hD hS (0) 2 rfl rfl (0) (by omega) (by decide) d_SeriesVaultLaw_letter_9 (fun H locs hP hD hS => ?_)
  have hP : va_P D vwCl ([(o, .inl (dA 2, 1, .inr (.inl (va_up og 0 v9.toInt64))))] ++ (VW dA h ad u8)) H := hP
  have hD : va_D A ([(o, .inl (dA 2, 1, .inr (.inl (va_up og 0 v9.toInt64))))] ++ (VW dA h ad u8)) := hD
  refine lv_goto hx hb d_SeriesVaultLaw_letter_10 (tgt := 21) rfl ?_
  refine lv_iconst (v := 0) hx hb d_SeriesVaultLaw_letter_21 (by decide) ?_
  exact rfI hx hb hr hlk hS u8 ⟨rfl, f_f_3⟩ hP hD (show 0 + mc9 ≤ mc9 by omega) (show 0 + ms9 ≤ ms9 by omega) d_SeriesVaultLaw_letter_22
theorem d_SeriesVaultLaw_letter_13 : decode method_8_code 13 = .ok (.astore 4, 2) := by decide +kernel
theorem d_SeriesVaultLaw_letter_15 : decode method_8_code 15 = .ok (.iconst 1, 1) := by decide +kernel
theorem d_SeriesVaultLaw_letter_16 : decode method_8_code 16 = .ok (.ireturn, 1) := by decide +kernel
set_option maxHeartbeats 4000000 in
set_option maxRecDepth 100000 in
theorem k8_letter_1 (l : Launch) (D : va_G) (dA : Nat → ClassId) (sz : Nat) (h : Nat) (ad : Nat → Nat) (o : Nat) (og : Nat → Int64) (x : VS) (p0 : Int32) (p1 : Int32) (F9 : VS → Prop) (fr : Nat) (lo : Nat) (mc9 : Nat) (ms9 : Nat) (hc9 : ∀ sz : Nat, mX l ⟨"SeriesVault", "letter", "(II)I"⟩ [Cond.code ⟨"SeriesVault", "letter", "(II)I"⟩ prog_1_method_26_code 3 (some FieldType.int)] { frames := fr, cells := mc9, slots := ms9, locals := lo } (pC D dA [.ref h, .int p0, .int p1] (VW dA h ad x) sz) "java/lang/IllegalStateException" (fun st9 t9 => va_F (va_A (VW dA h ad x) sz) st9 t9 ∧ ∃ u9 : VS, F9 u9 ∧ bW D (va_A (VW dA h ad x) sz) (VW dA h ad u9) t9) mc9 ms9 (va_A (VW dA h ad x) sz)) : Met l ⟨"SeriesVaultLaw", "letter", "(LSeriesVault;II[J)I"⟩ [Cond.codeWith ⟨"SeriesVaultLaw", "letter", "(LSeriesVault;II[J)I"⟩ method_8_code 5 (some FieldType.int) [(0, 10, 13, 29), (0, 10, 17, 35)]] { frames := fr + 1, cells := mc9, slots := ms9, locals := lo + 22 } (pC D dA [.ref h, .int p0, .int p1, .ref o] ([(o, .inl (dA 2, 1, .inr (.inl og)))] ++ (VW dA h ad x)) sz) (va_Qi (fun (r9 : Int32) (u9 : VS) => r9 = 1 ∧ F9 u9) (fun (u9 : VS) t9 => bW D (va_A ([(o, .inl (dA 2, 1, .inr (.inl og)))] ++ (VW dA h ad x)) sz) ([(o, .inl (dA 2, 1, .inr (.inl og)))] ++ (VW dA h ad u9)) t9) (va_A ([(o, .inl (dA 2, 1, .inr (.inl og)))] ++ (VW dA h ad x)) sz)) mc9 ms9 (va_A ([(o, .inl (dA 2, 1, .inr (.inl og)))] ++ (VW dA h ad x)) sz) := by
  refine mkW (y := ⟨"SeriesVaultLaw", "letter", "(LSeriesVault;II[J)I"⟩) (cc := method_8_code) (maxL := 5) (av := [.ref h, .int p0, .int p1, .ref o]) (ws := [(o, .inl (dA 2, 1, .inr (.inl og)))] ++ (VW dA h ad x)) (sz := sz) (Qc := fun A => va_Qi (fun (r9 : Int32) (u9 : VS) => r9 = 1 ∧ F9 u9) (fun (u9 : VS) t9 => bW D A ([(o, .inl (dA 2, 1, .inr (.inl og)))] ++ (VW dA h ad u9)) t9) A) (by decide) (Nat.le_of_ble_eq_true rfl) ?_
  intro A p e s m below meth c ls hsz htab hB
  obtain ⟨hx, hb, hr, hml, hown, hin, hlk, hE, hK, hP, hD, hS, hA, hN, hl⟩ := hB
  have hown : s.vm.findClass "SeriesVaultLaw" = some m.cls := hown
  have hl : lv_has ls 5 [(0, .ref h), (1, .int p0), (2, .int p1), (3, .ref o)] := hl
  obtain ⟨H, hH⟩ : ∃ z, z = s.heap := ⟨_, rfl⟩
  have hP : va_P D vwCl ([(o, .inl (dA 2, 1, .inr (.inl og)))] ++ (VW dA h ad x)) H := by rw [hH]; exact hP
  have hS : va_S A s.heap H [] := by rw [hH]; exact hS
  rw [← hH]
  refine lv_aload_n hx hb d_SeriesVaultLaw_letter_0 rfl (lv_at hl 3 rfl) ?_
  refine lv_iconst (v := 0) hx hb d_SeriesVaultLaw_letter_1 (by decide) ?_
  refine lv_aload_n hx hb d_SeriesVaultLaw_letter_2 rfl (lv_at hl 0 rfl) ?_
  refine lv_iload_n hx hb d_SeriesVaultLaw_letter_3 rfl (lv_at hl 1 rfl) ?_
  refine lv_iload_n hx hb d_SeriesVaultLaw_letter_4 rfl (lv_at hl 2 rfl) ?_
  refine xkV (S := VS) (F := F9) (w1 := fun u => VW dA h ad u) (wr := [(o, .inl (dA 2, 1, .inr (.inl og)))]) (As := [.int p0, .int p1]) (rest := [.int 0, .ref o]) hx hb hml hown hE hK (hN _ _ hS) (hc9 H.size) (q0 := 0) rfl rfl w369 w368 w370 w371 w277 rfl rfl ⟨⟨by decide, by decide⟩, rfl⟩ ⟨(by first | exact Nat.le_of_ble_eq_true rfl | (dsimp only; omega)), (by first | exact Nat.le_of_ble_eq_true rfl | (dsimp only; omega))⟩ rfl hl.1 rfl (by first | exact Nat.le_of_ble_eq_true rfl | (dsimp only; omega)) d_SeriesVaultLaw_letter_5 ⟨(show 0 + mc9 ≤ mc9 by omega), (show 0 + ms9 ≤ ms9 by omega)⟩ hP hD hS hA (fun u2 xa1 ce H locs hf9 hP hD hS hce hcv hcl => ?_)
  have hP : va_P D vwCl ([(o, .inl (dA 2, 1, .inr (.inl og)))] ++ (VW dA h ad u2)) H := hP
  have hD : va_D A ([(o, .inl (dA 2, 1, .inr (.inl og)))] ++ (VW dA h ad u2)) := hD
  refine xCatch (E := "java/lang/IllegalStateException") hown hE [] ⟨0, 10, 13, 29⟩ [⟨0, 10, 17, 35⟩] htab (fun _ h => absurd h List.not_mem_nil) (by decide) (by decide) w363 w289 hce hcv hcl ?_
  refine lv_astore hx hb d_SeriesVaultLaw_letter_13 hl (by decide) rfl (fun ls hl => ?_)
  have hl : lv_has ls 5 [(4, .ref xa1), (0, .ref h), (1, .int p0), (2, .int p1), (3, .ref o)] := hl
  refine lv_iconst (v := 1) hx hb d_SeriesVaultLaw_letter_15 (by decide) ?_
  exact rfI hx hb hr hlk hS u2 ⟨rfl, hf9⟩ hP hD (show 0 + mc9 ≤ mc9 by omega) (show 0 + ms9 ≤ ms9 by omega) d_SeriesVaultLaw_letter_16
set_option maxHeartbeats 4000000 in
set_option maxRecDepth 100000 in
theorem k8_letter_2 (l : Launch) (D : va_G) (dA : Nat → ClassId) (sz : Nat) (h : Nat) (ad : Nat → Nat) (o : Nat) (og : Nat → Int64) (x : VS) (p0 : Int32) (p1 : Int32) (F9 : VS → Prop) (fr : Nat) (lo : Nat) (mc9 : Nat) (ms9 : Nat) (hc9 : ∀ sz : Nat, mX l ⟨"SeriesVault", "letter", "(II)I"⟩ [Cond.code ⟨"SeriesVault", "letter", "(II)I"⟩ prog_1_method_26_code 3 (some FieldType.int)] { frames := fr, cells := mc9, slots := ms9, locals := lo } (pC D dA [.ref h, .int p0, .int p1] (VW dA h ad x) sz) "java/lang/IndexOutOfBoundsException" (fun st9 t9 => va_F (va_A (VW dA h ad x) sz) st9 t9 ∧ ∃ u9 : VS, F9 u9 ∧ bW D (va_A (VW dA h ad x) sz) (VW dA h ad u9) t9) mc9 ms9 (va_A (VW dA h ad x) sz)) : Met l ⟨"SeriesVaultLaw", "letter", "(LSeriesVault;II[J)I"⟩ [Cond.codeWith ⟨"SeriesVaultLaw", "letter", "(LSeriesVault;II[J)I"⟩ method_8_code 5 (some FieldType.int) [(0, 10, 13, 29), (0, 10, 17, 35)]] { frames := fr + 1, cells := mc9, slots := ms9, locals := lo + 22 } (pC D dA [.ref h, .int p0, .int p1, .ref o] ([(o, .inl (dA 2, 1, .inr (.inl og)))] ++ (VW dA h ad x)) sz) (va_Qi (fun (r9 : Int32) (u9 : VS) => r9 = 2 ∧ F9 u9) (fun (u9 : VS) t9 => bW D (va_A ([(o, .inl (dA 2, 1, .inr (.inl og)))] ++ (VW dA h ad x)) sz) ([(o, .inl (dA 2, 1, .inr (.inl og)))] ++ (VW dA h ad u9)) t9) (va_A ([(o, .inl (dA 2, 1, .inr (.inl og)))] ++ (VW dA h ad x)) sz)) mc9 ms9 (va_A ([(o, .inl (dA 2, 1, .inr (.inl og)))] ++ (VW dA h ad x)) sz) := by
  refine mkW (y := ⟨"SeriesVaultLaw", "letter", "(LSeriesVault;II[J)I"⟩) (cc := method_8_code) (maxL := 5) (av := [.ref h, .int p0, .int p1, .ref o]) (ws := [(o, .inl (dA 2, 1, .inr (.inl og)))] ++ (VW dA h ad x)) (sz := sz) (Qc := fun A => va_Qi (fun (r9 : Int32) (u9 : VS) => r9 = 2 ∧ F9 u9) (fun (u9 : VS) t9 => bW D A ([(o, .inl (dA 2, 1, .inr (.inl og)))] ++ (VW dA h ad u9)) t9) A) (by decide) (Nat.le_of_ble_eq_true rfl) ?_
  intro A p e s m below meth c ls hsz htab hB
  obtain ⟨hx, hb, hr, hml, hown, hin, hlk, hE, hK, hP, hD, hS, hA, hN, hl⟩ := hB
  have hown : s.vm.findClass "SeriesVaultLaw" = some m.cls := hown
  have hl : lv_has ls 5 [(0, .ref h), (1, .int p0), (2, .int p1), (3, .ref o)] := hl
  obtain ⟨H, hH⟩ : ∃ z, z = s.heap := ⟨_, rfl⟩
  have hP : va_P D vwCl ([(o, .inl (dA 2, 1, .inr (.inl og)))] ++ (VW dA h ad x)) H := by rw [hH]; exact hP
  have hS : va_S A s.heap H [] := by rw [hH]; exact hS
  rw [← hH]
  refine lv_aload_n hx hb d_SeriesVaultLaw_letter_0 rfl (lv_at hl 3 rfl) ?_
  refine lv_iconst (v := 0) hx hb d_SeriesVaultLaw_letter_1 (by decide) ?_
  refine lv_aload_n hx hb d_SeriesVaultLaw_letter_2 rfl (lv_at hl 0 rfl) ?_
  refine lv_iload_n hx hb d_SeriesVaultLaw_letter_3 rfl (lv_at hl 1 rfl) ?_
  refine lv_iload_n hx hb d_SeriesVaultLaw_letter_4 rfl (lv_at hl 2 rfl) ?_
  refine xkV (S := VS) (F := F9) (w1 := fun u => VW dA h ad u) (wr := [(o, .inl (dA 2, 1, .inr (.inl og)))]) (As := [.int p0, .int p1]) (rest := [.int 0, .ref o]) hx hb hml hown hE hK (hN _ _ hS) (hc9 H.size) (q0 := 0) rfl rfl w369 w368 w370 w371 w277 rfl rfl ⟨⟨by decide, by decide⟩, rfl⟩ ⟨(by first | exact Nat.le_of_ble_eq_true rfl | (dsimp only; omega)), (by first | exact Nat.le_of_ble_eq_true rfl | (dsimp only; omega))⟩ rfl hl.1 rfl (by first | exact Nat.le_of_ble_eq_true rfl | (dsimp only; omega)) d_SeriesVaultLaw_letter_5 ⟨(show 0 + mc9 ≤ mc9 by omega), (show 0 + ms9 ≤ ms9 by omega)⟩ hP hD hS hA (fun u2 xa1 ce H locs hf9 hP hD hS hce hcv hcl => ?_)
  have hP : va_P D vwCl ([(o, .inl (dA 2, 1, .inr (.inl og)))] ++ (VW dA h ad u2)) H := hP
  have hD : va_D A ([(o, .inl (dA 2, 1, .inr (.inl og)))] ++ (VW dA h ad u2)) := hD
  refine xCatch (E := "java/lang/IndexOutOfBoundsException") hown hE [⟨0, 10, 13, 29⟩] ⟨0, 10, 17, 35⟩ [] htab (List.forall_mem_cons.mpr ⟨⟨by decide, "java/lang/IllegalStateException", w363, by decide⟩, fun _ h => absurd h List.not_mem_nil⟩) (by decide) (by decide) w354 w222 hce hcv hcl ?_
  refine lv_astore hx hb d_SeriesVaultLaw_letter_17 hl (by decide) rfl (fun ls hl => ?_)
  have hl : lv_has ls 5 [(4, .ref xa1), (0, .ref h), (1, .int p0), (2, .int p1), (3, .ref o)] := hl
  refine lv_iconst (v := 2) hx hb d_SeriesVaultLaw_letter_19 (by decide) ?_
  exact rfI hx hb hr hlk hS u2 ⟨rfl, hf9⟩ hP hD (show 0 + mc9 ≤ mc9 by omega) (show 0 + ms9 ≤ ms9 by omega) d_SeriesVaultLaw_letter_20
end
section
theorem d_SeriesVaultLaw_append_11 : decode method_9_code 11 = .ok (.i2l, 1) := by decide +kernel
theorem d_SeriesVaultLaw_append_12 : decode method_9_code 12 = .ok (.lastore, 1) := by decide +kernel
theorem d_SeriesVaultLaw_append_13 : decode method_9_code 13 = .ok (.goto 19, 3) := by decide +kernel
theorem d_SeriesVaultLaw_append_32 : decode method_9_code 32 = .ok (.iconst 0, 1) := by decide +kernel
theorem d_SeriesVaultLaw_append_33 : decode method_9_code 33 = .ok (.ireturn, 1) := by decide +kernel
set_option maxHeartbeats 4000000 in
set_option maxRecDepth 100000 in
theorem k8_append (l : Launch) (D : va_G) (dA : Nat → ClassId) (sz : Nat) (h : Nat) (ad : Nat → Nat) (o : Nat) (og : Nat → Int64) (x : VS) (p0 : Int32) (p1 : Int64) (p2 : Int64) (v9 : Int32) (F9 : VS → Prop) (fr : Nat) (lo : Nat) (mc9 : Nat) (ms9 : Nat) (hc9 : ∀ sz : Nat, Met l ⟨"SeriesVault", "append", "(IJJ)I"⟩ [Cond.code ⟨"SeriesVault", "append", "(IJJ)I"⟩ prog_1_method_28_code 6 (some FieldType.int)] { frames := fr, cells := mc9, slots := ms9, locals := lo } (pC D dA [.ref h, .int p0, .long p1, .long p2] (VW dA h ad x) sz) (va_Qi (fun (r9 : Int32) (u9 : VS) => r9 = v9 ∧ F9 u9) (fun (u9 : VS) t9 => bW D (va_A (VW dA h ad x) sz) (VW dA h ad u9) t9) (va_A (VW dA h ad x) sz)) mc9 ms9 (va_A (VW dA h ad x) sz)) : Met l ⟨"SeriesVaultLaw", "append", "(LSeriesVault;IJJ[J)I"⟩ [Cond.codeWith ⟨"SeriesVaultLaw", "append", "(LSeriesVault;IJJ[J)I"⟩ method_9_code 8 (some FieldType.int) [(0, 13, 16, 29), (0, 13, 20, 35), (0, 13, 24, 19), (0, 13, 28, 13)]] { frames := fr + 1, cells := mc9, slots := ms9, locals := lo + 25 } (pC D dA [.ref h, .int p0, .long p1, .long p2, .ref o] ([(o, .inl (dA 2, 1, .inr (.inl og)))] ++ (VW dA h ad x)) sz) (va_Qi (fun (r9 : Int32) (u9 : VS) => r9 = 0 ∧ F9 u9) (fun (u9 : VS) t9 => bW D (va_A ([(o, .inl (dA 2, 1, .inr (.inl og)))] ++ (VW dA h ad x)) sz) ([(o, .inl (dA 2, 1, .inr (.inl (va_up og 0 (v9.toInt64)))))] ++ (VW dA h ad u9)) t9) (va_A ([(o, .inl (dA 2, 1, .inr (.inl og)))] ++ (VW dA h ad x)) sz)) mc9 ms9 (va_A ([(o, .inl (dA 2, 1, .inr (.inl og)))] ++ (VW dA h ad x)) sz) := by
  refine mkW (y := ⟨"SeriesVaultLaw", "append", "(LSeriesVault;IJJ[J)I"⟩) (cc := method_9_code) (maxL := 8) (av := [.ref h, .int p0, .long p1, .long p2, .ref o]) (ws := [(o, .inl (dA 2, 1, .inr (.inl og)))] ++ (VW dA h ad x)) (sz := sz) (Qc := fun A => va_Qi (fun (r9 : Int32) (u9 : VS) => r9 = 0 ∧ F9 u9) (fun (u9 : VS) t9 => bW D A ([(o, .inl (dA 2, 1, .inr (.inl (va_up og 0 (v9.toInt64)))))] ++ (VW dA h ad u9)) t9) A) (by decide) (Nat.le_of_ble_eq_true rfl) ?_
  intro A p e s m below meth c ls hsz htab hB
  obtain ⟨hx, hb, hr, hml, hown, hin, hlk, hE, hK, hP, hD, hS, hA, hN, hl⟩ := hB
  have hown : s.vm.findClass "SeriesVaultLaw" = some m.cls := hown
  have hl : lv_has ls 8 [(0, .ref h), (1, .int p0), (2, .long p1), (4, .long p2), (6, .ref o)] := hl
  obtain ⟨H, hH⟩ : ∃ z, z = s.heap := ⟨_, rfl⟩
  have hP : va_P D vwCl ([(o, .inl (dA 2, 1, .inr (.inl og)))] ++ (VW dA h ad x)) H := by rw [hH]; exact hP
  have hS : va_S A s.heap H [] := by rw [hH]; exact hS
  rw [← hH]
  refine lv_aload hx hb d_SeriesVaultLaw_append_0 (lv_at hl 4 rfl) ?_
  refine lv_iconst (v := 0) hx hb d_SeriesVaultLaw_append_2 (by decide) ?_
  refine lv_aload_n hx hb d_SeriesVaultLaw_append_3 rfl (lv_at hl 0 rfl) ?_
  refine lv_iload_n hx hb d_SeriesVaultLaw_append_4 rfl (lv_at hl 1 rfl) ?_
  refine lv_lload_n hx hb d_SeriesVaultLaw_append_5 rfl (lv_at hl 2 rfl) ?_
  refine lv_lload hx hb d_SeriesVaultLaw_append_6 (lv_at hl 3 rfl) ?_
  have hPc : va_P D vwCl (VW dA h ad x) H := spP (wr := [(o, .inl (dA 2, 1, .inr (.inl og)))]) hP
  have hDc : va_D A (VW dA h ad x) := spD (wr := [(o, .inl (dA 2, 1, .inr (.inl og)))]) hD
  refine jkI (wr := [(o, .inl (dA 2, 1, .inr (.inl og)))]) (rnV (As := [.int p0, .long p1, .long p2]) (rest := [.int 0, .ref o]) hx hb hml hown hE hK (hN _ _ hS) hPc hDc ((fun (_ : Launch) (_ : va_G) (_ : Nat → ClassId) (sz9 : Nat) (_ : Nat) (_ : Nat → Nat) (_ : VS) (_ : Int32) (_ : Int64) (_ : Int64) => hc9 sz9) l D dA H.size h ad x p0 p1 p2) (q0 := 0) rfl rfl w377 w376 w378 w379 w277 rfl rfl ⟨⟨by decide, by decide⟩, rfl⟩ ⟨(by first | exact Nat.le_of_ble_eq_true rfl | (dsimp only; omega)), (by first | exact Nat.le_of_ble_eq_true rfl | (dsimp only; omega))⟩ rfl hl.1 rfl (by first | exact Nat.le_of_ble_eq_true rfl | (dsimp only; omega)) d_SeriesVaultLaw_append_8 ⟨(show 0 + mc9 ≤ mc9 by omega), (show 0 + ms9 ≤ ms9 by omega)⟩) hP hD hS hA (fun r1 u2 H locs hp9 hP hD hS => ?_)
  obtain ⟨u8, h9u⟩ : ∃ z9, z9 = u2 := ⟨_, rfl⟩
  subst h9u
  have hP : va_P D vwCl ([(o, .inl (dA 2, 1, .inr (.inl og)))] ++ (VW dA h ad u8)) H := hP
  have hD : va_D A ([(o, .inl (dA 2, 1, .inr (.inl og)))] ++ (VW dA h ad u8)) := hD
  obtain ⟨hp9, f_f_3⟩ := hp9
  replace hp9 : v9 = r1 := Eq.symm hp9
  subst hp9
  refine lv_i2l hx hb d_SeriesVaultLaw_append_11 rfl ?_
  refine nlst (n := 1) hx hb hK hP hD hS (0) 2 rfl rfl (0) (by omega) (by decide) d_SeriesVaultLaw_append_12 (fun H locs hP hD hS => ?_)
  have hP : va_P D vwCl ([(o, .inl (dA 2, 1, .inr (.inl (va_up og 0 v9.toInt64))))] ++ (VW dA h ad u8)) H := hP
  have hD : va_D A ([(o, .inl (dA 2, 1, .inr (.inl (va_up og 0 v9.toInt64))))] ++ (VW dA h ad u8)) := hD
  refine lv_goto hx hb d_SeriesVaultLaw_append_13 (tgt := 32) rfl ?_
  refine lv_iconst (v := 0) hx hb d_SeriesVaultLaw_append_32 (by decide) ?_
  exact rfI hx hb hr hlk hS u8 ⟨rfl, f_f_3⟩ hP hD (show 0 + mc9 ≤ mc9 by omega) (show 0 + ms9 ≤ ms9 by omega) d_SeriesVaultLaw_append_33
theorem d_SeriesVaultLaw_append_16 : decode method_9_code 16 = .ok (.astore 7, 2) := by decide +kernel
theorem d_SeriesVaultLaw_append_18 : decode method_9_code 18 = .ok (.iconst 1, 1) := by decide +kernel
theorem d_SeriesVaultLaw_append_19 : decode method_9_code 19 = .ok (.ireturn, 1) := by decide +kernel
set_option maxHeartbeats 4000000 in
set_option maxRecDepth 100000 in
theorem k8_append_1 (l : Launch) (D : va_G) (dA : Nat → ClassId) (sz : Nat) (h : Nat) (ad : Nat → Nat) (o : Nat) (og : Nat → Int64) (x : VS) (p0 : Int32) (p1 : Int64) (p2 : Int64) (F9 : VS → Prop) (fr : Nat) (lo : Nat) (mc9 : Nat) (ms9 : Nat) (hc9 : ∀ sz : Nat, mX l ⟨"SeriesVault", "append", "(IJJ)I"⟩ [Cond.code ⟨"SeriesVault", "append", "(IJJ)I"⟩ prog_1_method_28_code 6 (some FieldType.int)] { frames := fr, cells := mc9, slots := ms9, locals := lo } (pC D dA [.ref h, .int p0, .long p1, .long p2] (VW dA h ad x) sz) "java/lang/IllegalStateException" (fun st9 t9 => va_F (va_A (VW dA h ad x) sz) st9 t9 ∧ ∃ u9 : VS, F9 u9 ∧ bW D (va_A (VW dA h ad x) sz) (VW dA h ad u9) t9) mc9 ms9 (va_A (VW dA h ad x) sz)) : Met l ⟨"SeriesVaultLaw", "append", "(LSeriesVault;IJJ[J)I"⟩ [Cond.codeWith ⟨"SeriesVaultLaw", "append", "(LSeriesVault;IJJ[J)I"⟩ method_9_code 8 (some FieldType.int) [(0, 13, 16, 29), (0, 13, 20, 35), (0, 13, 24, 19), (0, 13, 28, 13)]] { frames := fr + 1, cells := mc9, slots := ms9, locals := lo + 25 } (pC D dA [.ref h, .int p0, .long p1, .long p2, .ref o] ([(o, .inl (dA 2, 1, .inr (.inl og)))] ++ (VW dA h ad x)) sz) (va_Qi (fun (r9 : Int32) (u9 : VS) => r9 = 1 ∧ F9 u9) (fun (u9 : VS) t9 => bW D (va_A ([(o, .inl (dA 2, 1, .inr (.inl og)))] ++ (VW dA h ad x)) sz) ([(o, .inl (dA 2, 1, .inr (.inl og)))] ++ (VW dA h ad u9)) t9) (va_A ([(o, .inl (dA 2, 1, .inr (.inl og)))] ++ (VW dA h ad x)) sz)) mc9 ms9 (va_A ([(o, .inl (dA 2, 1, .inr (.inl og)))] ++ (VW dA h ad x)) sz) := by
  refine mkW (y := ⟨"SeriesVaultLaw", "append", "(LSeriesVault;IJJ[J)I"⟩) (cc := method_9_code) (maxL := 8) (av := [.ref h, .int p0, .long p1, .long p2, .ref o]) (ws := [(o, .inl (dA 2, 1, .inr (.inl og)))] ++ (VW dA h ad x)) (sz := sz) (Qc := fun A => va_Qi (fun (r9 : Int32) (u9 : VS) => r9 = 1 ∧ F9 u9) (fun (u9 : VS) t9 => bW D A ([(o, .inl (dA 2, 1, .inr (.inl og)))] ++ (VW dA h ad u9)) t9) A) (by decide) (Nat.le_of_ble_eq_true rfl) ?_
  intro A p e s m below meth c ls hsz htab hB
  obtain ⟨hx, hb, hr, hml, hown, hin, hlk, hE, hK, hP, hD, hS, hA, hN, hl⟩ := hB
  have hown : s.vm.findClass "SeriesVaultLaw" = some m.cls := hown
  have hl : lv_has ls 8 [(0, .ref h), (1, .int p0), (2, .long p1), (4, .long p2), (6, .ref o)] := hl
  obtain ⟨H, hH⟩ : ∃ z, z = s.heap := ⟨_, rfl⟩
  have hP : va_P D vwCl ([(o, .inl (dA 2, 1, .inr (.inl og)))] ++ (VW dA h ad x)) H := by rw [hH]; exact hP
  have hS : va_S A s.heap H [] := by rw [hH]; exact hS
  rw [← hH]
  refine lv_aload hx hb d_SeriesVaultLaw_append_0 (lv_at hl 4 rfl) ?_
  refine lv_iconst (v := 0) hx hb d_SeriesVaultLaw_append_2 (by decide) ?_
  refine lv_aload_n hx hb d_SeriesVaultLaw_append_3 rfl (lv_at hl 0 rfl) ?_
  refine lv_iload_n hx hb d_SeriesVaultLaw_append_4 rfl (lv_at hl 1 rfl) ?_
  refine lv_lload_n hx hb d_SeriesVaultLaw_append_5 rfl (lv_at hl 2 rfl) ?_
  refine lv_lload hx hb d_SeriesVaultLaw_append_6 (lv_at hl 3 rfl) ?_
  refine xkV (S := VS) (F := F9) (w1 := fun u => VW dA h ad u) (wr := [(o, .inl (dA 2, 1, .inr (.inl og)))]) (As := [.int p0, .long p1, .long p2]) (rest := [.int 0, .ref o]) hx hb hml hown hE hK (hN _ _ hS) (hc9 H.size) (q0 := 0) rfl rfl w377 w376 w378 w379 w277 rfl rfl ⟨⟨by decide, by decide⟩, rfl⟩ ⟨(by first | exact Nat.le_of_ble_eq_true rfl | (dsimp only; omega)), (by first | exact Nat.le_of_ble_eq_true rfl | (dsimp only; omega))⟩ rfl hl.1 rfl (by first | exact Nat.le_of_ble_eq_true rfl | (dsimp only; omega)) d_SeriesVaultLaw_append_8 ⟨(show 0 + mc9 ≤ mc9 by omega), (show 0 + ms9 ≤ ms9 by omega)⟩ hP hD hS hA (fun u2 xa1 ce H locs hf9 hP hD hS hce hcv hcl => ?_)
  have hP : va_P D vwCl ([(o, .inl (dA 2, 1, .inr (.inl og)))] ++ (VW dA h ad u2)) H := hP
  have hD : va_D A ([(o, .inl (dA 2, 1, .inr (.inl og)))] ++ (VW dA h ad u2)) := hD
  refine xCatch (E := "java/lang/IllegalStateException") hown hE [] ⟨0, 13, 16, 29⟩ [⟨0, 13, 20, 35⟩, ⟨0, 13, 24, 19⟩, ⟨0, 13, 28, 13⟩] htab (fun _ h => absurd h List.not_mem_nil) (by decide) (by decide) w363 w289 hce hcv hcl ?_
  refine lv_astore hx hb d_SeriesVaultLaw_append_16 hl (by decide) rfl (fun ls hl => ?_)
  have hl : lv_has ls 8 [(7, .ref xa1), (0, .ref h), (1, .int p0), (2, .long p1), (4, .long p2), (6, .ref o)] := hl
  refine lv_iconst (v := 1) hx hb d_SeriesVaultLaw_append_18 (by decide) ?_
  exact rfI hx hb hr hlk hS u2 ⟨rfl, hf9⟩ hP hD (show 0 + mc9 ≤ mc9 by omega) (show 0 + ms9 ≤ ms9 by omega) d_SeriesVaultLaw_append_19
set_option maxHeartbeats 4000000 in
set_option maxRecDepth 100000 in
theorem k8_append_2 (l : Launch) (D : va_G) (dA : Nat → ClassId) (sz : Nat) (h : Nat) (ad : Nat → Nat) (o : Nat) (og : Nat → Int64) (x : VS) (p0 : Int32) (p1 : Int64) (p2 : Int64) (F9 : VS → Prop) (fr : Nat) (lo : Nat) (mc9 : Nat) (ms9 : Nat) (hc9 : ∀ sz : Nat, mX l ⟨"SeriesVault", "append", "(IJJ)I"⟩ [Cond.code ⟨"SeriesVault", "append", "(IJJ)I"⟩ prog_1_method_28_code 6 (some FieldType.int)] { frames := fr, cells := mc9, slots := ms9, locals := lo } (pC D dA [.ref h, .int p0, .long p1, .long p2] (VW dA h ad x) sz) "java/lang/IndexOutOfBoundsException" (fun st9 t9 => va_F (va_A (VW dA h ad x) sz) st9 t9 ∧ ∃ u9 : VS, F9 u9 ∧ bW D (va_A (VW dA h ad x) sz) (VW dA h ad u9) t9) mc9 ms9 (va_A (VW dA h ad x) sz)) : Met l ⟨"SeriesVaultLaw", "append", "(LSeriesVault;IJJ[J)I"⟩ [Cond.codeWith ⟨"SeriesVaultLaw", "append", "(LSeriesVault;IJJ[J)I"⟩ method_9_code 8 (some FieldType.int) [(0, 13, 16, 29), (0, 13, 20, 35), (0, 13, 24, 19), (0, 13, 28, 13)]] { frames := fr + 1, cells := mc9, slots := ms9, locals := lo + 25 } (pC D dA [.ref h, .int p0, .long p1, .long p2, .ref o] ([(o, .inl (dA 2, 1, .inr (.inl og)))] ++ (VW dA h ad x)) sz) (va_Qi (fun (r9 : Int32) (u9 : VS) => r9 = 2 ∧ F9 u9) (fun (u9 : VS) t9 => bW D (va_A ([(o, .inl (dA 2, 1, .inr (.inl og)))] ++ (VW dA h ad x)) sz) ([(o, .inl (dA 2, 1, .inr (.inl og)))] ++ (VW dA h ad u9)) t9) (va_A ([(o, .inl (dA 2, 1, .inr (.inl og)))] ++ (VW dA h ad x)) sz)) mc9 ms9 (va_A ([(o, .inl (dA 2, 1, .inr (.inl og)))] ++ (VW dA h ad x)) sz) := by
  refine mkW (y := ⟨"SeriesVaultLaw", "append", "(LSeriesVault;IJJ[J)I"⟩) (cc := method_9_code) (maxL := 8) (av := [.ref h, .int p0, .long p1, .long p2, .ref o]) (ws := [(o, .inl (dA 2, 1, .inr (.inl og)))] ++ (VW dA h ad x)) (sz := sz) (Qc := fun A => va_Qi (fun (r9 : Int32) (u9 : VS) => r9 = 2 ∧ F9 u9) (fun (u9 : VS) t9 => bW D A ([(o, .inl (dA 2, 1, .inr (.inl og)))] ++ (VW dA h ad u9)) t9) A) (by decide) (Nat.le_of_ble_eq_true rfl) ?_
  intro A p e s m below meth c ls hsz htab hB
  obtain ⟨hx, hb, hr, hml, hown, hin, hlk, hE, hK, hP, hD, hS, hA, hN, hl⟩ := hB
  have hown : s.vm.findClass "SeriesVaultLaw" = some m.cls := hown
  have hl : lv_has ls 8 [(0, .ref h), (1, .int p0), (2, .long p1), (4, .long p2), (6, .ref o)] := hl
  obtain ⟨H, hH⟩ : ∃ z, z = s.heap := ⟨_, rfl⟩
  have hP : va_P D vwCl ([(o, .inl (dA 2, 1, .inr (.inl og)))] ++ (VW dA h ad x)) H := by rw [hH]; exact hP
  have hS : va_S A s.heap H [] := by rw [hH]; exact hS
  rw [← hH]
  refine lv_aload hx hb d_SeriesVaultLaw_append_0 (lv_at hl 4 rfl) ?_
  refine lv_iconst (v := 0) hx hb d_SeriesVaultLaw_append_2 (by decide) ?_
  refine lv_aload_n hx hb d_SeriesVaultLaw_append_3 rfl (lv_at hl 0 rfl) ?_
  refine lv_iload_n hx hb d_SeriesVaultLaw_append_4 rfl (lv_at hl 1 rfl) ?_
  refine lv_lload_n hx hb d_SeriesVaultLaw_append_5 rfl (lv_at hl 2 rfl) ?_
  refine lv_lload hx hb d_SeriesVaultLaw_append_6 (lv_at hl 3 rfl) ?_
  refine xkV (S := VS) (F := F9) (w1 := fun u => VW dA h ad u) (wr := [(o, .inl (dA 2, 1, .inr (.inl og)))]) (As := [.int p0, .long p1, .long p2]) (rest := [.int 0, .ref o]) hx hb hml hown hE hK (hN _ _ hS) (hc9 H.size) (q0 := 0) rfl rfl w377 w376 w378 w379 w277 rfl rfl ⟨⟨by decide, by decide⟩, rfl⟩ ⟨(by first | exact Nat.le_of_ble_eq_true rfl | (dsimp only; omega)), (by first | exact Nat.le_of_ble_eq_true rfl | (dsimp only; omega))⟩ rfl hl.1 rfl (by first | exact Nat.le_of_ble_eq_true rfl | (dsimp only; omega)) d_SeriesVaultLaw_append_8 ⟨(show 0 + mc9 ≤ mc9 by omega), (show 0 + ms9 ≤ ms9 by omega)⟩ hP hD hS hA (fun u2 xa1 ce H locs hf9 hP hD hS hce hcv hcl => ?_)
  have hP : va_P D vwCl ([(o, .inl (dA 2, 1, .inr (.inl og)))] ++ (VW dA h ad u2)) H := hP
  have hD : va_D A ([(o, .inl (dA 2, 1, .inr (.inl og)))] ++ (VW dA h ad u2)) := hD
  refine xCatch (E := "java/lang/IndexOutOfBoundsException") hown hE [⟨0, 13, 16, 29⟩] ⟨0, 13, 20, 35⟩ [⟨0, 13, 24, 19⟩, ⟨0, 13, 28, 13⟩] htab (List.forall_mem_cons.mpr ⟨⟨by decide, "java/lang/IllegalStateException", w363, by decide⟩, fun _ h => absurd h List.not_mem_nil⟩) (by decide) (by decide) w354 w222 hce hcv hcl ?_
  refine lv_astore hx hb d_SeriesVaultLaw_append_20 hl (by decide) rfl (fun ls hl => ?_)
  have hl : lv_has ls 8 [(7, .ref xa1), (0, .ref h), (1, .int p0), (2, .long p1), (4, .long p2), (6, .ref o)] := hl
  refine lv_iconst (v := 2) hx hb d_SeriesVaultLaw_append_22 (by decide) ?_
  exact rfI hx hb hr hlk hS u2 ⟨rfl, hf9⟩ hP hD (show 0 + mc9 ≤ mc9 by omega) (show 0 + ms9 ≤ ms9 by omega) d_SeriesVaultLaw_append_23
theorem d_SeriesVaultLaw_append_24 : decode method_9_code 24 = .ok (.astore 7, 2) := by decide +kernel
theorem d_SeriesVaultLaw_append_26 : decode method_9_code 26 = .ok (.iconst 3, 1) := by decide +kernel
theorem d_SeriesVaultLaw_append_27 : decode method_9_code 27 = .ok (.ireturn, 1) := by decide +kernel
set_option maxHeartbeats 4000000 in
set_option maxRecDepth 100000 in
theorem k8_append_3 (l : Launch) (D : va_G) (dA : Nat → ClassId) (sz : Nat) (h : Nat) (ad : Nat → Nat) (o : Nat) (og : Nat → Int64) (x : VS) (p0 : Int32) (p1 : Int64) (p2 : Int64) (F9 : VS → Prop) (fr : Nat) (lo : Nat) (mc9 : Nat) (ms9 : Nat) (hc9 : ∀ sz : Nat, mX l ⟨"SeriesVault", "append", "(IJJ)I"⟩ [Cond.code ⟨"SeriesVault", "append", "(IJJ)I"⟩ prog_1_method_28_code 6 (some FieldType.int)] { frames := fr, cells := mc9, slots := ms9, locals := lo } (pC D dA [.ref h, .int p0, .long p1, .long p2] (VW dA h ad x) sz) "java/lang/IllegalArgumentException" (fun st9 t9 => va_F (va_A (VW dA h ad x) sz) st9 t9 ∧ ∃ u9 : VS, F9 u9 ∧ bW D (va_A (VW dA h ad x) sz) (VW dA h ad u9) t9) mc9 ms9 (va_A (VW dA h ad x) sz)) : Met l ⟨"SeriesVaultLaw", "append", "(LSeriesVault;IJJ[J)I"⟩ [Cond.codeWith ⟨"SeriesVaultLaw", "append", "(LSeriesVault;IJJ[J)I"⟩ method_9_code 8 (some FieldType.int) [(0, 13, 16, 29), (0, 13, 20, 35), (0, 13, 24, 19), (0, 13, 28, 13)]] { frames := fr + 1, cells := mc9, slots := ms9, locals := lo + 25 } (pC D dA [.ref h, .int p0, .long p1, .long p2, .ref o] ([(o, .inl (dA 2, 1, .inr (.inl og)))] ++ (VW dA h ad x)) sz) (va_Qi (fun (r9 : Int32) (u9 : VS) => r9 = 3 ∧ F9 u9) (fun (u9 : VS) t9 => bW D (va_A ([(o, .inl (dA 2, 1, .inr (.inl og)))] ++ (VW dA h ad x)) sz) ([(o, .inl (dA 2, 1, .inr (.inl og)))] ++ (VW dA h ad u9)) t9) (va_A ([(o, .inl (dA 2, 1, .inr (.inl og)))] ++ (VW dA h ad x)) sz)) mc9 ms9 (va_A ([(o, .inl (dA 2, 1, .inr (.inl og)))] ++ (VW dA h ad x)) sz) := by
  refine mkW (y := ⟨"SeriesVaultLaw", "append", "(LSeriesVault;IJJ[J)I"⟩) (cc := method_9_code) (maxL := 8) (av := [.ref h, .int p0, .long p1, .long p2, .ref o]) (ws := [(o, .inl (dA 2, 1, .inr (.inl og)))] ++ (VW dA h ad x)) (sz := sz) (Qc := fun A => va_Qi (fun (r9 : Int32) (u9 : VS) => r9 = 3 ∧ F9 u9) (fun (u9 : VS) t9 => bW D A ([(o, .inl (dA 2, 1, .inr (.inl og)))] ++ (VW dA h ad u9)) t9) A) (by decide) (Nat.le_of_ble_eq_true rfl) ?_
  intro A p e s m below meth c ls hsz htab hB
  obtain ⟨hx, hb, hr, hml, hown, hin, hlk, hE, hK, hP, hD, hS, hA, hN, hl⟩ := hB
  have hown : s.vm.findClass "SeriesVaultLaw" = some m.cls := hown
  have hl : lv_has ls 8 [(0, .ref h), (1, .int p0), (2, .long p1), (4, .long p2), (6, .ref o)] := hl
  obtain ⟨H, hH⟩ : ∃ z, z = s.heap := ⟨_, rfl⟩
  have hP : va_P D vwCl ([(o, .inl (dA 2, 1, .inr (.inl og)))] ++ (VW dA h ad x)) H := by rw [hH]; exact hP
  have hS : va_S A s.heap H [] := by rw [hH]; exact hS
  rw [← hH]
  refine lv_aload hx hb d_SeriesVaultLaw_append_0 (lv_at hl 4 rfl) ?_
  refine lv_iconst (v := 0) hx hb d_SeriesVaultLaw_append_2 (by decide) ?_
  refine lv_aload_n hx hb d_SeriesVaultLaw_append_3 rfl (lv_at hl 0 rfl) ?_
  refine lv_iload_n hx hb d_SeriesVaultLaw_append_4 rfl (lv_at hl 1 rfl) ?_
  refine lv_lload_n hx hb d_SeriesVaultLaw_append_5 rfl (lv_at hl 2 rfl) ?_
  refine lv_lload hx hb d_SeriesVaultLaw_append_6 (lv_at hl 3 rfl) ?_
  refine xkV (S := VS) (F := F9) (w1 := fun u => VW dA h ad u) (wr := [(o, .inl (dA 2, 1, .inr (.inl og)))]) (As := [.int p0, .long p1, .long p2]) (rest := [.int 0, .ref o]) hx hb hml hown hE hK (hN _ _ hS) (hc9 H.size) (q0 := 0) rfl rfl w377 w376 w378 w379 w277 rfl rfl ⟨⟨by decide, by decide⟩, rfl⟩ ⟨(by first | exact Nat.le_of_ble_eq_true rfl | (dsimp only; omega)), (by first | exact Nat.le_of_ble_eq_true rfl | (dsimp only; omega))⟩ rfl hl.1 rfl (by first | exact Nat.le_of_ble_eq_true rfl | (dsimp only; omega)) d_SeriesVaultLaw_append_8 ⟨(show 0 + mc9 ≤ mc9 by omega), (show 0 + ms9 ≤ ms9 by omega)⟩ hP hD hS hA (fun u2 xa1 ce H locs hf9 hP hD hS hce hcv hcl => ?_)
  have hP : va_P D vwCl ([(o, .inl (dA 2, 1, .inr (.inl og)))] ++ (VW dA h ad u2)) H := hP
  have hD : va_D A ([(o, .inl (dA 2, 1, .inr (.inl og)))] ++ (VW dA h ad u2)) := hD
  refine xCatch (E := "java/lang/IllegalArgumentException") hown hE [⟨0, 13, 16, 29⟩, ⟨0, 13, 20, 35⟩] ⟨0, 13, 24, 19⟩ [⟨0, 13, 28, 13⟩] htab (List.forall_mem_cons.mpr ⟨⟨by decide, "java/lang/IllegalStateException", w363, by decide⟩, List.forall_mem_cons.mpr ⟨⟨by decide, "java/lang/IndexOutOfBoundsException", w354, by decide⟩, fun _ h => absurd h List.not_mem_nil⟩⟩) (by decide) (by decide) w349 w267 hce hcv hcl ?_
  refine lv_astore hx hb d_SeriesVaultLaw_append_24 hl (by decide) rfl (fun ls hl => ?_)
  have hl : lv_has ls 8 [(7, .ref xa1), (0, .ref h), (1, .int p0), (2, .long p1), (4, .long p2), (6, .ref o)] := hl
  refine lv_iconst (v := 3) hx hb d_SeriesVaultLaw_append_26 (by decide) ?_
  exact rfI hx hb hr hlk hS u2 ⟨rfl, hf9⟩ hP hD (show 0 + mc9 ≤ mc9 by omega) (show 0 + ms9 ≤ ms9 by omega) d_SeriesVaultLaw_append_27
theorem d_SeriesVaultLaw_append_28 : decode method_9_code 28 = .ok (.astore 7, 2) := by decide +kernel
theorem d_SeriesVaultLaw_append_30 : decode method_9_code 30 = .ok (.iconst 4, 1) := by decide +kernel
theorem d_SeriesVaultLaw_append_31 : decode method_9_code 31 = .ok (.ireturn, 1) := by decide +kernel
set_option maxHeartbeats 4000000 in
set_option maxRecDepth 100000 in
theorem k8_append_4 (l : Launch) (D : va_G) (dA : Nat → ClassId) (sz : Nat) (h : Nat) (ad : Nat → Nat) (o : Nat) (og : Nat → Int64) (x : VS) (p0 : Int32) (p1 : Int64) (p2 : Int64) (F9 : VS → Prop) (fr : Nat) (lo : Nat) (mc9 : Nat) (ms9 : Nat) (hc9 : ∀ sz : Nat, mX l ⟨"SeriesVault", "append", "(IJJ)I"⟩ [Cond.code ⟨"SeriesVault", "append", "(IJJ)I"⟩ prog_1_method_28_code 6 (some FieldType.int)] { frames := fr, cells := mc9, slots := ms9, locals := lo } (pC D dA [.ref h, .int p0, .long p1, .long p2] (VW dA h ad x) sz) "java/lang/UnsupportedOperationException" (fun st9 t9 => va_F (va_A (VW dA h ad x) sz) st9 t9 ∧ ∃ u9 : VS, F9 u9 ∧ bW D (va_A (VW dA h ad x) sz) (VW dA h ad u9) t9) mc9 ms9 (va_A (VW dA h ad x) sz)) : Met l ⟨"SeriesVaultLaw", "append", "(LSeriesVault;IJJ[J)I"⟩ [Cond.codeWith ⟨"SeriesVaultLaw", "append", "(LSeriesVault;IJJ[J)I"⟩ method_9_code 8 (some FieldType.int) [(0, 13, 16, 29), (0, 13, 20, 35), (0, 13, 24, 19), (0, 13, 28, 13)]] { frames := fr + 1, cells := mc9, slots := ms9, locals := lo + 25 } (pC D dA [.ref h, .int p0, .long p1, .long p2, .ref o] ([(o, .inl (dA 2, 1, .inr (.inl og)))] ++ (VW dA h ad x)) sz) (va_Qi (fun (r9 : Int32) (u9 : VS) => r9 = 4 ∧ F9 u9) (fun (u9 : VS) t9 => bW D (va_A ([(o, .inl (dA 2, 1, .inr (.inl og)))] ++ (VW dA h ad x)) sz) ([(o, .inl (dA 2, 1, .inr (.inl og)))] ++ (VW dA h ad u9)) t9) (va_A ([(o, .inl (dA 2, 1, .inr (.inl og)))] ++ (VW dA h ad x)) sz)) mc9 ms9 (va_A ([(o, .inl (dA 2, 1, .inr (.inl og)))] ++ (VW dA h ad x)) sz) := by
  refine mkW (y := ⟨"SeriesVaultLaw", "append", "(LSeriesVault;IJJ[J)I"⟩) (cc := method_9_code) (maxL := 8) (av := [.ref h, .int p0, .long p1, .long p2, .ref o]) (ws := [(o, .inl (dA 2, 1, .inr (.inl og)))] ++ (VW dA h ad x)) (sz := sz) (Qc := fun A => va_Qi (fun (r9 : Int32) (u9 : VS) => r9 = 4 ∧ F9 u9) (fun (u9 : VS) t9 => bW D A ([(o, .inl (dA 2, 1, .inr (.inl og)))] ++ (VW dA h ad u9)) t9) A) (by decide) (Nat.le_of_ble_eq_true rfl) ?_
  intro A p e s m below meth c ls hsz htab hB
  obtain ⟨hx, hb, hr, hml, hown, hin, hlk, hE, hK, hP, hD, hS, hA, hN, hl⟩ := hB
  have hown : s.vm.findClass "SeriesVaultLaw" = some m.cls := hown
  have hl : lv_has ls 8 [(0, .ref h), (1, .int p0), (2, .long p1), (4, .long p2), (6, .ref o)] := hl
  obtain ⟨H, hH⟩ : ∃ z, z = s.heap := ⟨_, rfl⟩
  have hP : va_P D vwCl ([(o, .inl (dA 2, 1, .inr (.inl og)))] ++ (VW dA h ad x)) H := by rw [hH]; exact hP
  have hS : va_S A s.heap H [] := by rw [hH]; exact hS
  rw [← hH]
  refine lv_aload hx hb d_SeriesVaultLaw_append_0 (lv_at hl 4 rfl) ?_
  refine lv_iconst (v := 0) hx hb d_SeriesVaultLaw_append_2 (by decide) ?_
  refine lv_aload_n hx hb d_SeriesVaultLaw_append_3 rfl (lv_at hl 0 rfl) ?_
  refine lv_iload_n hx hb d_SeriesVaultLaw_append_4 rfl (lv_at hl 1 rfl) ?_
  refine lv_lload_n hx hb d_SeriesVaultLaw_append_5 rfl (lv_at hl 2 rfl) ?_
  refine lv_lload hx hb d_SeriesVaultLaw_append_6 (lv_at hl 3 rfl) ?_
  refine xkV (S := VS) (F := F9) (w1 := fun u => VW dA h ad u) (wr := [(o, .inl (dA 2, 1, .inr (.inl og)))]) (As := [.int p0, .long p1, .long p2]) (rest := [.int 0, .ref o]) hx hb hml hown hE hK (hN _ _ hS) (hc9 H.size) (q0 := 0) rfl rfl w377 w376 w378 w379 w277 rfl rfl ⟨⟨by decide, by decide⟩, rfl⟩ ⟨(by first | exact Nat.le_of_ble_eq_true rfl | (dsimp only; omega)), (by first | exact Nat.le_of_ble_eq_true rfl | (dsimp only; omega))⟩ rfl hl.1 rfl (by first | exact Nat.le_of_ble_eq_true rfl | (dsimp only; omega)) d_SeriesVaultLaw_append_8 ⟨(show 0 + mc9 ≤ mc9 by omega), (show 0 + ms9 ≤ ms9 by omega)⟩ hP hD hS hA (fun u2 xa1 ce H locs hf9 hP hD hS hce hcv hcl => ?_)
  have hP : va_P D vwCl ([(o, .inl (dA 2, 1, .inr (.inl og)))] ++ (VW dA h ad u2)) H := hP
  have hD : va_D A ([(o, .inl (dA 2, 1, .inr (.inl og)))] ++ (VW dA h ad u2)) := hD
  refine xCatch (E := "java/lang/UnsupportedOperationException") hown hE [⟨0, 13, 16, 29⟩, ⟨0, 13, 20, 35⟩, ⟨0, 13, 24, 19⟩] ⟨0, 13, 28, 13⟩ [] htab (List.forall_mem_cons.mpr ⟨⟨by decide, "java/lang/IllegalStateException", w363, by decide⟩, List.forall_mem_cons.mpr ⟨⟨by decide, "java/lang/IndexOutOfBoundsException", w354, by decide⟩, List.forall_mem_cons.mpr ⟨⟨by decide, "java/lang/IllegalArgumentException", w349, by decide⟩, fun _ h => absurd h List.not_mem_nil⟩⟩⟩) (by decide) (by decide) w1791 w1150 hce hcv hcl ?_
  refine lv_astore hx hb d_SeriesVaultLaw_append_28 hl (by decide) rfl (fun ls hl => ?_)
  have hl : lv_has ls 8 [(7, .ref xa1), (0, .ref h), (1, .int p0), (2, .long p1), (4, .long p2), (6, .ref o)] := hl
  refine lv_iconst (v := 4) hx hb d_SeriesVaultLaw_append_30 (by decide) ?_
  exact rfI hx hb hr hlk hS u2 ⟨rfl, hf9⟩ hP hD (show 0 + mc9 ≤ mc9 by omega) (show 0 + ms9 ≤ ms9 by omega) d_SeriesVaultLaw_append_31
theorem d_SeriesVaultLaw_delete_11 : decode method_11_code 11 = .ok (.i2l, 1) := by decide +kernel
theorem d_SeriesVaultLaw_delete_12 : decode method_11_code 12 = .ok (.lastore, 1) := by decide +kernel
theorem d_SeriesVaultLaw_delete_13 : decode method_11_code 13 = .ok (.goto 19, 3) := by decide +kernel
theorem d_SeriesVaultLaw_delete_32 : decode method_11_code 32 = .ok (.iconst 0, 1) := by decide +kernel
theorem d_SeriesVaultLaw_delete_33 : decode method_11_code 33 = .ok (.ireturn, 1) := by decide +kernel
set_option maxHeartbeats 4000000 in
set_option maxRecDepth 100000 in
theorem k8_delete (l : Launch) (D : va_G) (dA : Nat → ClassId) (sz : Nat) (h : Nat) (ad : Nat → Nat) (o : Nat) (og : Nat → Int64) (x : VS) (p0 : Int32) (p1 : Int64) (p2 : Int64) (v9 : Int32) (F9 : VS → Prop) (fr : Nat) (lo : Nat) (mc9 : Nat) (ms9 : Nat) (hc9 : ∀ sz : Nat, Met l ⟨"SeriesVault", "delete", "(IJJ)I"⟩ [Cond.code ⟨"SeriesVault", "delete", "(IJJ)I"⟩ prog_1_method_34_code 8 (some FieldType.int)] { frames := fr, cells := mc9, slots := ms9, locals := lo } (pC D dA [.ref h, .int p0, .long p1, .long p2] (VW dA h ad x) sz) (va_Qi (fun (r9 : Int32) (u9 : VS) => r9 = v9 ∧ F9 u9) (fun (u9 : VS) t9 => bW D (va_A (VW dA h ad x) sz) (VW dA h ad u9) t9) (va_A (VW dA h ad x) sz)) mc9 ms9 (va_A (VW dA h ad x) sz)) : Met l ⟨"SeriesVaultLaw", "delete", "(LSeriesVault;IJJ[J)I"⟩ [Cond.codeWith ⟨"SeriesVaultLaw", "delete", "(LSeriesVault;IJJ[J)I"⟩ method_11_code 8 (some FieldType.int) [(0, 13, 16, 29), (0, 13, 20, 35), (0, 13, 24, 19), (0, 13, 28, 13)]] { frames := fr + 1, cells := mc9, slots := ms9, locals := lo + 27 } (pC D dA [.ref h, .int p0, .long p1, .long p2, .ref o] ([(o, .inl (dA 2, 1, .inr (.inl og)))] ++ (VW dA h ad x)) sz) (va_Qi (fun (r9 : Int32) (u9 : VS) => r9 = 0 ∧ F9 u9) (fun (u9 : VS) t9 => bW D (va_A ([(o, .inl (dA 2, 1, .inr (.inl og)))] ++ (VW dA h ad x)) sz) ([(o, .inl (dA 2, 1, .inr (.inl (va_up og 0 (v9.toInt64)))))] ++ (VW dA h ad u9)) t9) (va_A ([(o, .inl (dA 2, 1, .inr (.inl og)))] ++ (VW dA h ad x)) sz)) mc9 ms9 (va_A ([(o, .inl (dA 2, 1, .inr (.inl og)))] ++ (VW dA h ad x)) sz) := by
  refine mkW (y := ⟨"SeriesVaultLaw", "delete", "(LSeriesVault;IJJ[J)I"⟩) (cc := method_11_code) (maxL := 8) (av := [.ref h, .int p0, .long p1, .long p2, .ref o]) (ws := [(o, .inl (dA 2, 1, .inr (.inl og)))] ++ (VW dA h ad x)) (sz := sz) (Qc := fun A => va_Qi (fun (r9 : Int32) (u9 : VS) => r9 = 0 ∧ F9 u9) (fun (u9 : VS) t9 => bW D A ([(o, .inl (dA 2, 1, .inr (.inl (va_up og 0 (v9.toInt64)))))] ++ (VW dA h ad u9)) t9) A) (by decide) (Nat.le_of_ble_eq_true rfl) ?_
  intro A p e s m below meth c ls hsz htab hB
  obtain ⟨hx, hb, hr, hml, hown, hin, hlk, hE, hK, hP, hD, hS, hA, hN, hl⟩ := hB
  have hown : s.vm.findClass "SeriesVaultLaw" = some m.cls := hown
  have hl : lv_has ls 8 [(0, .ref h), (1, .int p0), (2, .long p1), (4, .long p2), (6, .ref o)] := hl
  obtain ⟨H, hH⟩ : ∃ z, z = s.heap := ⟨_, rfl⟩
  have hP : va_P D vwCl ([(o, .inl (dA 2, 1, .inr (.inl og)))] ++ (VW dA h ad x)) H := by rw [hH]; exact hP
  have hS : va_S A s.heap H [] := by rw [hH]; exact hS
  rw [← hH]
  refine lv_aload hx hb d_SeriesVaultLaw_delete_0 (lv_at hl 4 rfl) ?_
  refine lv_iconst (v := 0) hx hb d_SeriesVaultLaw_delete_2 (by decide) ?_
  refine lv_aload_n hx hb d_SeriesVaultLaw_delete_3 rfl (lv_at hl 0 rfl) ?_
  refine lv_iload_n hx hb d_SeriesVaultLaw_delete_4 rfl (lv_at hl 1 rfl) ?_
  refine lv_lload_n hx hb d_SeriesVaultLaw_delete_5 rfl (lv_at hl 2 rfl) ?_
  refine lv_lload hx hb d_SeriesVaultLaw_delete_6 (lv_at hl 3 rfl) ?_
  have hPc : va_P D vwCl (VW dA h ad x) H := spP (wr := [(o, .inl (dA 2, 1, .inr (.inl og)))]) hP
  have hDc : va_D A (VW dA h ad x) := spD (wr := [(o, .inl (dA 2, 1, .inr (.inl og)))]) hD
  refine jkI (wr := [(o, .inl (dA 2, 1, .inr (.inl og)))]) (rnV (As := [.int p0, .long p1, .long p2]) (rest := [.int 0, .ref o]) hx hb hml hown hE hK (hN _ _ hS) hPc hDc ((fun (_ : Launch) (_ : va_G) (_ : Nat → ClassId) (sz9 : Nat) (_ : Nat) (_ : Nat → Nat) (_ : VS) (_ : Int32) (_ : Int64) (_ : Int64) => hc9 sz9) l D dA H.size h ad x p0 p1 p2) (q0 := 0) rfl rfl w385 w384 w386 w387 w277 rfl rfl ⟨⟨by decide, by decide⟩, rfl⟩ ⟨(by first | exact Nat.le_of_ble_eq_true rfl | (dsimp only; omega)), (by first | exact Nat.le_of_ble_eq_true rfl | (dsimp only; omega))⟩ rfl hl.1 rfl (by first | exact Nat.le_of_ble_eq_true rfl | (dsimp only; omega)) d_SeriesVaultLaw_delete_8 ⟨(show 0 + mc9 ≤ mc9 by omega), (show 0 + ms9 ≤ ms9 by omega)⟩) hP hD hS hA (fun r1 u2 H locs hp9 hP hD hS => ?_)
  obtain ⟨u8, h9u⟩ : ∃ z9, z9 = u2 := ⟨_, rfl⟩
  subst h9u
  have hP : va_P D vwCl ([(o, .inl (dA 2, 1, .inr (.inl og)))] ++ (VW dA h ad u8)) H := hP
  have hD : va_D A ([(o, .inl (dA 2, 1, .inr (.inl og)))] ++ (VW dA h ad u8)) := hD
  obtain ⟨hp9, f_f_3⟩ := hp9
  replace hp9 : v9 = r1 := Eq.symm hp9
  subst hp9
  refine lv_i2l hx hb d_SeriesVaultLaw_delete_11 rfl ?_
  refine nlst (n := 1) hx hb hK hP hD hS (0) 2 rfl rfl (0) (by omega) (by decide) d_SeriesVaultLaw_delete_12 (fun H locs hP hD hS => ?_)
  have hP : va_P D vwCl ([(o, .inl (dA 2, 1, .inr (.inl (va_up og 0 v9.toInt64))))] ++ (VW dA h ad u8)) H := hP
  have hD : va_D A ([(o, .inl (dA 2, 1, .inr (.inl (va_up og 0 v9.toInt64))))] ++ (VW dA h ad u8)) := hD
  refine lv_goto hx hb d_SeriesVaultLaw_delete_13 (tgt := 32) rfl ?_
  refine lv_iconst (v := 0) hx hb d_SeriesVaultLaw_delete_32 (by decide) ?_
  exact rfI hx hb hr hlk hS u8 ⟨rfl, f_f_3⟩ hP hD (show 0 + mc9 ≤ mc9 by omega) (show 0 + ms9 ≤ ms9 by omega) d_SeriesVaultLaw_delete_33
theorem d_SeriesVaultLaw_delete_16 : decode method_11_code 16 = .ok (.astore 7, 2) := by decide +kernel
theorem d_SeriesVaultLaw_delete_18 : decode method_11_code 18 = .ok (.iconst 1, 1) := by decide +kernel
theorem d_SeriesVaultLaw_delete_19 : decode method_11_code 19 = .ok (.ireturn, 1) := by decide +kernel
set_option maxHeartbeats 4000000 in
set_option maxRecDepth 100000 in
theorem k8_delete_1 (l : Launch) (D : va_G) (dA : Nat → ClassId) (sz : Nat) (h : Nat) (ad : Nat → Nat) (o : Nat) (og : Nat → Int64) (x : VS) (p0 : Int32) (p1 : Int64) (p2 : Int64) (F9 : VS → Prop) (fr : Nat) (lo : Nat) (mc9 : Nat) (ms9 : Nat) (hc9 : ∀ sz : Nat, mX l ⟨"SeriesVault", "delete", "(IJJ)I"⟩ [Cond.code ⟨"SeriesVault", "delete", "(IJJ)I"⟩ prog_1_method_34_code 8 (some FieldType.int)] { frames := fr, cells := mc9, slots := ms9, locals := lo } (pC D dA [.ref h, .int p0, .long p1, .long p2] (VW dA h ad x) sz) "java/lang/IllegalStateException" (fun st9 t9 => va_F (va_A (VW dA h ad x) sz) st9 t9 ∧ ∃ u9 : VS, F9 u9 ∧ bW D (va_A (VW dA h ad x) sz) (VW dA h ad u9) t9) mc9 ms9 (va_A (VW dA h ad x) sz)) : Met l ⟨"SeriesVaultLaw", "delete", "(LSeriesVault;IJJ[J)I"⟩ [Cond.codeWith ⟨"SeriesVaultLaw", "delete", "(LSeriesVault;IJJ[J)I"⟩ method_11_code 8 (some FieldType.int) [(0, 13, 16, 29), (0, 13, 20, 35), (0, 13, 24, 19), (0, 13, 28, 13)]] { frames := fr + 1, cells := mc9, slots := ms9, locals := lo + 27 } (pC D dA [.ref h, .int p0, .long p1, .long p2, .ref o] ([(o, .inl (dA 2, 1, .inr (.inl og)))] ++ (VW dA h ad x)) sz) (va_Qi (fun (r9 : Int32) (u9 : VS) => r9 = 1 ∧ F9 u9) (fun (u9 : VS) t9 => bW D (va_A ([(o, .inl (dA 2, 1, .inr (.inl og)))] ++ (VW dA h ad x)) sz) ([(o, .inl (dA 2, 1, .inr (.inl og)))] ++ (VW dA h ad u9)) t9) (va_A ([(o, .inl (dA 2, 1, .inr (.inl og)))] ++ (VW dA h ad x)) sz)) mc9 ms9 (va_A ([(o, .inl (dA 2, 1, .inr (.inl og)))] ++ (VW dA h ad x)) sz) := by
  refine mkW (y := ⟨"SeriesVaultLaw", "delete", "(LSeriesVault;IJJ[J)I"⟩) (cc := method_11_code) (maxL := 8) (av := [.ref h, .int p0, .long p1, .long p2, .ref o]) (ws := [(o, .inl (dA 2, 1, .inr (.inl og)))] ++ (VW dA h ad x)) (sz := sz) (Qc := fun A => va_Qi (fun (r9 : Int32) (u9 : VS) => r9 = 1 ∧ F9 u9) (fun (u9 : VS) t9 => bW D A ([(o, .inl (dA 2, 1, .inr (.inl og)))] ++ (VW dA h ad u9)) t9) A) (by decide) (Nat.le_of_ble_eq_true rfl) ?_
  intro A p e s m below meth c ls hsz htab hB
  obtain ⟨hx, hb, hr, hml, hown, hin, hlk, hE, hK, hP, hD, hS, hA, hN, hl⟩ := hB
  have hown : s.vm.findClass "SeriesVaultLaw" = some m.cls := hown
  have hl : lv_has ls 8 [(0, .ref h), (1, .int p0), (2, .long p1), (4, .long p2), (6, .ref o)] := hl
  obtain ⟨H, hH⟩ : ∃ z, z = s.heap := ⟨_, rfl⟩
  have hP : va_P D vwCl ([(o, .inl (dA 2, 1, .inr (.inl og)))] ++ (VW dA h ad x)) H := by rw [hH]; exact hP
  have hS : va_S A s.heap H [] := by rw [hH]; exact hS
  rw [← hH]
  refine lv_aload hx hb d_SeriesVaultLaw_delete_0 (lv_at hl 4 rfl) ?_
  refine lv_iconst (v := 0) hx hb d_SeriesVaultLaw_delete_2 (by decide) ?_
  refine lv_aload_n hx hb d_SeriesVaultLaw_delete_3 rfl (lv_at hl 0 rfl) ?_
  refine lv_iload_n hx hb d_SeriesVaultLaw_delete_4 rfl (lv_at hl 1 rfl) ?_
  refine lv_lload_n hx hb d_SeriesVaultLaw_delete_5 rfl (lv_at hl 2 rfl) ?_
  refine lv_lload hx hb d_SeriesVaultLaw_delete_6 (lv_at hl 3 rfl) ?_
  refine xkV (S := VS) (F := F9) (w1 := fun u => VW dA h ad u) (wr := [(o, .inl (dA 2, 1, .inr (.inl og)))]) (As := [.int p0, .long p1, .long p2]) (rest := [.int 0, .ref o]) hx hb hml hown hE hK (hN _ _ hS) (hc9 H.size) (q0 := 0) rfl rfl w385 w384 w386 w387 w277 rfl rfl ⟨⟨by decide, by decide⟩, rfl⟩ ⟨(by first | exact Nat.le_of_ble_eq_true rfl | (dsimp only; omega)), (by first | exact Nat.le_of_ble_eq_true rfl | (dsimp only; omega))⟩ rfl hl.1 rfl (by first | exact Nat.le_of_ble_eq_true rfl | (dsimp only; omega)) d_SeriesVaultLaw_delete_8 ⟨(show 0 + mc9 ≤ mc9 by omega), (show 0 + ms9 ≤ ms9 by omega)⟩ hP hD hS hA (fun u2 xa1 ce H locs hf9 hP hD hS hce hcv hcl => ?_)
  have hP : va_P D vwCl ([(o, .inl (dA 2, 1, .inr (.inl og)))] ++ (VW dA h ad u2)) H := hP
  have hD : va_D A ([(o, .inl (dA 2, 1, .inr (.inl og)))] ++ (VW dA h ad u2)) := hD
  refine xCatch (E := "java/lang/IllegalStateException") hown hE [] ⟨0, 13, 16, 29⟩ [⟨0, 13, 20, 35⟩, ⟨0, 13, 24, 19⟩, ⟨0, 13, 28, 13⟩] htab (fun _ h => absurd h List.not_mem_nil) (by decide) (by decide) w363 w289 hce hcv hcl ?_
  refine lv_astore hx hb d_SeriesVaultLaw_delete_16 hl (by decide) rfl (fun ls hl => ?_)
  have hl : lv_has ls 8 [(7, .ref xa1), (0, .ref h), (1, .int p0), (2, .long p1), (4, .long p2), (6, .ref o)] := hl
  refine lv_iconst (v := 1) hx hb d_SeriesVaultLaw_delete_18 (by decide) ?_
  exact rfI hx hb hr hlk hS u2 ⟨rfl, hf9⟩ hP hD (show 0 + mc9 ≤ mc9 by omega) (show 0 + ms9 ≤ ms9 by omega) d_SeriesVaultLaw_delete_19
set_option maxHeartbeats 4000000 in
set_option maxRecDepth 100000 in
theorem k8_delete_2 (l : Launch) (D : va_G) (dA : Nat → ClassId) (sz : Nat) (h : Nat) (ad : Nat → Nat) (o : Nat) (og : Nat → Int64) (x : VS) (p0 : Int32) (p1 : Int64) (p2 : Int64) (F9 : VS → Prop) (fr : Nat) (lo : Nat) (mc9 : Nat) (ms9 : Nat) (hc9 : ∀ sz : Nat, mX l ⟨"SeriesVault", "delete", "(IJJ)I"⟩ [Cond.code ⟨"SeriesVault", "delete", "(IJJ)I"⟩ prog_1_method_34_code 8 (some FieldType.int)] { frames := fr, cells := mc9, slots := ms9, locals := lo } (pC D dA [.ref h, .int p0, .long p1, .long p2] (VW dA h ad x) sz) "java/lang/IndexOutOfBoundsException" (fun st9 t9 => va_F (va_A (VW dA h ad x) sz) st9 t9 ∧ ∃ u9 : VS, F9 u9 ∧ bW D (va_A (VW dA h ad x) sz) (VW dA h ad u9) t9) mc9 ms9 (va_A (VW dA h ad x) sz)) : Met l ⟨"SeriesVaultLaw", "delete", "(LSeriesVault;IJJ[J)I"⟩ [Cond.codeWith ⟨"SeriesVaultLaw", "delete", "(LSeriesVault;IJJ[J)I"⟩ method_11_code 8 (some FieldType.int) [(0, 13, 16, 29), (0, 13, 20, 35), (0, 13, 24, 19), (0, 13, 28, 13)]] { frames := fr + 1, cells := mc9, slots := ms9, locals := lo + 27 } (pC D dA [.ref h, .int p0, .long p1, .long p2, .ref o] ([(o, .inl (dA 2, 1, .inr (.inl og)))] ++ (VW dA h ad x)) sz) (va_Qi (fun (r9 : Int32) (u9 : VS) => r9 = 2 ∧ F9 u9) (fun (u9 : VS) t9 => bW D (va_A ([(o, .inl (dA 2, 1, .inr (.inl og)))] ++ (VW dA h ad x)) sz) ([(o, .inl (dA 2, 1, .inr (.inl og)))] ++ (VW dA h ad u9)) t9) (va_A ([(o, .inl (dA 2, 1, .inr (.inl og)))] ++ (VW dA h ad x)) sz)) mc9 ms9 (va_A ([(o, .inl (dA 2, 1, .inr (.inl og)))] ++ (VW dA h ad x)) sz) := by
  refine mkW (y := ⟨"SeriesVaultLaw", "delete", "(LSeriesVault;IJJ[J)I"⟩) (cc := method_11_code) (maxL := 8) (av := [.ref h, .int p0, .long p1, .long p2, .ref o]) (ws := [(o, .inl (dA 2, 1, .inr (.inl og)))] ++ (VW dA h ad x)) (sz := sz) (Qc := fun A => va_Qi (fun (r9 : Int32) (u9 : VS) => r9 = 2 ∧ F9 u9) (fun (u9 : VS) t9 => bW D A ([(o, .inl (dA 2, 1, .inr (.inl og)))] ++ (VW dA h ad u9)) t9) A) (by decide) (Nat.le_of_ble_eq_true rfl) ?_
  intro A p e s m below meth c ls hsz htab hB
  obtain ⟨hx, hb, hr, hml, hown, hin, hlk, hE, hK, hP, hD, hS, hA, hN, hl⟩ := hB
  have hown : s.vm.findClass "SeriesVaultLaw" = some m.cls := hown
  have hl : lv_has ls 8 [(0, .ref h), (1, .int p0), (2, .long p1), (4, .long p2), (6, .ref o)] := hl
  obtain ⟨H, hH⟩ : ∃ z, z = s.heap := ⟨_, rfl⟩
  have hP : va_P D vwCl ([(o, .inl (dA 2, 1, .inr (.inl og)))] ++ (VW dA h ad x)) H := by rw [hH]; exact hP
  have hS : va_S A s.heap H [] := by rw [hH]; exact hS
  rw [← hH]
  refine lv_aload hx hb d_SeriesVaultLaw_delete_0 (lv_at hl 4 rfl) ?_
  refine lv_iconst (v := 0) hx hb d_SeriesVaultLaw_delete_2 (by decide) ?_
  refine lv_aload_n hx hb d_SeriesVaultLaw_delete_3 rfl (lv_at hl 0 rfl) ?_
  refine lv_iload_n hx hb d_SeriesVaultLaw_delete_4 rfl (lv_at hl 1 rfl) ?_
  refine lv_lload_n hx hb d_SeriesVaultLaw_delete_5 rfl (lv_at hl 2 rfl) ?_
  refine lv_lload hx hb d_SeriesVaultLaw_delete_6 (lv_at hl 3 rfl) ?_
  refine xkV (S := VS) (F := F9) (w1 := fun u => VW dA h ad u) (wr := [(o, .inl (dA 2, 1, .inr (.inl og)))]) (As := [.int p0, .long p1, .long p2]) (rest := [.int 0, .ref o]) hx hb hml hown hE hK (hN _ _ hS) (hc9 H.size) (q0 := 0) rfl rfl w385 w384 w386 w387 w277 rfl rfl ⟨⟨by decide, by decide⟩, rfl⟩ ⟨(by first | exact Nat.le_of_ble_eq_true rfl | (dsimp only; omega)), (by first | exact Nat.le_of_ble_eq_true rfl | (dsimp only; omega))⟩ rfl hl.1 rfl (by first | exact Nat.le_of_ble_eq_true rfl | (dsimp only; omega)) d_SeriesVaultLaw_delete_8 ⟨(show 0 + mc9 ≤ mc9 by omega), (show 0 + ms9 ≤ ms9 by omega)⟩ hP hD hS hA (fun u2 xa1 ce H locs hf9 hP hD hS hce hcv hcl => ?_)
  have hP : va_P D vwCl ([(o, .inl (dA 2, 1, .inr (.inl og)))] ++ (VW dA h ad u2)) H := hP
  have hD : va_D A ([(o, .inl (dA 2, 1, .inr (.inl og)))] ++ (VW dA h ad u2)) := hD
  refine xCatch (E := "java/lang/IndexOutOfBoundsException") hown hE [⟨0, 13, 16, 29⟩] ⟨0, 13, 20, 35⟩ [⟨0, 13, 24, 19⟩, ⟨0, 13, 28, 13⟩] htab (List.forall_mem_cons.mpr ⟨⟨by decide, "java/lang/IllegalStateException", w363, by decide⟩, fun _ h => absurd h List.not_mem_nil⟩) (by decide) (by decide) w354 w222 hce hcv hcl ?_
  refine lv_astore hx hb d_SeriesVaultLaw_delete_20 hl (by decide) rfl (fun ls hl => ?_)
  have hl : lv_has ls 8 [(7, .ref xa1), (0, .ref h), (1, .int p0), (2, .long p1), (4, .long p2), (6, .ref o)] := hl
  refine lv_iconst (v := 2) hx hb d_SeriesVaultLaw_delete_22 (by decide) ?_
  exact rfI hx hb hr hlk hS u2 ⟨rfl, hf9⟩ hP hD (show 0 + mc9 ≤ mc9 by omega) (show 0 + ms9 ≤ ms9 by omega) d_SeriesVaultLaw_delete_23
theorem d_SeriesVaultLaw_delete_24 : decode method_11_code 24 = .ok (.astore 7, 2) := by decide +kernel
theorem d_SeriesVaultLaw_delete_26 : decode method_11_code 26 = .ok (.iconst 3, 1) := by decide +kernel
theorem d_SeriesVaultLaw_delete_27 : decode method_11_code 27 = .ok (.ireturn, 1) := by decide +kernel
set_option maxHeartbeats 4000000 in
set_option maxRecDepth 100000 in
theorem k8_delete_3 (l : Launch) (D : va_G) (dA : Nat → ClassId) (sz : Nat) (h : Nat) (ad : Nat → Nat) (o : Nat) (og : Nat → Int64) (x : VS) (p0 : Int32) (p1 : Int64) (p2 : Int64) (F9 : VS → Prop) (fr : Nat) (lo : Nat) (mc9 : Nat) (ms9 : Nat) (hc9 : ∀ sz : Nat, mX l ⟨"SeriesVault", "delete", "(IJJ)I"⟩ [Cond.code ⟨"SeriesVault", "delete", "(IJJ)I"⟩ prog_1_method_34_code 8 (some FieldType.int)] { frames := fr, cells := mc9, slots := ms9, locals := lo } (pC D dA [.ref h, .int p0, .long p1, .long p2] (VW dA h ad x) sz) "java/lang/IllegalArgumentException" (fun st9 t9 => va_F (va_A (VW dA h ad x) sz) st9 t9 ∧ ∃ u9 : VS, F9 u9 ∧ bW D (va_A (VW dA h ad x) sz) (VW dA h ad u9) t9) mc9 ms9 (va_A (VW dA h ad x) sz)) : Met l ⟨"SeriesVaultLaw", "delete", "(LSeriesVault;IJJ[J)I"⟩ [Cond.codeWith ⟨"SeriesVaultLaw", "delete", "(LSeriesVault;IJJ[J)I"⟩ method_11_code 8 (some FieldType.int) [(0, 13, 16, 29), (0, 13, 20, 35), (0, 13, 24, 19), (0, 13, 28, 13)]] { frames := fr + 1, cells := mc9, slots := ms9, locals := lo + 27 } (pC D dA [.ref h, .int p0, .long p1, .long p2, .ref o] ([(o, .inl (dA 2, 1, .inr (.inl og)))] ++ (VW dA h ad x)) sz) (va_Qi (fun (r9 : Int32) (u9 : VS) => r9 = 3 ∧ F9 u9) (fun (u9 : VS) t9 => bW D (va_A ([(o, .inl (dA 2, 1, .inr (.inl og)))] ++ (VW dA h ad x)) sz) ([(o, .inl (dA 2, 1, .inr (.inl og)))] ++ (VW dA h ad u9)) t9) (va_A ([(o, .inl (dA 2, 1, .inr (.inl og)))] ++ (VW dA h ad x)) sz)) mc9 ms9 (va_A ([(o, .inl (dA 2, 1, .inr (.inl og)))] ++ (VW dA h ad x)) sz) := by
  refine mkW (y := ⟨"SeriesVaultLaw", "delete", "(LSeriesVault;IJJ[J)I"⟩) (cc := method_11_code) (maxL := 8) (av := [.ref h, .int p0, .long p1, .long p2, .ref o]) (ws := [(o, .inl (dA 2, 1, .inr (.inl og)))] ++ (VW dA h ad x)) (sz := sz) (Qc := fun A => va_Qi (fun (r9 : Int32) (u9 : VS) => r9 = 3 ∧ F9 u9) (fun (u9 : VS) t9 => bW D A ([(o, .inl (dA 2, 1, .inr (.inl og)))] ++ (VW dA h ad u9)) t9) A) (by decide) (Nat.le_of_ble_eq_true rfl) ?_
  intro A p e s m below meth c ls hsz htab hB
  obtain ⟨hx, hb, hr, hml, hown, hin, hlk, hE, hK, hP, hD, hS, hA, hN, hl⟩ := hB
  have hown : s.vm.findClass "SeriesVaultLaw" = some m.cls := hown
  have hl : lv_has ls 8 [(0, .ref h), (1, .int p0), (2, .long p1), (4, .long p2), (6, .ref o)] := hl
  obtain ⟨H, hH⟩ : ∃ z, z = s.heap := ⟨_, rfl⟩
  have hP : va_P D vwCl ([(o, .inl (dA 2, 1, .inr (.inl og)))] ++ (VW dA h ad x)) H := by rw [hH]; exact hP
  have hS : va_S A s.heap H [] := by rw [hH]; exact hS
  rw [← hH]
  refine lv_aload hx hb d_SeriesVaultLaw_delete_0 (lv_at hl 4 rfl) ?_
  refine lv_iconst (v := 0) hx hb d_SeriesVaultLaw_delete_2 (by decide) ?_
  refine lv_aload_n hx hb d_SeriesVaultLaw_delete_3 rfl (lv_at hl 0 rfl) ?_
  refine lv_iload_n hx hb d_SeriesVaultLaw_delete_4 rfl (lv_at hl 1 rfl) ?_
  refine lv_lload_n hx hb d_SeriesVaultLaw_delete_5 rfl (lv_at hl 2 rfl) ?_
  refine lv_lload hx hb d_SeriesVaultLaw_delete_6 (lv_at hl 3 rfl) ?_
  refine xkV (S := VS) (F := F9) (w1 := fun u => VW dA h ad u) (wr := [(o, .inl (dA 2, 1, .inr (.inl og)))]) (As := [.int p0, .long p1, .long p2]) (rest := [.int 0, .ref o]) hx hb hml hown hE hK (hN _ _ hS) (hc9 H.size) (q0 := 0) rfl rfl w385 w384 w386 w387 w277 rfl rfl ⟨⟨by decide, by decide⟩, rfl⟩ ⟨(by first | exact Nat.le_of_ble_eq_true rfl | (dsimp only; omega)), (by first | exact Nat.le_of_ble_eq_true rfl | (dsimp only; omega))⟩ rfl hl.1 rfl (by first | exact Nat.le_of_ble_eq_true rfl | (dsimp only; omega)) d_SeriesVaultLaw_delete_8 ⟨(show 0 + mc9 ≤ mc9 by omega), (show 0 + ms9 ≤ ms9 by omega)⟩ hP hD hS hA (fun u2 xa1 ce H locs hf9 hP hD hS hce hcv hcl => ?_)
  have hP : va_P D vwCl ([(o, .inl (dA 2, 1, .inr (.inl og)))] ++ (VW dA h ad u2)) H := hP
  have hD : va_D A ([(o, .inl (dA 2, 1, .inr (.inl og)))] ++ (VW dA h ad u2)) := hD
  refine xCatch (E := "java/lang/IllegalArgumentException") hown hE [⟨0, 13, 16, 29⟩, ⟨0, 13, 20, 35⟩] ⟨0, 13, 24, 19⟩ [⟨0, 13, 28, 13⟩] htab (List.forall_mem_cons.mpr ⟨⟨by decide, "java/lang/IllegalStateException", w363, by decide⟩, List.forall_mem_cons.mpr ⟨⟨by decide, "java/lang/IndexOutOfBoundsException", w354, by decide⟩, fun _ h => absurd h List.not_mem_nil⟩⟩) (by decide) (by decide) w349 w267 hce hcv hcl ?_
  refine lv_astore hx hb d_SeriesVaultLaw_delete_24 hl (by decide) rfl (fun ls hl => ?_)
  have hl : lv_has ls 8 [(7, .ref xa1), (0, .ref h), (1, .int p0), (2, .long p1), (4, .long p2), (6, .ref o)] := hl
  refine lv_iconst (v := 3) hx hb d_SeriesVaultLaw_delete_26 (by decide) ?_
  exact rfI hx hb hr hlk hS u2 ⟨rfl, hf9⟩ hP hD (show 0 + mc9 ≤ mc9 by omega) (show 0 + ms9 ≤ ms9 by omega) d_SeriesVaultLaw_delete_27
theorem d_SeriesVaultLaw_delete_28 : decode method_11_code 28 = .ok (.astore 7, 2) := by decide +kernel
theorem d_SeriesVaultLaw_delete_30 : decode method_11_code 30 = .ok (.iconst 4, 1) := by decide +kernel
theorem d_SeriesVaultLaw_delete_31 : decode method_11_code 31 = .ok (.ireturn, 1) := by decide +kernel
set_option maxHeartbeats 4000000 in
set_option maxRecDepth 100000 in
theorem k8_delete_4 (l : Launch) (D : va_G) (dA : Nat → ClassId) (sz : Nat) (h : Nat) (ad : Nat → Nat) (o : Nat) (og : Nat → Int64) (x : VS) (p0 : Int32) (p1 : Int64) (p2 : Int64) (F9 : VS → Prop) (fr : Nat) (lo : Nat) (mc9 : Nat) (ms9 : Nat) (hc9 : ∀ sz : Nat, mX l ⟨"SeriesVault", "delete", "(IJJ)I"⟩ [Cond.code ⟨"SeriesVault", "delete", "(IJJ)I"⟩ prog_1_method_34_code 8 (some FieldType.int)] { frames := fr, cells := mc9, slots := ms9, locals := lo } (pC D dA [.ref h, .int p0, .long p1, .long p2] (VW dA h ad x) sz) "java/lang/UnsupportedOperationException" (fun st9 t9 => va_F (va_A (VW dA h ad x) sz) st9 t9 ∧ ∃ u9 : VS, F9 u9 ∧ bW D (va_A (VW dA h ad x) sz) (VW dA h ad u9) t9) mc9 ms9 (va_A (VW dA h ad x) sz)) : Met l ⟨"SeriesVaultLaw", "delete", "(LSeriesVault;IJJ[J)I"⟩ [Cond.codeWith ⟨"SeriesVaultLaw", "delete", "(LSeriesVault;IJJ[J)I"⟩ method_11_code 8 (some FieldType.int) [(0, 13, 16, 29), (0, 13, 20, 35), (0, 13, 24, 19), (0, 13, 28, 13)]] { frames := fr + 1, cells := mc9, slots := ms9, locals := lo + 27 } (pC D dA [.ref h, .int p0, .long p1, .long p2, .ref o] ([(o, .inl (dA 2, 1, .inr (.inl og)))] ++ (VW dA h ad x)) sz) (va_Qi (fun (r9 : Int32) (u9 : VS) => r9 = 4 ∧ F9 u9) (fun (u9 : VS) t9 => bW D (va_A ([(o, .inl (dA 2, 1, .inr (.inl og)))] ++ (VW dA h ad x)) sz) ([(o, .inl (dA 2, 1, .inr (.inl og)))] ++ (VW dA h ad u9)) t9) (va_A ([(o, .inl (dA 2, 1, .inr (.inl og)))] ++ (VW dA h ad x)) sz)) mc9 ms9 (va_A ([(o, .inl (dA 2, 1, .inr (.inl og)))] ++ (VW dA h ad x)) sz) := by
  refine mkW (y := ⟨"SeriesVaultLaw", "delete", "(LSeriesVault;IJJ[J)I"⟩) (cc := method_11_code) (maxL := 8) (av := [.ref h, .int p0, .long p1, .long p2, .ref o]) (ws := [(o, .inl (dA 2, 1, .inr (.inl og)))] ++ (VW dA h ad x)) (sz := sz) (Qc := fun A => va_Qi (fun (r9 : Int32) (u9 : VS) => r9 = 4 ∧ F9 u9) (fun (u9 : VS) t9 => bW D A ([(o, .inl (dA 2, 1, .inr (.inl og)))] ++ (VW dA h ad u9)) t9) A) (by decide) (Nat.le_of_ble_eq_true rfl) ?_
  intro A p e s m below meth c ls hsz htab hB
  obtain ⟨hx, hb, hr, hml, hown, hin, hlk, hE, hK, hP, hD, hS, hA, hN, hl⟩ := hB
  have hown : s.vm.findClass "SeriesVaultLaw" = some m.cls := hown
  have hl : lv_has ls 8 [(0, .ref h), (1, .int p0), (2, .long p1), (4, .long p2), (6, .ref o)] := hl
  obtain ⟨H, hH⟩ : ∃ z, z = s.heap := ⟨_, rfl⟩
  have hP : va_P D vwCl ([(o, .inl (dA 2, 1, .inr (.inl og)))] ++ (VW dA h ad x)) H := by rw [hH]; exact hP
  have hS : va_S A s.heap H [] := by rw [hH]; exact hS
  rw [← hH]
  refine lv_aload hx hb d_SeriesVaultLaw_delete_0 (lv_at hl 4 rfl) ?_
  refine lv_iconst (v := 0) hx hb d_SeriesVaultLaw_delete_2 (by decide) ?_
  refine lv_aload_n hx hb d_SeriesVaultLaw_delete_3 rfl (lv_at hl 0 rfl) ?_
  refine lv_iload_n hx hb d_SeriesVaultLaw_delete_4 rfl (lv_at hl 1 rfl) ?_
  refine lv_lload_n hx hb d_SeriesVaultLaw_delete_5 rfl (lv_at hl 2 rfl) ?_
  refine lv_lload hx hb d_SeriesVaultLaw_delete_6 (lv_at hl 3 rfl) ?_
  refine xkV (S := VS) (F := F9) (w1 := fun u => VW dA h ad u) (wr := [(o, .inl (dA 2, 1, .inr (.inl og)))]) (As := [.int p0, .long p1, .long p2]) (rest := [.int 0, .ref o]) hx hb hml hown hE hK (hN _ _ hS) (hc9 H.size) (q0 := 0) rfl rfl w385 w384 w386 w387 w277 rfl rfl ⟨⟨by decide, by decide⟩, rfl⟩ ⟨(by first | exact Nat.le_of_ble_eq_true rfl | (dsimp only; omega)), (by first | exact Nat.le_of_ble_eq_true rfl | (dsimp only; omega))⟩ rfl hl.1 rfl (by first | exact Nat.le_of_ble_eq_true rfl | (dsimp only; omega)) d_SeriesVaultLaw_delete_8 ⟨(show 0 + mc9 ≤ mc9 by omega), (show 0 + ms9 ≤ ms9 by omega)⟩ hP hD hS hA (fun u2 xa1 ce H locs hf9 hP hD hS hce hcv hcl => ?_)
  have hP : va_P D vwCl ([(o, .inl (dA 2, 1, .inr (.inl og)))] ++ (VW dA h ad u2)) H := hP
  have hD : va_D A ([(o, .inl (dA 2, 1, .inr (.inl og)))] ++ (VW dA h ad u2)) := hD
  refine xCatch (E := "java/lang/UnsupportedOperationException") hown hE [⟨0, 13, 16, 29⟩, ⟨0, 13, 20, 35⟩, ⟨0, 13, 24, 19⟩] ⟨0, 13, 28, 13⟩ [] htab (List.forall_mem_cons.mpr ⟨⟨by decide, "java/lang/IllegalStateException", w363, by decide⟩, List.forall_mem_cons.mpr ⟨⟨by decide, "java/lang/IndexOutOfBoundsException", w354, by decide⟩, List.forall_mem_cons.mpr ⟨⟨by decide, "java/lang/IllegalArgumentException", w349, by decide⟩, fun _ h => absurd h List.not_mem_nil⟩⟩⟩) (by decide) (by decide) w1791 w1150 hce hcv hcl ?_
  refine lv_astore hx hb d_SeriesVaultLaw_delete_28 hl (by decide) rfl (fun ls hl => ?_)
  have hl : lv_has ls 8 [(7, .ref xa1), (0, .ref h), (1, .int p0), (2, .long p1), (4, .long p2), (6, .ref o)] := hl
  refine lv_iconst (v := 4) hx hb d_SeriesVaultLaw_delete_30 (by decide) ?_
  exact rfI hx hb hr hlk hS u2 ⟨rfl, hf9⟩ hP hD (show 0 + mc9 ≤ mc9 by omega) (show 0 + ms9 ≤ ms9 by omega) d_SeriesVaultLaw_delete_31
theorem d_SeriesVaultLaw_bulk_7 : decode method_10_code 7 = .ok (.i2l, 1) := by decide +kernel
theorem d_SeriesVaultLaw_bulk_8 : decode method_10_code 8 = .ok (.lastore, 1) := by decide +kernel
theorem d_SeriesVaultLaw_bulk_9 : decode method_10_code 9 = .ok (.goto 9, 3) := by decide +kernel
theorem d_SeriesVaultLaw_bulk_18 : decode method_10_code 18 = .ok (.iconst 0, 1) := by decide +kernel
theorem d_SeriesVaultLaw_bulk_19 : decode method_10_code 19 = .ok (.ireturn, 1) := by decide +kernel
set_option maxHeartbeats 4000000 in
set_option maxRecDepth 100000 in
theorem k8_bulk (l : Launch) (D : va_G) (dA : Nat → ClassId) (sz : Nat) (h : Nat) (ad : Nat → Nat) (o : Nat) (og : Nat → Int64) (x : VS) (p0 : Int32) (v9 : Int32) (F9 : VS → Prop) (fr : Nat) (lo : Nat) (mc9 : Nat) (ms9 : Nat) (hc9 : ∀ sz : Nat, Met l ⟨"SeriesVault", "bulk", "(I)I"⟩ [Cond.code ⟨"SeriesVault", "bulk", "(I)I"⟩ prog_1_method_33_code 6 (some FieldType.int)] { frames := fr, cells := mc9, slots := ms9, locals := lo } (pC D dA [.ref h, .int p0] (VW dA h ad x) sz) (va_Qi (fun (r9 : Int32) (u9 : VS) => r9 = v9 ∧ F9 u9) (fun (u9 : VS) t9 => bW D (va_A (VW dA h ad x) sz) (VW dA h ad u9) t9) (va_A (VW dA h ad x) sz)) mc9 ms9 (va_A (VW dA h ad x) sz)) : Met l ⟨"SeriesVaultLaw", "bulk", "(LSeriesVault;I[J)I"⟩ [Cond.codeWith ⟨"SeriesVaultLaw", "bulk", "(LSeriesVault;I[J)I"⟩ method_10_code 4 (some FieldType.int) [(0, 9, 12, 29), (0, 9, 15, 35)]] { frames := fr + 1, cells := mc9, slots := ms9, locals := lo + 25 } (pC D dA [.ref h, .int p0, .ref o] ([(o, .inl (dA 2, 1, .inr (.inl og)))] ++ (VW dA h ad x)) sz) (va_Qi (fun (r9 : Int32) (u9 : VS) => r9 = 0 ∧ F9 u9) (fun (u9 : VS) t9 => bW D (va_A ([(o, .inl (dA 2, 1, .inr (.inl og)))] ++ (VW dA h ad x)) sz) ([(o, .inl (dA 2, 1, .inr (.inl (va_up og 0 (v9.toInt64)))))] ++ (VW dA h ad u9)) t9) (va_A ([(o, .inl (dA 2, 1, .inr (.inl og)))] ++ (VW dA h ad x)) sz)) mc9 ms9 (va_A ([(o, .inl (dA 2, 1, .inr (.inl og)))] ++ (VW dA h ad x)) sz) := by
  refine mkW (y := ⟨"SeriesVaultLaw", "bulk", "(LSeriesVault;I[J)I"⟩) (cc := method_10_code) (maxL := 4) (av := [.ref h, .int p0, .ref o]) (ws := [(o, .inl (dA 2, 1, .inr (.inl og)))] ++ (VW dA h ad x)) (sz := sz) (Qc := fun A => va_Qi (fun (r9 : Int32) (u9 : VS) => r9 = 0 ∧ F9 u9) (fun (u9 : VS) t9 => bW D A ([(o, .inl (dA 2, 1, .inr (.inl (va_up og 0 (v9.toInt64)))))] ++ (VW dA h ad u9)) t9) A) (by decide) (Nat.le_of_ble_eq_true rfl) ?_
  intro A p e s m below meth c ls hsz htab hB
  obtain ⟨hx, hb, hr, hml, hown, hin, hlk, hE, hK, hP, hD, hS, hA, hN, hl⟩ := hB
  have hown : s.vm.findClass "SeriesVaultLaw" = some m.cls := hown
  have hl : lv_has ls 4 [(0, .ref h), (1, .int p0), (2, .ref o)] := hl
  obtain ⟨H, hH⟩ : ∃ z, z = s.heap := ⟨_, rfl⟩
  have hP : va_P D vwCl ([(o, .inl (dA 2, 1, .inr (.inl og)))] ++ (VW dA h ad x)) H := by rw [hH]; exact hP
  have hS : va_S A s.heap H [] := by rw [hH]; exact hS
  rw [← hH]
  refine lv_aload_n hx hb d_SeriesVaultLaw_bulk_0 rfl (lv_at hl 2 rfl) ?_
  refine lv_iconst (v := 0) hx hb d_SeriesVaultLaw_bulk_1 (by decide) ?_
  refine lv_aload_n hx hb d_SeriesVaultLaw_bulk_2 rfl (lv_at hl 0 rfl) ?_
  refine lv_iload_n hx hb d_SeriesVaultLaw_bulk_3 rfl (lv_at hl 1 rfl) ?_
  have hPc : va_P D vwCl (VW dA h ad x) H := spP (wr := [(o, .inl (dA 2, 1, .inr (.inl og)))]) hP
  have hDc : va_D A (VW dA h ad x) := spD (wr := [(o, .inl (dA 2, 1, .inr (.inl og)))]) hD
  refine jkI (wr := [(o, .inl (dA 2, 1, .inr (.inl og)))]) (rnV (As := [.int p0]) (rest := [.int 0, .ref o]) hx hb hml hown hE hK (hN _ _ hS) hPc hDc ((fun (_ : Launch) (_ : va_G) (_ : Nat → ClassId) (sz9 : Nat) (_ : Nat) (_ : Nat → Nat) (_ : VS) (_ : Int32) => hc9 sz9) l D dA H.size h ad x p0) (q0 := 0) rfl rfl w381 w380 w382 w383 w277 rfl rfl ⟨⟨by decide, by decide⟩, rfl⟩ ⟨(by first | exact Nat.le_of_ble_eq_true rfl | (dsimp only; omega)), (by first | exact Nat.le_of_ble_eq_true rfl | (dsimp only; omega))⟩ rfl hl.1 rfl (by first | exact Nat.le_of_ble_eq_true rfl | (dsimp only; omega)) d_SeriesVaultLaw_bulk_4 ⟨(show 0 + mc9 ≤ mc9 by omega), (show 0 + ms9 ≤ ms9 by omega)⟩) hP hD hS hA (fun r1 u2 H locs hp9 hP hD hS => ?_)
  obtain ⟨u8, h9u⟩ : ∃ z9, z9 = u2 := ⟨_, rfl⟩
  subst h9u
  have hP : va_P D vwCl ([(o, .inl (dA 2, 1, .inr (.inl og)))] ++ (VW dA h ad u8)) H := hP
  have hD : va_D A ([(o, .inl (dA 2, 1, .inr (.inl og)))] ++ (VW dA h ad u8)) := hD
  obtain ⟨hp9, f_f_3⟩ := hp9
  replace hp9 : v9 = r1 := Eq.symm hp9
  subst hp9
  refine lv_i2l hx hb d_SeriesVaultLaw_bulk_7 rfl ?_
  refine nlst (n := 1) hx hb hK hP hD hS (0) 2 rfl rfl (0) (by omega) (by decide) d_SeriesVaultLaw_bulk_8 (fun H locs hP hD hS => ?_)
  have hP : va_P D vwCl ([(o, .inl (dA 2, 1, .inr (.inl (va_up og 0 v9.toInt64))))] ++ (VW dA h ad u8)) H := hP
  have hD : va_D A ([(o, .inl (dA 2, 1, .inr (.inl (va_up og 0 v9.toInt64))))] ++ (VW dA h ad u8)) := hD
  refine lv_goto hx hb d_SeriesVaultLaw_bulk_9 (tgt := 18) rfl ?_
  refine lv_iconst (v := 0) hx hb d_SeriesVaultLaw_bulk_18 (by decide) ?_
  exact rfI hx hb hr hlk hS u8 ⟨rfl, f_f_3⟩ hP hD (show 0 + mc9 ≤ mc9 by omega) (show 0 + ms9 ≤ ms9 by omega) d_SeriesVaultLaw_bulk_19
theorem d_SeriesVaultLaw_bulk_12 : decode method_10_code 12 = .ok (.astore_n 3, 1) := by decide +kernel
theorem d_SeriesVaultLaw_bulk_13 : decode method_10_code 13 = .ok (.iconst 1, 1) := by decide +kernel
theorem d_SeriesVaultLaw_bulk_14 : decode method_10_code 14 = .ok (.ireturn, 1) := by decide +kernel
set_option maxHeartbeats 4000000 in
set_option maxRecDepth 100000 in
theorem k8_bulk_1 (l : Launch) (D : va_G) (dA : Nat → ClassId) (sz : Nat) (h : Nat) (ad : Nat → Nat) (o : Nat) (og : Nat → Int64) (x : VS) (p0 : Int32) (F9 : VS → Prop) (fr : Nat) (lo : Nat) (mc9 : Nat) (ms9 : Nat) (hc9 : ∀ sz : Nat, mX l ⟨"SeriesVault", "bulk", "(I)I"⟩ [Cond.code ⟨"SeriesVault", "bulk", "(I)I"⟩ prog_1_method_33_code 6 (some FieldType.int)] { frames := fr, cells := mc9, slots := ms9, locals := lo } (pC D dA [.ref h, .int p0] (VW dA h ad x) sz) "java/lang/IllegalStateException" (fun st9 t9 => va_F (va_A (VW dA h ad x) sz) st9 t9 ∧ ∃ u9 : VS, F9 u9 ∧ bW D (va_A (VW dA h ad x) sz) (VW dA h ad u9) t9) mc9 ms9 (va_A (VW dA h ad x) sz)) : Met l ⟨"SeriesVaultLaw", "bulk", "(LSeriesVault;I[J)I"⟩ [Cond.codeWith ⟨"SeriesVaultLaw", "bulk", "(LSeriesVault;I[J)I"⟩ method_10_code 4 (some FieldType.int) [(0, 9, 12, 29), (0, 9, 15, 35)]] { frames := fr + 1, cells := mc9, slots := ms9, locals := lo + 25 } (pC D dA [.ref h, .int p0, .ref o] ([(o, .inl (dA 2, 1, .inr (.inl og)))] ++ (VW dA h ad x)) sz) (va_Qi (fun (r9 : Int32) (u9 : VS) => r9 = 1 ∧ F9 u9) (fun (u9 : VS) t9 => bW D (va_A ([(o, .inl (dA 2, 1, .inr (.inl og)))] ++ (VW dA h ad x)) sz) ([(o, .inl (dA 2, 1, .inr (.inl og)))] ++ (VW dA h ad u9)) t9) (va_A ([(o, .inl (dA 2, 1, .inr (.inl og)))] ++ (VW dA h ad x)) sz)) mc9 ms9 (va_A ([(o, .inl (dA 2, 1, .inr (.inl og)))] ++ (VW dA h ad x)) sz) := by
  refine mkW (y := ⟨"SeriesVaultLaw", "bulk", "(LSeriesVault;I[J)I"⟩) (cc := method_10_code) (maxL := 4) (av := [.ref h, .int p0, .ref o]) (ws := [(o, .inl (dA 2, 1, .inr (.inl og)))] ++ (VW dA h ad x)) (sz := sz) (Qc := fun A => va_Qi (fun (r9 : Int32) (u9 : VS) => r9 = 1 ∧ F9 u9) (fun (u9 : VS) t9 => bW D A ([(o, .inl (dA 2, 1, .inr (.inl og)))] ++ (VW dA h ad u9)) t9) A) (by decide) (Nat.le_of_ble_eq_true rfl) ?_
  intro A p e s m below meth c ls hsz htab hB
  obtain ⟨hx, hb, hr, hml, hown, hin, hlk, hE, hK, hP, hD, hS, hA, hN, hl⟩ := hB
  have hown : s.vm.findClass "SeriesVaultLaw" = some m.cls := hown
  have hl : lv_has ls 4 [(0, .ref h), (1, .int p0), (2, .ref o)] := hl
  obtain ⟨H, hH⟩ : ∃ z, z = s.heap := ⟨_, rfl⟩
  have hP : va_P D vwCl ([(o, .inl (dA 2, 1, .inr (.inl og)))] ++ (VW dA h ad x)) H := by rw [hH]; exact hP
  have hS : va_S A s.heap H [] := by rw [hH]; exact hS
  rw [← hH]
  refine lv_aload_n hx hb d_SeriesVaultLaw_bulk_0 rfl (lv_at hl 2 rfl) ?_
  refine lv_iconst (v := 0) hx hb d_SeriesVaultLaw_bulk_1 (by decide) ?_
  refine lv_aload_n hx hb d_SeriesVaultLaw_bulk_2 rfl (lv_at hl 0 rfl) ?_
  refine lv_iload_n hx hb d_SeriesVaultLaw_bulk_3 rfl (lv_at hl 1 rfl) ?_
  refine xkV (S := VS) (F := F9) (w1 := fun u => VW dA h ad u) (wr := [(o, .inl (dA 2, 1, .inr (.inl og)))]) (As := [.int p0]) (rest := [.int 0, .ref o]) hx hb hml hown hE hK (hN _ _ hS) (hc9 H.size) (q0 := 0) rfl rfl w381 w380 w382 w383 w277 rfl rfl ⟨⟨by decide, by decide⟩, rfl⟩ ⟨(by first | exact Nat.le_of_ble_eq_true rfl | (dsimp only; omega)), (by first | exact Nat.le_of_ble_eq_true rfl | (dsimp only; omega))⟩ rfl hl.1 rfl (by first | exact Nat.le_of_ble_eq_true rfl | (dsimp only; omega)) d_SeriesVaultLaw_bulk_4 ⟨(show 0 + mc9 ≤ mc9 by omega), (show 0 + ms9 ≤ ms9 by omega)⟩ hP hD hS hA (fun u2 xa1 ce H locs hf9 hP hD hS hce hcv hcl => ?_)
  have hP : va_P D vwCl ([(o, .inl (dA 2, 1, .inr (.inl og)))] ++ (VW dA h ad u2)) H := hP
  have hD : va_D A ([(o, .inl (dA 2, 1, .inr (.inl og)))] ++ (VW dA h ad u2)) := hD
  refine xCatch (E := "java/lang/IllegalStateException") hown hE [] ⟨0, 9, 12, 29⟩ [⟨0, 9, 15, 35⟩] htab (fun _ h => absurd h List.not_mem_nil) (by decide) (by decide) w363 w289 hce hcv hcl ?_
  refine lv_astore_n hx hb d_SeriesVaultLaw_bulk_12 rfl hl (by decide) rfl (fun ls hl => ?_)
  have hl : lv_has ls 4 [(3, .ref xa1), (0, .ref h), (1, .int p0), (2, .ref o)] := hl
  refine lv_iconst (v := 1) hx hb d_SeriesVaultLaw_bulk_13 (by decide) ?_
  exact rfI hx hb hr hlk hS u2 ⟨rfl, hf9⟩ hP hD (show 0 + mc9 ≤ mc9 by omega) (show 0 + ms9 ≤ ms9 by omega) d_SeriesVaultLaw_bulk_14
set_option maxHeartbeats 4000000 in
set_option maxRecDepth 100000 in
theorem k8_bulk_2 (l : Launch) (D : va_G) (dA : Nat → ClassId) (sz : Nat) (h : Nat) (ad : Nat → Nat) (o : Nat) (og : Nat → Int64) (x : VS) (p0 : Int32) (F9 : VS → Prop) (fr : Nat) (lo : Nat) (mc9 : Nat) (ms9 : Nat) (hc9 : ∀ sz : Nat, mX l ⟨"SeriesVault", "bulk", "(I)I"⟩ [Cond.code ⟨"SeriesVault", "bulk", "(I)I"⟩ prog_1_method_33_code 6 (some FieldType.int)] { frames := fr, cells := mc9, slots := ms9, locals := lo } (pC D dA [.ref h, .int p0] (VW dA h ad x) sz) "java/lang/IndexOutOfBoundsException" (fun st9 t9 => va_F (va_A (VW dA h ad x) sz) st9 t9 ∧ ∃ u9 : VS, F9 u9 ∧ bW D (va_A (VW dA h ad x) sz) (VW dA h ad u9) t9) mc9 ms9 (va_A (VW dA h ad x) sz)) : Met l ⟨"SeriesVaultLaw", "bulk", "(LSeriesVault;I[J)I"⟩ [Cond.codeWith ⟨"SeriesVaultLaw", "bulk", "(LSeriesVault;I[J)I"⟩ method_10_code 4 (some FieldType.int) [(0, 9, 12, 29), (0, 9, 15, 35)]] { frames := fr + 1, cells := mc9, slots := ms9, locals := lo + 25 } (pC D dA [.ref h, .int p0, .ref o] ([(o, .inl (dA 2, 1, .inr (.inl og)))] ++ (VW dA h ad x)) sz) (va_Qi (fun (r9 : Int32) (u9 : VS) => r9 = 2 ∧ F9 u9) (fun (u9 : VS) t9 => bW D (va_A ([(o, .inl (dA 2, 1, .inr (.inl og)))] ++ (VW dA h ad x)) sz) ([(o, .inl (dA 2, 1, .inr (.inl og)))] ++ (VW dA h ad u9)) t9) (va_A ([(o, .inl (dA 2, 1, .inr (.inl og)))] ++ (VW dA h ad x)) sz)) mc9 ms9 (va_A ([(o, .inl (dA 2, 1, .inr (.inl og)))] ++ (VW dA h ad x)) sz) := by
  refine mkW (y := ⟨"SeriesVaultLaw", "bulk", "(LSeriesVault;I[J)I"⟩) (cc := method_10_code) (maxL := 4) (av := [.ref h, .int p0, .ref o]) (ws := [(o, .inl (dA 2, 1, .inr (.inl og)))] ++ (VW dA h ad x)) (sz := sz) (Qc := fun A => va_Qi (fun (r9 : Int32) (u9 : VS) => r9 = 2 ∧ F9 u9) (fun (u9 : VS) t9 => bW D A ([(o, .inl (dA 2, 1, .inr (.inl og)))] ++ (VW dA h ad u9)) t9) A) (by decide) (Nat.le_of_ble_eq_true rfl) ?_
  intro A p e s m below meth c ls hsz htab hB
  obtain ⟨hx, hb, hr, hml, hown, hin, hlk, hE, hK, hP, hD, hS, hA, hN, hl⟩ := hB
  have hown : s.vm.findClass "SeriesVaultLaw" = some m.cls := hown
  have hl : lv_has ls 4 [(0, .ref h), (1, .int p0), (2, .ref o)] := hl
  obtain ⟨H, hH⟩ : ∃ z, z = s.heap := ⟨_, rfl⟩
  have hP : va_P D vwCl ([(o, .inl (dA 2, 1, .inr (.inl og)))] ++ (VW dA h ad x)) H := by rw [hH]; exact hP
  have hS : va_S A s.heap H [] := by rw [hH]; exact hS
  rw [← hH]
  refine lv_aload_n hx hb d_SeriesVaultLaw_bulk_0 rfl (lv_at hl 2 rfl) ?_
  refine lv_iconst (v := 0) hx hb d_SeriesVaultLaw_bulk_1 (by decide) ?_
  refine lv_aload_n hx hb d_SeriesVaultLaw_bulk_2 rfl (lv_at hl 0 rfl) ?_
  refine lv_iload_n hx hb d_SeriesVaultLaw_bulk_3 rfl (lv_at hl 1 rfl) ?_
  refine xkV (S := VS) (F := F9) (w1 := fun u => VW dA h ad u) (wr := [(o, .inl (dA 2, 1, .inr (.inl og)))]) (As := [.int p0]) (rest := [.int 0, .ref o]) hx hb hml hown hE hK (hN _ _ hS) (hc9 H.size) (q0 := 0) rfl rfl w381 w380 w382 w383 w277 rfl rfl ⟨⟨by decide, by decide⟩, rfl⟩ ⟨(by first | exact Nat.le_of_ble_eq_true rfl | (dsimp only; omega)), (by first | exact Nat.le_of_ble_eq_true rfl | (dsimp only; omega))⟩ rfl hl.1 rfl (by first | exact Nat.le_of_ble_eq_true rfl | (dsimp only; omega)) d_SeriesVaultLaw_bulk_4 ⟨(show 0 + mc9 ≤ mc9 by omega), (show 0 + ms9 ≤ ms9 by omega)⟩ hP hD hS hA (fun u2 xa1 ce H locs hf9 hP hD hS hce hcv hcl => ?_)
  have hP : va_P D vwCl ([(o, .inl (dA 2, 1, .inr (.inl og)))] ++ (VW dA h ad u2)) H := hP
  have hD : va_D A ([(o, .inl (dA 2, 1, .inr (.inl og)))] ++ (VW dA h ad u2)) := hD
  refine xCatch (E := "java/lang/IndexOutOfBoundsException") hown hE [⟨0, 9, 12, 29⟩] ⟨0, 9, 15, 35⟩ [] htab (List.forall_mem_cons.mpr ⟨⟨by decide, "java/lang/IllegalStateException", w363, by decide⟩, fun _ h => absurd h List.not_mem_nil⟩) (by decide) (by decide) w354 w222 hce hcv hcl ?_
  refine lv_astore_n hx hb d_SeriesVaultLaw_bulk_15 rfl hl (by decide) rfl (fun ls hl => ?_)
  have hl : lv_has ls 4 [(3, .ref xa1), (0, .ref h), (1, .int p0), (2, .ref o)] := hl
  refine lv_iconst (v := 2) hx hb d_SeriesVaultLaw_bulk_16 (by decide) ?_
  exact rfI hx hb hr hlk hS u2 ⟨rfl, hf9⟩ hP hD (show 0 + mc9 ≤ mc9 by omega) (show 0 + ms9 ≤ ms9 by omega) d_SeriesVaultLaw_bulk_17
theorem d_SeriesVaultLaw_sync_9 : decode method_12_code 9 = .ok (.lconst 1, 1) := by decide +kernel
theorem d_SeriesVaultLaw_sync_10 : decode method_12_code 10 = .ok (.goto 4, 3) := by decide +kernel
set_option maxHeartbeats 4000000 in
set_option maxRecDepth 100000 in
theorem k8_sync_b1 (l : Launch) (D : va_G) (dA : Nat → ClassId) (sz : Nat) (h : Nat) (ad : Nat → Nat) (o : Nat) (og : Nat → Int64) (x : VS) (F9 : VS → Prop) (fr : Nat) (lo : Nat) (mc9 : Nat) (ms9 : Nat) (hc9 : ∀ sz : Nat, Met l ⟨"SeriesVault", "sync", "()Z"⟩ [Cond.code ⟨"SeriesVault", "sync", "()Z"⟩ prog_1_method_22_code 1 (some FieldType.boolean)] { frames := fr, cells := mc9, slots := ms9, locals := lo } (pC D dA [.ref h] (VW dA h ad x) sz) (va_Qi (fun (r9 : Int32) (u9 : VS) => r9 = 1 ∧ F9 u9) (fun (u9 : VS) t9 => bW D (va_A (VW dA h ad x) sz) (VW dA h ad u9) t9) (va_A (VW dA h ad x) sz)) mc9 ms9 (va_A (VW dA h ad x) sz)) : Met l ⟨"SeriesVaultLaw", "sync", "(LSeriesVault;[J)I"⟩ [Cond.codeWith ⟨"SeriesVaultLaw", "sync", "(LSeriesVault;[J)I"⟩ method_12_code 3 (some FieldType.int) [(0, 15, 18, 29)]] { frames := fr + 1, cells := mc9, slots := ms9, locals := lo + 20 } (pC D dA [.ref h, .ref o] ([(o, .inl (dA 2, 1, .inr (.inl og)))] ++ (VW dA h ad x)) sz) (va_Qi (fun (r9 : Int32) (u9 : VS) => r9 = 0 ∧ F9 u9) (fun (u9 : VS) t9 => bW D (va_A ([(o, .inl (dA 2, 1, .inr (.inl og)))] ++ (VW dA h ad x)) sz) ([(o, .inl (dA 2, 1, .inr (.inl (va_up og 0 1))))] ++ (VW dA h ad u9)) t9) (va_A ([(o, .inl (dA 2, 1, .inr (.inl og)))] ++ (VW dA h ad x)) sz)) mc9 ms9 (va_A ([(o, .inl (dA 2, 1, .inr (.inl og)))] ++ (VW dA h ad x)) sz) := by
  refine mkW (y := ⟨"SeriesVaultLaw", "sync", "(LSeriesVault;[J)I"⟩) (cc := method_12_code) (maxL := 3) (av := [.ref h, .ref o]) (ws := [(o, .inl (dA 2, 1, .inr (.inl og)))] ++ (VW dA h ad x)) (sz := sz) (Qc := fun A => va_Qi (fun (r9 : Int32) (u9 : VS) => r9 = 0 ∧ F9 u9) (fun (u9 : VS) t9 => bW D A ([(o, .inl (dA 2, 1, .inr (.inl (va_up og 0 1))))] ++ (VW dA h ad u9)) t9) A) (by decide) (Nat.le_of_ble_eq_true rfl) ?_
  intro A p e s m below meth c ls hsz htab hB
  obtain ⟨hx, hb, hr, hml, hown, hin, hlk, hE, hK, hP, hD, hS, hA, hN, hl⟩ := hB
  have hown : s.vm.findClass "SeriesVaultLaw" = some m.cls := hown
  have hl : lv_has ls 3 [(0, .ref h), (1, .ref o)] := hl
  obtain ⟨H, hH⟩ : ∃ z, z = s.heap := ⟨_, rfl⟩
  have hP : va_P D vwCl ([(o, .inl (dA 2, 1, .inr (.inl og)))] ++ (VW dA h ad x)) H := by rw [hH]; exact hP
  have hS : va_S A s.heap H [] := by rw [hH]; exact hS
  rw [← hH]
  refine lv_aload_n hx hb d_SeriesVaultLaw_sync_0 rfl (lv_at hl 1 rfl) ?_
  refine lv_iconst (v := 0) hx hb d_SeriesVaultLaw_sync_1 (by decide) ?_
  refine lv_aload_n hx hb d_SeriesVaultLaw_sync_2 rfl (lv_at hl 0 rfl) ?_
  have hPc : va_P D vwCl (VW dA h ad x) H := spP (wr := [(o, .inl (dA 2, 1, .inr (.inl og)))]) hP
  have hDc : va_D A (VW dA h ad x) := spD (wr := [(o, .inl (dA 2, 1, .inr (.inl og)))]) hD
  refine jkI (wr := [(o, .inl (dA 2, 1, .inr (.inl og)))]) (rnV (As := []) (rest := [.int 0, .ref o]) hx hb hml hown hE hK (hN _ _ hS) hPc hDc ((fun (_ : Launch) (_ : va_G) (_ : Nat → ClassId) (sz9 : Nat) (_ : Nat) (_ : Nat → Nat) (_ : VS) => hc9 sz9) l D dA H.size h ad x) (q0 := 0) rfl rfl w409 w408 w410 w411 w277 rfl rfl ⟨⟨by decide, by decide⟩, rfl⟩ ⟨(by first | exact Nat.le_of_ble_eq_true rfl | (dsimp only; omega)), (by first | exact Nat.le_of_ble_eq_true rfl | (dsimp only; omega))⟩ rfl hl.1 rfl (by first | exact Nat.le_of_ble_eq_true rfl | (dsimp only; omega)) d_SeriesVaultLaw_sync_3 ⟨(show 0 + mc9 ≤ mc9 by omega), (show 0 + ms9 ≤ ms9 by omega)⟩) hP hD hS hA (fun r1 u2 H locs hp9 hP hD hS => ?_)
  obtain ⟨u8, h9u⟩ : ∃ z9, z9 = u2 := ⟨_, rfl⟩
  subst h9u
  have hP : va_P D vwCl ([(o, .inl (dA 2, 1, .inr (.inl og)))] ++ (VW dA h ad u8)) H := hP
  have hD : va_D A ([(o, .inl (dA 2, 1, .inr (.inl og)))] ++ (VW dA h ad u8)) := hD
  obtain ⟨hp9, f_f_3⟩ := hp9
  replace hp9 : 1 = r1 := Eq.symm hp9
  subst hp9
  refine lv_if_eq hx hb d_SeriesVaultLaw_sync_6 (tgt := 13) rfl (fun h9 => absurd h9 (by decide)) (fun _ => ?_)
  refine lv_lconst (v := 1) hx hb d_SeriesVaultLaw_sync_9 (by decide) ?_
  refine lv_goto hx hb d_SeriesVaultLaw_sync_10 (tgt := 14) rfl ?_
  refine nlst (n := 1) hx hb hK hP hD hS (0) 2 rfl rfl (0) (by omega) (by decide) d_SeriesVaultLaw_sync_14 (fun H locs hP hD hS => ?_)
  have hP : va_P D vwCl ([(o, .inl (dA 2, 1, .inr (.inl (va_up og 0 1))))] ++ (VW dA h ad u8)) H := hP
  have hD : va_D A ([(o, .inl (dA 2, 1, .inr (.inl (va_up og 0 1))))] ++ (VW dA h ad u8)) := hD
  refine lv_goto hx hb d_SeriesVaultLaw_sync_15 (tgt := 21) rfl ?_
  refine lv_iconst (v := 0) hx hb d_SeriesVaultLaw_sync_21 (by decide) ?_
  exact rfI hx hb hr hlk hS u8 ⟨rfl, f_f_3⟩ hP hD (show 0 + mc9 ≤ mc9 by omega) (show 0 + ms9 ≤ ms9 by omega) d_SeriesVaultLaw_sync_22
set_option maxHeartbeats 4000000 in
set_option maxRecDepth 100000 in
theorem k8_sync_b0 (l : Launch) (D : va_G) (dA : Nat → ClassId) (sz : Nat) (h : Nat) (ad : Nat → Nat) (o : Nat) (og : Nat → Int64) (x : VS) (F9 : VS → Prop) (fr : Nat) (lo : Nat) (mc9 : Nat) (ms9 : Nat) (hc9 : ∀ sz : Nat, Met l ⟨"SeriesVault", "sync", "()Z"⟩ [Cond.code ⟨"SeriesVault", "sync", "()Z"⟩ prog_1_method_22_code 1 (some FieldType.boolean)] { frames := fr, cells := mc9, slots := ms9, locals := lo } (pC D dA [.ref h] (VW dA h ad x) sz) (va_Qi (fun (r9 : Int32) (u9 : VS) => r9 = 0 ∧ F9 u9) (fun (u9 : VS) t9 => bW D (va_A (VW dA h ad x) sz) (VW dA h ad u9) t9) (va_A (VW dA h ad x) sz)) mc9 ms9 (va_A (VW dA h ad x) sz)) : Met l ⟨"SeriesVaultLaw", "sync", "(LSeriesVault;[J)I"⟩ [Cond.codeWith ⟨"SeriesVaultLaw", "sync", "(LSeriesVault;[J)I"⟩ method_12_code 3 (some FieldType.int) [(0, 15, 18, 29)]] { frames := fr + 1, cells := mc9, slots := ms9, locals := lo + 20 } (pC D dA [.ref h, .ref o] ([(o, .inl (dA 2, 1, .inr (.inl og)))] ++ (VW dA h ad x)) sz) (va_Qi (fun (r9 : Int32) (u9 : VS) => r9 = 0 ∧ F9 u9) (fun (u9 : VS) t9 => bW D (va_A ([(o, .inl (dA 2, 1, .inr (.inl og)))] ++ (VW dA h ad x)) sz) ([(o, .inl (dA 2, 1, .inr (.inl (va_up og 0 0))))] ++ (VW dA h ad u9)) t9) (va_A ([(o, .inl (dA 2, 1, .inr (.inl og)))] ++ (VW dA h ad x)) sz)) mc9 ms9 (va_A ([(o, .inl (dA 2, 1, .inr (.inl og)))] ++ (VW dA h ad x)) sz) := by
  refine mkW (y := ⟨"SeriesVaultLaw", "sync", "(LSeriesVault;[J)I"⟩) (cc := method_12_code) (maxL := 3) (av := [.ref h, .ref o]) (ws := [(o, .inl (dA 2, 1, .inr (.inl og)))] ++ (VW dA h ad x)) (sz := sz) (Qc := fun A => va_Qi (fun (r9 : Int32) (u9 : VS) => r9 = 0 ∧ F9 u9) (fun (u9 : VS) t9 => bW D A ([(o, .inl (dA 2, 1, .inr (.inl (va_up og 0 0))))] ++ (VW dA h ad u9)) t9) A) (by decide) (Nat.le_of_ble_eq_true rfl) ?_
  intro A p e s m below meth c ls hsz htab hB
  obtain ⟨hx, hb, hr, hml, hown, hin, hlk, hE, hK, hP, hD, hS, hA, hN, hl⟩ := hB
  have hown : s.vm.findClass "SeriesVaultLaw" = some m.cls := hown
  have hl : lv_has ls 3 [(0, .ref h), (1, .ref o)] := hl
  obtain ⟨H, hH⟩ : ∃ z, z = s.heap := ⟨_, rfl⟩
  have hP : va_P D vwCl ([(o, .inl (dA 2, 1, .inr (.inl og)))] ++ (VW dA h ad x)) H := by rw [hH]; exact hP
  have hS : va_S A s.heap H [] := by rw [hH]; exact hS
  rw [← hH]
  refine lv_aload_n hx hb d_SeriesVaultLaw_sync_0 rfl (lv_at hl 1 rfl) ?_
  refine lv_iconst (v := 0) hx hb d_SeriesVaultLaw_sync_1 (by decide) ?_
  refine lv_aload_n hx hb d_SeriesVaultLaw_sync_2 rfl (lv_at hl 0 rfl) ?_
  have hPc : va_P D vwCl (VW dA h ad x) H := spP (wr := [(o, .inl (dA 2, 1, .inr (.inl og)))]) hP
  have hDc : va_D A (VW dA h ad x) := spD (wr := [(o, .inl (dA 2, 1, .inr (.inl og)))]) hD
  refine jkI (wr := [(o, .inl (dA 2, 1, .inr (.inl og)))]) (rnV (As := []) (rest := [.int 0, .ref o]) hx hb hml hown hE hK (hN _ _ hS) hPc hDc ((fun (_ : Launch) (_ : va_G) (_ : Nat → ClassId) (sz9 : Nat) (_ : Nat) (_ : Nat → Nat) (_ : VS) => hc9 sz9) l D dA H.size h ad x) (q0 := 0) rfl rfl w409 w408 w410 w411 w277 rfl rfl ⟨⟨by decide, by decide⟩, rfl⟩ ⟨(by first | exact Nat.le_of_ble_eq_true rfl | (dsimp only; omega)), (by first | exact Nat.le_of_ble_eq_true rfl | (dsimp only; omega))⟩ rfl hl.1 rfl (by first | exact Nat.le_of_ble_eq_true rfl | (dsimp only; omega)) d_SeriesVaultLaw_sync_3 ⟨(show 0 + mc9 ≤ mc9 by omega), (show 0 + ms9 ≤ ms9 by omega)⟩) hP hD hS hA (fun r1 u2 H locs hp9 hP hD hS => ?_)
  obtain ⟨u8, h9u⟩ : ∃ z9, z9 = u2 := ⟨_, rfl⟩
  subst h9u
  have hP : va_P D vwCl ([(o, .inl (dA 2, 1, .inr (.inl og)))] ++ (VW dA h ad u8)) H := hP
  have hD : va_D A ([(o, .inl (dA 2, 1, .inr (.inl og)))] ++ (VW dA h ad u8)) := hD
  obtain ⟨hp9, f_f_3⟩ := hp9
  replace hp9 : 0 = r1 := Eq.symm hp9
  subst hp9
  refine lv_if_eq hx hb d_SeriesVaultLaw_sync_6 (tgt := 13) rfl (fun _ => ?_) (fun h9 => absurd (by decide) h9)
  refine lv_lconst (v := 0) hx hb d_SeriesVaultLaw_sync_13 (by decide) ?_
  refine nlst (n := 1) hx hb hK hP hD hS (0) 2 rfl rfl (0) (by omega) (by decide) d_SeriesVaultLaw_sync_14 (fun H locs hP hD hS => ?_)
  have hP : va_P D vwCl ([(o, .inl (dA 2, 1, .inr (.inl (va_up og 0 0))))] ++ (VW dA h ad u8)) H := hP
  have hD : va_D A ([(o, .inl (dA 2, 1, .inr (.inl (va_up og 0 0))))] ++ (VW dA h ad u8)) := hD
  refine lv_goto hx hb d_SeriesVaultLaw_sync_15 (tgt := 21) rfl ?_
  refine lv_iconst (v := 0) hx hb d_SeriesVaultLaw_sync_21 (by decide) ?_
  exact rfI hx hb hr hlk hS u8 ⟨rfl, f_f_3⟩ hP hD (show 0 + mc9 ≤ mc9 by omega) (show 0 + ms9 ≤ ms9 by omega) d_SeriesVaultLaw_sync_22
theorem d_SeriesVaultLaw_sync_18 : decode method_12_code 18 = .ok (.astore_n 2, 1) := by decide +kernel
theorem d_SeriesVaultLaw_sync_19 : decode method_12_code 19 = .ok (.iconst 1, 1) := by decide +kernel
theorem d_SeriesVaultLaw_sync_20 : decode method_12_code 20 = .ok (.ireturn, 1) := by decide +kernel
set_option maxHeartbeats 4000000 in
set_option maxRecDepth 100000 in
theorem k8_sync_1 (l : Launch) (D : va_G) (dA : Nat → ClassId) (sz : Nat) (h : Nat) (ad : Nat → Nat) (o : Nat) (og : Nat → Int64) (x : VS) (F9 : VS → Prop) (fr : Nat) (lo : Nat) (mc9 : Nat) (ms9 : Nat) (hc9 : ∀ sz : Nat, mX l ⟨"SeriesVault", "sync", "()Z"⟩ [Cond.code ⟨"SeriesVault", "sync", "()Z"⟩ prog_1_method_22_code 1 (some FieldType.boolean)] { frames := fr, cells := mc9, slots := ms9, locals := lo } (pC D dA [.ref h] (VW dA h ad x) sz) "java/lang/IllegalStateException" (fun st9 t9 => va_F (va_A (VW dA h ad x) sz) st9 t9 ∧ ∃ u9 : VS, F9 u9 ∧ bW D (va_A (VW dA h ad x) sz) (VW dA h ad u9) t9) mc9 ms9 (va_A (VW dA h ad x) sz)) : Met l ⟨"SeriesVaultLaw", "sync", "(LSeriesVault;[J)I"⟩ [Cond.codeWith ⟨"SeriesVaultLaw", "sync", "(LSeriesVault;[J)I"⟩ method_12_code 3 (some FieldType.int) [(0, 15, 18, 29)]] { frames := fr + 1, cells := mc9, slots := ms9, locals := lo + 20 } (pC D dA [.ref h, .ref o] ([(o, .inl (dA 2, 1, .inr (.inl og)))] ++ (VW dA h ad x)) sz) (va_Qi (fun (r9 : Int32) (u9 : VS) => r9 = 1 ∧ F9 u9) (fun (u9 : VS) t9 => bW D (va_A ([(o, .inl (dA 2, 1, .inr (.inl og)))] ++ (VW dA h ad x)) sz) ([(o, .inl (dA 2, 1, .inr (.inl og)))] ++ (VW dA h ad u9)) t9) (va_A ([(o, .inl (dA 2, 1, .inr (.inl og)))] ++ (VW dA h ad x)) sz)) mc9 ms9 (va_A ([(o, .inl (dA 2, 1, .inr (.inl og)))] ++ (VW dA h ad x)) sz) := by
  refine mkW (y := ⟨"SeriesVaultLaw", "sync", "(LSeriesVault;[J)I"⟩) (cc := method_12_code) (maxL := 3) (av := [.ref h, .ref o]) (ws := [(o, .inl (dA 2, 1, .inr (.inl og)))] ++ (VW dA h ad x)) (sz := sz) (Qc := fun A => va_Qi (fun (r9 : Int32) (u9 : VS) => r9 = 1 ∧ F9 u9) (fun (u9 : VS) t9 => bW D A ([(o, .inl (dA 2, 1, .inr (.inl og)))] ++ (VW dA h ad u9)) t9) A) (by decide) (Nat.le_of_ble_eq_true rfl) ?_
  intro A p e s m below meth c ls hsz htab hB
  obtain ⟨hx, hb, hr, hml, hown, hin, hlk, hE, hK, hP, hD, hS, hA, hN, hl⟩ := hB
  have hown : s.vm.findClass "SeriesVaultLaw" = some m.cls := hown
  have hl : lv_has ls 3 [(0, .ref h), (1, .ref o)] := hl
  obtain ⟨H, hH⟩ : ∃ z, z = s.heap := ⟨_, rfl⟩
  have hP : va_P D vwCl ([(o, .inl (dA 2, 1, .inr (.inl og)))] ++ (VW dA h ad x)) H := by rw [hH]; exact hP
  have hS : va_S A s.heap H [] := by rw [hH]; exact hS
  rw [← hH]
  refine lv_aload_n hx hb d_SeriesVaultLaw_sync_0 rfl (lv_at hl 1 rfl) ?_
  refine lv_iconst (v := 0) hx hb d_SeriesVaultLaw_sync_1 (by decide) ?_
  refine lv_aload_n hx hb d_SeriesVaultLaw_sync_2 rfl (lv_at hl 0 rfl) ?_
  refine xkV (S := VS) (F := F9) (w1 := fun u => VW dA h ad u) (wr := [(o, .inl (dA 2, 1, .inr (.inl og)))]) (As := []) (rest := [.int 0, .ref o]) hx hb hml hown hE hK (hN _ _ hS) (hc9 H.size) (q0 := 0) rfl rfl w409 w408 w410 w411 w277 rfl rfl ⟨⟨by decide, by decide⟩, rfl⟩ ⟨(by first | exact Nat.le_of_ble_eq_true rfl | (dsimp only; omega)), (by first | exact Nat.le_of_ble_eq_true rfl | (dsimp only; omega))⟩ rfl hl.1 rfl (by first | exact Nat.le_of_ble_eq_true rfl | (dsimp only; omega)) d_SeriesVaultLaw_sync_3 ⟨(show 0 + mc9 ≤ mc9 by omega), (show 0 + ms9 ≤ ms9 by omega)⟩ hP hD hS hA (fun u2 xa1 ce H locs hf9 hP hD hS hce hcv hcl => ?_)
  have hP : va_P D vwCl ([(o, .inl (dA 2, 1, .inr (.inl og)))] ++ (VW dA h ad u2)) H := hP
  have hD : va_D A ([(o, .inl (dA 2, 1, .inr (.inl og)))] ++ (VW dA h ad u2)) := hD
  refine xCatch (E := "java/lang/IllegalStateException") hown hE [] ⟨0, 15, 18, 29⟩ [] htab (fun _ h => absurd h List.not_mem_nil) (by decide) (by decide) w363 w289 hce hcv hcl ?_
  refine lv_astore_n hx hb d_SeriesVaultLaw_sync_18 rfl hl (by decide) rfl (fun ls hl => ?_)
  have hl : lv_has ls 3 [(2, .ref xa1), (0, .ref h), (1, .ref o)] := hl
  refine lv_iconst (v := 1) hx hb d_SeriesVaultLaw_sync_19 (by decide) ?_
  exact rfI hx hb hr hlk hS u2 ⟨rfl, hf9⟩ hP hD (show 0 + mc9 ≤ mc9 by omega) (show 0 + ms9 ≤ ms9 by omega) d_SeriesVaultLaw_sync_20
set_option maxHeartbeats 4000000 in
set_option maxRecDepth 100000 in
theorem k8_flush (l : Launch) (D : va_G) (dA : Nat → ClassId) (sz : Nat) (h : Nat) (ad : Nat → Nat) (o : Nat) (og : Nat → Int64) (x : VS) (v9 : Int32) (F9 : VS → Prop) (fr : Nat) (lo : Nat) (mc9 : Nat) (ms9 : Nat) (hc9 : ∀ sz : Nat, Met l ⟨"SeriesVault", "flush", "()I"⟩ [Cond.code ⟨"SeriesVault", "flush", "()I"⟩ prog_1_method_36_code 4 (some FieldType.int)] { frames := fr, cells := mc9, slots := ms9, locals := lo } (pC D dA [.ref h] (VW dA h ad x) sz) (va_Qi (fun (r9 : Int32) (u9 : VS) => r9 = v9 ∧ F9 u9) (fun (u9 : VS) t9 => bW D (va_A (VW dA h ad x) sz) (VW dA h ad u9) t9) (va_A (VW dA h ad x) sz)) mc9 ms9 (va_A (VW dA h ad x) sz)) : Met l ⟨"SeriesVaultLaw", "flush", "(LSeriesVault;[J)I"⟩ [Cond.codeWith ⟨"SeriesVaultLaw", "flush", "(LSeriesVault;[J)I"⟩ method_13_code 3 (some FieldType.int) [(0, 8, 11, 29), (0, 8, 14, 13)]] { frames := fr + 1, cells := mc9, slots := ms9, locals := lo + 23 } (pC D dA [.ref h, .ref o] ([(o, .inl (dA 2, 1, .inr (.inl og)))] ++ (VW dA h ad x)) sz) (va_Qi (fun (r9 : Int32) (u9 : VS) => r9 = 0 ∧ F9 u9) (fun (u9 : VS) t9 => bW D (va_A ([(o, .inl (dA 2, 1, .inr (.inl og)))] ++ (VW dA h ad x)) sz) ([(o, .inl (dA 2, 1, .inr (.inl (va_up og 0 (v9.toInt64)))))] ++ (VW dA h ad u9)) t9) (va_A ([(o, .inl (dA 2, 1, .inr (.inl og)))] ++ (VW dA h ad x)) sz)) mc9 ms9 (va_A ([(o, .inl (dA 2, 1, .inr (.inl og)))] ++ (VW dA h ad x)) sz) := by
  refine mkW (y := ⟨"SeriesVaultLaw", "flush", "(LSeriesVault;[J)I"⟩) (cc := method_13_code) (maxL := 3) (av := [.ref h, .ref o]) (ws := [(o, .inl (dA 2, 1, .inr (.inl og)))] ++ (VW dA h ad x)) (sz := sz) (Qc := fun A => va_Qi (fun (r9 : Int32) (u9 : VS) => r9 = 0 ∧ F9 u9) (fun (u9 : VS) t9 => bW D A ([(o, .inl (dA 2, 1, .inr (.inl (va_up og 0 (v9.toInt64)))))] ++ (VW dA h ad u9)) t9) A) (by decide) (Nat.le_of_ble_eq_true rfl) ?_
  intro A p e s m below meth c ls hsz htab hB
  obtain ⟨hx, hb, hr, hml, hown, hin, hlk, hE, hK, hP, hD, hS, hA, hN, hl⟩ := hB
  have hown : s.vm.findClass "SeriesVaultLaw" = some m.cls := hown
  have hl : lv_has ls 3 [(0, .ref h), (1, .ref o)] := hl
  obtain ⟨H, hH⟩ : ∃ z, z = s.heap := ⟨_, rfl⟩
  have hP : va_P D vwCl ([(o, .inl (dA 2, 1, .inr (.inl og)))] ++ (VW dA h ad x)) H := by rw [hH]; exact hP
  have hS : va_S A s.heap H [] := by rw [hH]; exact hS
  rw [← hH]
  refine lv_aload_n hx hb d_SeriesVaultLaw_flush_0 rfl (lv_at hl 1 rfl) ?_
  refine lv_iconst (v := 0) hx hb d_SeriesVaultLaw_flush_1 (by decide) ?_
  refine lv_aload_n hx hb d_SeriesVaultLaw_flush_2 rfl (lv_at hl 0 rfl) ?_
  have hPc : va_P D vwCl (VW dA h ad x) H := spP (wr := [(o, .inl (dA 2, 1, .inr (.inl og)))]) hP
  have hDc : va_D A (VW dA h ad x) := spD (wr := [(o, .inl (dA 2, 1, .inr (.inl og)))]) hD
  refine jkI (wr := [(o, .inl (dA 2, 1, .inr (.inl og)))]) (rnV (As := []) (rest := [.int 0, .ref o]) hx hb hml hown hE hK (hN _ _ hS) hPc hDc ((fun (_ : Launch) (_ : va_G) (_ : Nat → ClassId) (sz9 : Nat) (_ : Nat) (_ : Nat → Nat) (_ : VS) => hc9 sz9) l D dA H.size h ad x) (q0 := 0) rfl rfl w413 w412 w414 w415 w277 rfl rfl ⟨⟨by decide, by decide⟩, rfl⟩ ⟨(by first | exact Nat.le_of_ble_eq_true rfl | (dsimp only; omega)), (by first | exact Nat.le_of_ble_eq_true rfl | (dsimp only; omega))⟩ rfl hl.1 rfl (by first | exact Nat.le_of_ble_eq_true rfl | (dsimp only; omega)) d_SeriesVaultLaw_flush_3 ⟨(show 0 + mc9 ≤ mc9 by omega), (show 0 + ms9 ≤ ms9 by omega)⟩) hP hD hS hA (fun r1 u2 H locs hp9 hP hD hS => ?_)
  obtain ⟨u8, h9u⟩ : ∃ z9, z9 = u2 := ⟨_, rfl⟩
  subst h9u
  have hP : va_P D vwCl ([(o, .inl (dA 2, 1, .inr (.inl og)))] ++ (VW dA h ad u8)) H := hP
  have hD : va_D A ([(o, .inl (dA 2, 1, .inr (.inl og)))] ++ (VW dA h ad u8)) := hD
  obtain ⟨hp9, f_f_3⟩ := hp9
  replace hp9 : v9 = r1 := Eq.symm hp9
  subst hp9
  refine lv_i2l hx hb d_SeriesVaultLaw_flush_6 rfl ?_
  refine nlst (n := 1) hx hb hK hP hD hS (0) 2 rfl rfl (0) (by omega) (by decide) d_SeriesVaultLaw_flush_7 (fun H locs hP hD hS => ?_)
  have hP : va_P D vwCl ([(o, .inl (dA 2, 1, .inr (.inl (va_up og 0 v9.toInt64))))] ++ (VW dA h ad u8)) H := hP
  have hD : va_D A ([(o, .inl (dA 2, 1, .inr (.inl (va_up og 0 v9.toInt64))))] ++ (VW dA h ad u8)) := hD
  refine lv_goto hx hb d_SeriesVaultLaw_flush_8 (tgt := 17) rfl ?_
  refine lv_iconst (v := 0) hx hb d_SeriesVaultLaw_flush_17 (by decide) ?_
  exact rfI hx hb hr hlk hS u8 ⟨rfl, f_f_3⟩ hP hD (show 0 + mc9 ≤ mc9 by omega) (show 0 + ms9 ≤ ms9 by omega) d_SeriesVaultLaw_flush_18
theorem d_SeriesVaultLaw_flush_11 : decode method_13_code 11 = .ok (.astore_n 2, 1) := by decide +kernel
theorem d_SeriesVaultLaw_flush_12 : decode method_13_code 12 = .ok (.iconst 1, 1) := by decide +kernel
theorem d_SeriesVaultLaw_flush_13 : decode method_13_code 13 = .ok (.ireturn, 1) := by decide +kernel
set_option maxHeartbeats 4000000 in
set_option maxRecDepth 100000 in
theorem k8_flush_1 (l : Launch) (D : va_G) (dA : Nat → ClassId) (sz : Nat) (h : Nat) (ad : Nat → Nat) (o : Nat) (og : Nat → Int64) (x : VS) (F9 : VS → Prop) (fr : Nat) (lo : Nat) (mc9 : Nat) (ms9 : Nat) (hc9 : ∀ sz : Nat, mX l ⟨"SeriesVault", "flush", "()I"⟩ [Cond.code ⟨"SeriesVault", "flush", "()I"⟩ prog_1_method_36_code 4 (some FieldType.int)] { frames := fr, cells := mc9, slots := ms9, locals := lo } (pC D dA [.ref h] (VW dA h ad x) sz) "java/lang/IllegalStateException" (fun st9 t9 => va_F (va_A (VW dA h ad x) sz) st9 t9 ∧ ∃ u9 : VS, F9 u9 ∧ bW D (va_A (VW dA h ad x) sz) (VW dA h ad u9) t9) mc9 ms9 (va_A (VW dA h ad x) sz)) : Met l ⟨"SeriesVaultLaw", "flush", "(LSeriesVault;[J)I"⟩ [Cond.codeWith ⟨"SeriesVaultLaw", "flush", "(LSeriesVault;[J)I"⟩ method_13_code 3 (some FieldType.int) [(0, 8, 11, 29), (0, 8, 14, 13)]] { frames := fr + 1, cells := mc9, slots := ms9, locals := lo + 23 } (pC D dA [.ref h, .ref o] ([(o, .inl (dA 2, 1, .inr (.inl og)))] ++ (VW dA h ad x)) sz) (va_Qi (fun (r9 : Int32) (u9 : VS) => r9 = 1 ∧ F9 u9) (fun (u9 : VS) t9 => bW D (va_A ([(o, .inl (dA 2, 1, .inr (.inl og)))] ++ (VW dA h ad x)) sz) ([(o, .inl (dA 2, 1, .inr (.inl og)))] ++ (VW dA h ad u9)) t9) (va_A ([(o, .inl (dA 2, 1, .inr (.inl og)))] ++ (VW dA h ad x)) sz)) mc9 ms9 (va_A ([(o, .inl (dA 2, 1, .inr (.inl og)))] ++ (VW dA h ad x)) sz) := by
  refine mkW (y := ⟨"SeriesVaultLaw", "flush", "(LSeriesVault;[J)I"⟩) (cc := method_13_code) (maxL := 3) (av := [.ref h, .ref o]) (ws := [(o, .inl (dA 2, 1, .inr (.inl og)))] ++ (VW dA h ad x)) (sz := sz) (Qc := fun A => va_Qi (fun (r9 : Int32) (u9 : VS) => r9 = 1 ∧ F9 u9) (fun (u9 : VS) t9 => bW D A ([(o, .inl (dA 2, 1, .inr (.inl og)))] ++ (VW dA h ad u9)) t9) A) (by decide) (Nat.le_of_ble_eq_true rfl) ?_
  intro A p e s m below meth c ls hsz htab hB
  obtain ⟨hx, hb, hr, hml, hown, hin, hlk, hE, hK, hP, hD, hS, hA, hN, hl⟩ := hB
  have hown : s.vm.findClass "SeriesVaultLaw" = some m.cls := hown
  have hl : lv_has ls 3 [(0, .ref h), (1, .ref o)] := hl
  obtain ⟨H, hH⟩ : ∃ z, z = s.heap := ⟨_, rfl⟩
  have hP : va_P D vwCl ([(o, .inl (dA 2, 1, .inr (.inl og)))] ++ (VW dA h ad x)) H := by rw [hH]; exact hP
  have hS : va_S A s.heap H [] := by rw [hH]; exact hS
  rw [← hH]
  refine lv_aload_n hx hb d_SeriesVaultLaw_flush_0 rfl (lv_at hl 1 rfl) ?_
  refine lv_iconst (v := 0) hx hb d_SeriesVaultLaw_flush_1 (by decide) ?_
  refine lv_aload_n hx hb d_SeriesVaultLaw_flush_2 rfl (lv_at hl 0 rfl) ?_
  refine xkV (S := VS) (F := F9) (w1 := fun u => VW dA h ad u) (wr := [(o, .inl (dA 2, 1, .inr (.inl og)))]) (As := []) (rest := [.int 0, .ref o]) hx hb hml hown hE hK (hN _ _ hS) (hc9 H.size) (q0 := 0) rfl rfl w413 w412 w414 w415 w277 rfl rfl ⟨⟨by decide, by decide⟩, rfl⟩ ⟨(by first | exact Nat.le_of_ble_eq_true rfl | (dsimp only; omega)), (by first | exact Nat.le_of_ble_eq_true rfl | (dsimp only; omega))⟩ rfl hl.1 rfl (by first | exact Nat.le_of_ble_eq_true rfl | (dsimp only; omega)) d_SeriesVaultLaw_flush_3 ⟨(show 0 + mc9 ≤ mc9 by omega), (show 0 + ms9 ≤ ms9 by omega)⟩ hP hD hS hA (fun u2 xa1 ce H locs hf9 hP hD hS hce hcv hcl => ?_)
  have hP : va_P D vwCl ([(o, .inl (dA 2, 1, .inr (.inl og)))] ++ (VW dA h ad u2)) H := hP
  have hD : va_D A ([(o, .inl (dA 2, 1, .inr (.inl og)))] ++ (VW dA h ad u2)) := hD
  refine xCatch (E := "java/lang/IllegalStateException") hown hE [] ⟨0, 8, 11, 29⟩ [⟨0, 8, 14, 13⟩] htab (fun _ h => absurd h List.not_mem_nil) (by decide) (by decide) w363 w289 hce hcv hcl ?_
  refine lv_astore_n hx hb d_SeriesVaultLaw_flush_11 rfl hl (by decide) rfl (fun ls hl => ?_)
  have hl : lv_has ls 3 [(2, .ref xa1), (0, .ref h), (1, .ref o)] := hl
  refine lv_iconst (v := 1) hx hb d_SeriesVaultLaw_flush_12 (by decide) ?_
  exact rfI hx hb hr hlk hS u2 ⟨rfl, hf9⟩ hP hD (show 0 + mc9 ≤ mc9 by omega) (show 0 + ms9 ≤ ms9 by omega) d_SeriesVaultLaw_flush_13
theorem d_SeriesVaultLaw_flush_14 : decode method_13_code 14 = .ok (.astore_n 2, 1) := by decide +kernel
theorem d_SeriesVaultLaw_flush_15 : decode method_13_code 15 = .ok (.iconst 2, 1) := by decide +kernel
theorem d_SeriesVaultLaw_flush_16 : decode method_13_code 16 = .ok (.ireturn, 1) := by decide +kernel
set_option maxHeartbeats 4000000 in
set_option maxRecDepth 100000 in
theorem k8_flush_2 (l : Launch) (D : va_G) (dA : Nat → ClassId) (sz : Nat) (h : Nat) (ad : Nat → Nat) (o : Nat) (og : Nat → Int64) (x : VS) (F9 : VS → Prop) (fr : Nat) (lo : Nat) (mc9 : Nat) (ms9 : Nat) (hc9 : ∀ sz : Nat, mX l ⟨"SeriesVault", "flush", "()I"⟩ [Cond.code ⟨"SeriesVault", "flush", "()I"⟩ prog_1_method_36_code 4 (some FieldType.int)] { frames := fr, cells := mc9, slots := ms9, locals := lo } (pC D dA [.ref h] (VW dA h ad x) sz) "java/lang/UnsupportedOperationException" (fun st9 t9 => va_F (va_A (VW dA h ad x) sz) st9 t9 ∧ ∃ u9 : VS, F9 u9 ∧ bW D (va_A (VW dA h ad x) sz) (VW dA h ad u9) t9) mc9 ms9 (va_A (VW dA h ad x) sz)) : Met l ⟨"SeriesVaultLaw", "flush", "(LSeriesVault;[J)I"⟩ [Cond.codeWith ⟨"SeriesVaultLaw", "flush", "(LSeriesVault;[J)I"⟩ method_13_code 3 (some FieldType.int) [(0, 8, 11, 29), (0, 8, 14, 13)]] { frames := fr + 1, cells := mc9, slots := ms9, locals := lo + 23 } (pC D dA [.ref h, .ref o] ([(o, .inl (dA 2, 1, .inr (.inl og)))] ++ (VW dA h ad x)) sz) (va_Qi (fun (r9 : Int32) (u9 : VS) => r9 = 2 ∧ F9 u9) (fun (u9 : VS) t9 => bW D (va_A ([(o, .inl (dA 2, 1, .inr (.inl og)))] ++ (VW dA h ad x)) sz) ([(o, .inl (dA 2, 1, .inr (.inl og)))] ++ (VW dA h ad u9)) t9) (va_A ([(o, .inl (dA 2, 1, .inr (.inl og)))] ++ (VW dA h ad x)) sz)) mc9 ms9 (va_A ([(o, .inl (dA 2, 1, .inr (.inl og)))] ++ (VW dA h ad x)) sz) := by
  refine mkW (y := ⟨"SeriesVaultLaw", "flush", "(LSeriesVault;[J)I"⟩) (cc := method_13_code) (maxL := 3) (av := [.ref h, .ref o]) (ws := [(o, .inl (dA 2, 1, .inr (.inl og)))] ++ (VW dA h ad x)) (sz := sz) (Qc := fun A => va_Qi (fun (r9 : Int32) (u9 : VS) => r9 = 2 ∧ F9 u9) (fun (u9 : VS) t9 => bW D A ([(o, .inl (dA 2, 1, .inr (.inl og)))] ++ (VW dA h ad u9)) t9) A) (by decide) (Nat.le_of_ble_eq_true rfl) ?_
  intro A p e s m below meth c ls hsz htab hB
  obtain ⟨hx, hb, hr, hml, hown, hin, hlk, hE, hK, hP, hD, hS, hA, hN, hl⟩ := hB
  have hown : s.vm.findClass "SeriesVaultLaw" = some m.cls := hown
  have hl : lv_has ls 3 [(0, .ref h), (1, .ref o)] := hl
  obtain ⟨H, hH⟩ : ∃ z, z = s.heap := ⟨_, rfl⟩
  have hP : va_P D vwCl ([(o, .inl (dA 2, 1, .inr (.inl og)))] ++ (VW dA h ad x)) H := by rw [hH]; exact hP
  have hS : va_S A s.heap H [] := by rw [hH]; exact hS
  rw [← hH]
  refine lv_aload_n hx hb d_SeriesVaultLaw_flush_0 rfl (lv_at hl 1 rfl) ?_
  refine lv_iconst (v := 0) hx hb d_SeriesVaultLaw_flush_1 (by decide) ?_
  refine lv_aload_n hx hb d_SeriesVaultLaw_flush_2 rfl (lv_at hl 0 rfl) ?_
  refine xkV (S := VS) (F := F9) (w1 := fun u => VW dA h ad u) (wr := [(o, .inl (dA 2, 1, .inr (.inl og)))]) (As := []) (rest := [.int 0, .ref o]) hx hb hml hown hE hK (hN _ _ hS) (hc9 H.size) (q0 := 0) rfl rfl w413 w412 w414 w415 w277 rfl rfl ⟨⟨by decide, by decide⟩, rfl⟩ ⟨(by first | exact Nat.le_of_ble_eq_true rfl | (dsimp only; omega)), (by first | exact Nat.le_of_ble_eq_true rfl | (dsimp only; omega))⟩ rfl hl.1 rfl (by first | exact Nat.le_of_ble_eq_true rfl | (dsimp only; omega)) d_SeriesVaultLaw_flush_3 ⟨(show 0 + mc9 ≤ mc9 by omega), (show 0 + ms9 ≤ ms9 by omega)⟩ hP hD hS hA (fun u2 xa1 ce H locs hf9 hP hD hS hce hcv hcl => ?_)
  have hP : va_P D vwCl ([(o, .inl (dA 2, 1, .inr (.inl og)))] ++ (VW dA h ad u2)) H := hP
  have hD : va_D A ([(o, .inl (dA 2, 1, .inr (.inl og)))] ++ (VW dA h ad u2)) := hD
  refine xCatch (E := "java/lang/UnsupportedOperationException") hown hE [⟨0, 8, 11, 29⟩] ⟨0, 8, 14, 13⟩ [] htab (List.forall_mem_cons.mpr ⟨⟨by decide, "java/lang/IllegalStateException", w363, by decide⟩, fun _ h => absurd h List.not_mem_nil⟩) (by decide) (by decide) w1791 w1150 hce hcv hcl ?_
  refine lv_astore_n hx hb d_SeriesVaultLaw_flush_14 rfl hl (by decide) rfl (fun ls hl => ?_)
  have hl : lv_has ls 3 [(2, .ref xa1), (0, .ref h), (1, .ref o)] := hl
  refine lv_iconst (v := 2) hx hb d_SeriesVaultLaw_flush_15 (by decide) ?_
  exact rfI hx hb hr hlk hS u2 ⟨rfl, hf9⟩ hP hD (show 0 + mc9 ≤ mc9 by omega) (show 0 + ms9 ≤ ms9 by omega) d_SeriesVaultLaw_flush_16
end
