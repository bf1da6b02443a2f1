/-! A number, a turn: both sides. -/
theorem num_cn (t : TB) (v : Int64) (n : Nat) : (t.num v n).cN = t.cN ∧ (t.num v n).rs = t.rs := by
  have : ∀ k, (mkG (TB.cl (TB.s_rc (TB.s_wi (TB.s_nc t 0) n) 1)) v k).rs = t.rs := fun k => by
    induction k with
    | zero => rfl
    | succ k ih => exact ih
  obtain ⟨k1, k2, k3, -⟩ := mkG_k (TB.cl (TB.s_rc (TB.s_wi (TB.s_nc t 0) n) 1)) v n
  exact ⟨k3, this n⟩
theorem ne_5764 : ¬ (257 : Int32) = 264 := by decide
theorem ne_5765 : ¬ (257 : Int32) = 265 := by decide
theorem ne_6465 : ¬ (264 : Int32) = 265 := by decide
theorem nop_57 : ¬ isOp 257 := by unfold isOp; decide
theorem nop_64 : ¬ isOp 264 := by unfold isOp; decide
theorem nop_65 : ¬ isOp 265 := by unfold isOp; decide
section NT
variable {dA : Nat → ClassId} {ad : Nat → Nat} {r : va_W} {la : Nat → Nat} {PS : Nat → PT} {SS : Nat → List LB} {nw : Nat} {I : SKT → Prop} {σ0 : SHT} {dn : Nat → Nat} {y : MS} {σ : SHT} {L : List SP1} {cC cS : Nat → Nat}
theorem J_num (h0 : ∀ a0, I a0 → skQ dA ad r la a0) (hb : basR PS SS nw I dn y) (hj : jOk dA ad r la PS SS nw I σ0 L σ cC cS) (ho : shOk σ) (hp : σ.1 = y.pile) (hr : ∀ a0, I a0 → ∀ a, wkR dA ad r la PS SS nw L a0 L.length a → shp a = σ ∧ stR dA SS nw y a) (h20 : y.pile < 20) (q : Nat) : ∃ (σ1 : SHT) (cC' cS' : Nat → Nat), jOk dA ad r la PS SS nw I σ0 (L ++ [spO 257 q y.amount]) σ1 cC' cS' ∧ shOk σ1 ∧ σ1.1 = y.nbS.pile ∧ ∀ a0, I a0 → ∀ b, wkR dA ad r la PS SS nw (L ++ [spO 257 q y.amount]) a0 (L ++ [spO 257 q y.amount]).length b → shp b = σ1 ∧ stR dA SS nw y.nbS b := by
  obtain ⟨p1, p2, p3, p4⟩ := shPu_ok ho (by omega)
  have w : y.windows = nw := hb.1.1
  have h64 : nw ≤ 64 := by
    have := hb.1.2.1.1
    rw [w] at this
    exact this
  have A : ∀ a0, I a0 → ∀ a, shp a = σ → stR dA SS nw y a → skQ dA ad r la a → a0.1.ak a.1 → ∀ c0 s0, wkO dA ad r la SS (spO 257 q y.amount) c0 (c0 + 6) s0 (s0 + puS σ) a := by
    intro a0 i0 a e hs _ _ c0 s0
    have ea : a.1.adep ≤ a.2.1.sz := by
      have := ho.1
      rw [← e] at this
      exact this
    have ee : a.2.1.eN ≤ 40 := by
      have := ho.2.2.1
      rw [← e] at this
      exact this
    refine Or.inl ⟨rfl, ea, by omega, ?_, ?_, fun m hm => ?_⟩
    · unfold psC
      split <;> omega
    · rw [← e]
      exact Nat.le_refl _
    · have em := shp_ps hm
      rw [e] at em
      obtain ⟨b1, b2, b3, b4, b5, b6, b7⟩ := ps_st hm hs ea
      have cn := p1.2.2.2.1 σ.1 p2
      rw [← em, hp, shp_c b2] at cn
      rw [hs.1]
      exact ⟨by omega, cn.1⟩
  have B : ∀ a0, I a0 → ∀ a b, shp a = σ → stR dA SS nw y a → skQ dA ad r la a → a0.1.ak a.1 → wkS dA ad r la PS SS nw (spO 257 q y.amount) a b → shp b = shPu σ ∧ stR dA SS nw y.nbS b := by
    intro a0 i0 a b e hs _ _ hw
    have ea : a.1.adep ≤ a.2.1.sz := by
      have := ho.1
      rw [← e] at this
      exact this
    rcases hw with ⟨-, m, hm, hu⟩ | ⟨e1, -⟩ | ⟨e1, -⟩ | ⟨e1, -⟩
    · have em := shp_ps hm
      rw [e] at em
      obtain ⟨b1, b2, b3, b4, b5, b6, b7⟩ := ps_st hm hs ea
      have hu : skU dA ad r la m m.1 a.1.adep ((m.2.2.2 a.1.adep).num y.amount nw) b := hu
      rw [hs.1] at hu
      obtain ⟨n1, n2⟩ := num_cn (m.2.2.2 y.pile) y.amount nw
      have eb := shp_U hu b2
      have cn := p1.2.2.2.1 σ.1 p2
      rw [← em, hp, shp_c b2] at cn
      rw [n1, va_up_id (shp_c b2).symm] at eb
      refine ⟨eb.trans em, ?_⟩
      obtain ⟨u1, u2, u3, u4, u5⟩ := hu
      have pb : b.1.pl = a.1.pl := (congrArg VS.pl u1).trans b5
      have ab : b.1.adep = m.1.adep := (congrArg VS.adep u1).trans rfl
      have ob : b.1.bO = m.1.bO := (congrArg VS.bO u1).trans rfl
      refine ⟨ab.trans b1, fun tb ht => ?_, fun tb ht => ?_, by rw [ob, b6]; exact hs.2.2.2⟩
      · rw [u4, pb]
        have ht : tb < y.pile + 1 := ht
        by_cases c : tb = y.pile
        · rw [c, va_up_self]
          refine ⟨fun _ => [], fun _ => [], ?_, ?_⟩
          · have := nb_tab (m := y) hb.1.2.1.1 (m.2.2.2 y.pile) (fun _ => []) (fun _ => []) SS
            rw [w] at this
            exact this
          · obtain ⟨k1, k2, k3⟩ := num_nc (m.2.2.2 y.pile) y.amount nw
            refine ⟨fun k hk => by rw [k1] at hk; omega, by omega, fun g => by omega, by rw [n2]; exact b4 _ b2, by omega, k3, by rw [k2, k3, n1]; omega, by rw [n1]; omega, fun _ => by omega⟩
        · rw [va_up_ne _ _ c]
          obtain ⟨NL, RS, t1, t2⟩ := hs.2.1 tb (by omega)
          rw [b3 tb (by omega)]
          exact ⟨NL, RS, tab_o (nb_O hb.1.2.1.1) c t1, t2⟩
      · rw [u4, pb]
        rw [u2] at ht
        by_cases c : tb = y.pile
        · rw [c, va_up_self, n2]
          exact b4 _ b2
        · rw [va_up_ne _ _ c]
          exact b4 tb ht
    · exact absurd e1 ne_5764
    · exact absurd e1 ne_5765
    · exact absurd e1 nop_57
  obtain ⟨cC', cS', q1, q2⟩ := J_step h0 hj hr A (by omega) p4 B
  exact ⟨shPu σ, cC', cS', q1, p1, by rw [p3, hp]; rfl, q2⟩
theorem J_turn (h0 : ∀ a0, I a0 → skQ dA ad r la a0) (hb : basR PS SS nw I dn y) (hj : jOk dA ad r la PS SS nw I σ0 L σ cC cS) (ho : shOk σ) (hp : σ.1 = y.pile) (hr : ∀ a0, I a0 → ∀ a, wkR dA ad r la PS SS nw L a0 L.length a → shp a = σ ∧ stR dA SS nw y a) (h1 : 1 ≤ y.pile) (q : Nat) : ∃ (σ1 : SHT) (cC' cS' : Nat → Nat), jOk dA ad r la PS SS nw I σ0 (L ++ [spO 265 q 0]) σ1 cC' cS' ∧ shOk σ1 ∧ σ1.1 = y.ngS.pile ∧ ∀ a0, I a0 → ∀ b, wkR dA ad r la PS SS nw (L ++ [spO 265 q 0]) a0 (L ++ [spO 265 q 0]).length b → shp b = σ1 ∧ stR dA SS nw y.ngS b := by
  have A : ∀ a0, I a0 → ∀ a, shp a = σ → stR dA SS nw y a → skQ dA ad r la a → a0.1.ak a.1 → ∀ c0 s0, wkO dA ad r la SS (spO 265 q 0) c0 (c0 + 0) s0 (s0 + 0) a := by
    intro a0 i0 a e hs _ _ c0 s0
    have ea : a.1.adep ≤ a.2.1.sz := by
      have := ho.1
      rw [← e] at this
      exact this
    obtain ⟨NL, RS, t1, t2⟩ := hs.2.1 (y.pile - 1) (by omega)
    rw [← hs.1] at t2
    exact Or.inr (Or.inr (Or.inl ⟨rfl, by rw [hs.1]; exact h1, ea, t2.2.2.2.2.2.2.2.1, t2.2.2.2.2.2.2.1, Nat.le_refl _, Nat.le_refl _⟩))
  have B : ∀ a0, I a0 → ∀ a b, shp a = σ → stR dA SS nw y a → skQ dA ad r la a → a0.1.ak a.1 → wkS dA ad r la PS SS nw (spO 265 q 0) a b → shp b = σ ∧ stR dA SS nw y.ngS b := by
    intro a0 i0 a b e hs _ _ hw
    have ea : a.1.adep ≤ a.2.1.sz := by
      have := ho.1
      rw [← e] at this
      exact this
    rcases hw with ⟨e1, -⟩ | ⟨e1, -⟩ | ⟨-, hu⟩ | ⟨e1, -⟩
    · exact absurd (Eq.symm e1) ne_5765
    · exact absurd (Eq.symm e1) ne_6465
    · rw [hs.1] at hu
      obtain ⟨t, et⟩ : ∃ t, t = a.2.2.2 (y.pile - 1) := ⟨_, rfl⟩
      rw [← et] at hu
      have lt : y.pile - 1 < a.2.1.sz := by
        have := hs.1
        omega
      have eb := shp_U hu lt
      have cn : (TB.s_ce t (tnG t.ce (t.rc * t.wi))).cN = (shp a).2.2.2.1 (y.pile - 1) := by
        rw [shp_c lt, ← et]
      rw [va_up_id cn] at eb
      refine ⟨eb.trans e, ?_⟩
      obtain ⟨u1, u2, u3, u4, u5⟩ := hu
      have pb : b.1.pl = a.1.pl := (congrArg VS.pl u1).trans rfl
      have ab : b.1.adep = a.1.adep := (congrArg VS.adep u1).trans rfl
      have ob : b.1.bO = a.1.bO := (congrArg VS.bO u1).trans rfl
      obtain ⟨NLt, RSt, t1, t2⟩ := hs.2.1 (y.pile - 1) (by omega)
      rw [← et] at t1 t2
      refine ⟨ab.trans hs.1, fun tb ht => ?_, fun tb ht => ?_, by rw [ob]; exact hs.2.2.2⟩
      · rw [u4, pb]
        have ht : tb < y.pile := ht
        by_cases c : tb = y.pile - 1
        · rw [c, va_up_self]
          exact ⟨NLt, RSt, ng_tab t1, tbK_s t2 ⟨rfl, rfl, rfl, rfl, rfl, rfl⟩⟩
        · rw [va_up_ne _ _ c]
          obtain ⟨NL, RS, v1, v2⟩ := hs.2.1 tb ht
          exact ⟨NL, RS, tab_o (ng_O hb.1.2.1.1 (by rw [t1.2.1.1]; exact t1.2.1.2.1)) c v1, v2⟩
      · rw [u4, pb]
        rw [u2] at ht
        by_cases c : tb = y.pile - 1
        · rw [c, va_up_self]
          exact t2.2.2.2.1
        · rw [va_up_ne _ _ c]
          exact hs.2.2.1 tb ht
    · exact absurd e1 nop_65
  obtain ⟨cC', cS', q1, q2⟩ := J_step h0 hj hr A (by omega) (by omega) B
  exact ⟨σ, cC', cS', q1, ho, hp, q2⟩
end NT
