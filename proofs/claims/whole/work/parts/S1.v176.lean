/-! A sign between two tables: both sides. -/
section OP
variable {sg : Int32} {m : MS} {a b tb : Nat} {t u : TB} {NL NR : Nat → List Int32} {RS RU SS : Nat → List LB}
theorem ltK_nl {nc : Nat} {S1 S2 : List LB} (h : ∀ k, k < nc → NL k = NR k) (g : ltK NR nc S1 S2) : ltK NL nc S1 S2 := by
  obtain ⟨k, k1, k2, k3⟩ := g
  refine ⟨k, k1, fun i hi => ?_, ?_⟩
  · rw [h i (by omega)]
    exact k2 i hi
  · rw [h k k1]
    exact k3
theorem tabR_nl (h : ∀ k, k < t.nc → NL k = NR k) (ht : tabR m tb t NR RS SS) : tabR m tb t NL RS SS := by
  obtain ⟨⟨⟨h0, h1⟩, h2⟩, h3, h4, h5, h6⟩ := ht
  refine ⟨⟨⟨h0, fun i hi => by rw [h i hi]; exact h1 i hi⟩, h2⟩, h3, fun g => ?_, h5, h6⟩
  obtain ⟨g1, g2⟩ := h4 g
  exact ⟨g1, fun x y hxy hy => ltK_nl h (g2 x y hxy hy)⟩
theorem tabR_rs {RS' : Nat → List LB} (h : 0 < t.nc → ∀ q, q < t.rc → RS' q = RS q) (ht : tabR m tb t NL RS SS) : tabR m tb t NL RS' SS := by
  obtain ⟨h1, h3, h4, h5, h6⟩ := ht
  refine ⟨h1, h3, fun g => ?_, h5, h6⟩
  obtain ⟨g1, g2⟩ := h4 g
  refine ⟨fun q hq => ⟨(g1 q hq).1, (h g q hq).trans (g1 q hq).2⟩, fun x y hxy hy => ?_⟩
  rw [h g x (by omega), h g y hy]
  exact g2 x y hxy hy
section TK
variable {dA : Nat → ClassId} {pl : va_W} {wi : Nat} {z : TB}
/-- a table whose names and sizes stay, whose rows are some of its rows -/
theorem tbK_c {RS' : Nat → List LB} (h : tbK dA pl wi t NL RS) (e1 : z.nm = t.nm) (e2 : z.nc = t.nc) (e3 : z.wi = t.wi) (e4 : z.cN = t.cN) (e5 : z.rc ≤ t.rc) (e6 : rsAll dA pl z.rs) (e7 : 0 < t.nc → ∀ q, q < z.rc → ∃ p, p < t.rc ∧ z.rs q = t.rs p ∧ RS' q = RS p) : tbK dA pl wi z NL RS' := by
  obtain ⟨h1, h2, h3, h4, h5, h6, h7, h8, h9⟩ := h
  refine ⟨by rw [e1, e2]; exact h1, by rw [e2]; exact h2, fun g => ?_, e6, by omega, e3.trans h6, ?_, by rw [e4]; exact h8, fun g => by have := h9 (e2.symm.trans g); omega⟩
  · intro q hq
    obtain ⟨p, p1, p2, p3⟩ := e7 (by omega) q hq
    rw [p2, p3]
    exact h3 (by omega) p p1
  · rw [e3, e4]
    exact Nat.le_trans (Nat.mul_le_mul_right _ e5) h7
theorem rsAll_de (h : rsAll dA pl t.rs) : ∀ r, rsAll dA pl (deG t r).2.rs
  | 0 => h
  | r + 1 => by
    have ih := rsAll_de h r
    unfold deG
    split
    · exact ih
    · exact rsAll_mv ih
theorem tbK_de {φ : Nat → Nat} (h : tbK dA pl wi t NL RS) (hp : ∀ a, a < t.de.rc → φ a < t.rc ∧ t.de.rs a = t.rs (φ a)) : tbK dA pl wi t.de NL (fun q => RS (φ q)) := by
  obtain ⟨k1, k2, k3, k4, k5, k6, k7⟩ := deG_k t t.rc
  exact tbK_c h k5 k6 k1 k3 k4 (rsAll_de h.2.2.2.1 t.rc) (fun _ q hq => ⟨φ q, (hp q hq).1, (hp q hq).2, rfl⟩)
theorem tbK_0 (h : tbK dA pl wi t NL RS) : tbK dA pl wi (TB.s_rc t 0) NL RS := tbK_c h rfl rfl rfl rfl (Nat.zero_le _) h.2.2.2.1 (fun _ q hq => absurd hq (Nat.not_lt_zero q))
theorem jsL_a (sg : Int32) (t u : TB) : ∀ r, (jsL sg t u r).nm = t.nm ∧ (jsL sg t u r).nc = t.nc ∧ (jsL sg t u r).wi = t.wi ∧ (jsL sg t u r).cN = t.cN ∧ (jsL sg t u r).rc = t.rc ∧ (jsL sg t u r).rs = t.rs
  | 0 => ⟨rfl, rfl, rfl, rfl, rfl, rfl⟩
  | r + 1 => jsL_a sg t u r
theorem jsR_a (sg : Int32) (t u : TB) : ∀ r, (jsR sg t u r).nm = t.nm ∧ (jsR sg t u r).nc = t.nc ∧ (jsR sg t u r).wi = t.wi ∧ (jsR sg t u r).cN = t.cN ∧ (jsR sg t u r).rc = t.rc ∧ (jsR sg t u r).rs = t.rs
  | 0 => ⟨rfl, rfl, rfl, rfl, rfl, rfl⟩
  | r + 1 => jsR_a sg t u r
theorem tbK_s (h : tbK dA pl wi t NL RS) (e : z.nm = t.nm ∧ z.nc = t.nc ∧ z.wi = t.wi ∧ z.cN = t.cN ∧ z.rc = t.rc ∧ z.rs = t.rs) : tbK dA pl wi z NL RS := by
  obtain ⟨e1, e2, e3, e4, e5, e6⟩ := e
  exact tbK_c h e1 e2 e3 e4 (by omega) (by rw [e6]; exact h.2.2.2.1) (fun _ q hq => ⟨q, by omega, by rw [e6], rfl⟩)
theorem rsAll_jm {sg : Int32} (h : rsAll dA pl t.rs) : ∀ r, rsAll dA pl (jmG sg NL t u RS RU r).2.2.rs
  | 0 => h
  | r + 1 => by
    have ih := rsAll_jm (sg := sg) h r
    show rsAll dA pl (jmS sg NL t.nc u RS RU r (jmG sg NL t u RS RU r).1 (jmG sg NL t u RS RU r).2.1 (jmG sg NL t u RS RU r).2.2).2.2.rs
    unfold jmS
    split
    · exact rsAll_mv ih
    · exact ih
end TK
theorem sm_nam (h1 : nmRe m a t.nc NL) (h2 : nmRe m b u.nc NR) : m.smN a b = namB NL NR t.nc u.nc := by
  unfold MS.smN namB
  rw [h1.1, h2.1]
  by_cases c : t.nc = u.nc
  · rw [decide_eq_true c, Bool.true_and, Bool.true_and]
    refine allB_ext (fun k hk => ?_)
    have e : (m.nmE a b k = true) ↔ (nsB NL NR k = true) := by
      unfold nsB
      rw [sameW_i, ← h1.2 k hk, ← h2.2 k (by omega)]
      unfold MS.nmE MS.nmL
      rw [Bool.and_eq_true, decide_eq_true_eq, allB_iff, seg_ii, Nat.add_sub_cancel_left, Nat.add_sub_cancel_left]
      constructor
      · rintro ⟨x1, x2⟩
        exact ⟨x1, fun i hi => of_decide_eq_true (x2 i hi)⟩
      · rintro ⟨x1, x2⟩
        exact ⟨x1, fun i hi => decide_eq_true (x2 i hi)⟩
    cases x : nsB NL NR k with
    | true => exact e.mpr x
    | false =>
      cases y : m.nmE a b k with
      | false => rfl
      | true => rw [e.mp y] at x; cases x
  · rw [decide_eq_false c]
    rfl
theorem nam_e (h : namB NL NR t.nc u.nc = true) : t.nc = u.nc ∧ ∀ k, k < t.nc → NL k = NR k := by
  unfold namB at h
  rw [Bool.and_eq_true, decide_eq_true_eq, allB_iff] at h
  exact ⟨h.1, fun k hk => sameW_i.mp (h.2 k hk)⟩
theorem tab_pile (h : tabR m tb t NL RS SS) (n : Nat) : tabR (MS.s_pile m n) tb t NL RS SS := h
/-- do they go together -/
theorem opB_jn (hp : a = m.pile - 2 ∧ b = m.pile - 1) (h1 : nmRe m a t.nc NL) (h2 : nmRe m b u.nc NR) : m.opB = !decide (jnC NL NR t u = 3) := by
  unfold MS.opB jnC
  rw [← hp.1, ← hp.2, sm_nam h1 h2, h1.1, h2.1]
  cases namB NL NR t.nc u.nc with
  | true => rfl
  | false =>
    by_cases c : u.nc = 0
    · rw [decide_eq_true c, if_neg (by decide), if_pos c]
      rfl
    · rw [decide_eq_false c, if_neg (by decide), if_neg c]
      by_cases d : t.nc = 0
      · rw [decide_eq_true d, if_pos d]
        rfl
      · rw [decide_eq_false d, if_neg d]
        rfl
theorem op_T {dA : Nat → ClassId} {pl : va_W} {wi : Nat} (hs : isOp sg) {q : Nat} (hp : a = m.pile - 2 ∧ b = m.pile - 1) (h2 : 2 ≤ m.pile) (ht : tabR m a t NL RS SS) (hu : tabR m b u NR RU SS) (kt : tbK dA pl wi t NL RS) (ku : tbK dA pl wi u NR RU) (hx : txR m.texts m.textLengths m.seriesCount SS) (hg : ∀ q, q < m.seriesCount → serG (SS q)) (hj : ¬ jnC NL NR t u = 3) : m.opB = true ∧ ∃ NL' RS', tabR (m.opS sg q) a (jnT sg NL RS RU t u (jnC NL NR t u)) NL' RS' SS ∧ tbK dA pl wi (jnT sg NL RS RU t u (jnC NL NR t u)) NL' RS' := by
  have ob : m.opB = true := by rw [opB_jn hp ht.1.1 hu.1.1, decide_eq_false hj]; rfl
  refine ⟨ob, ?_⟩
  rw [op_v ob, ← hp.1]
  have hab : a < b := by omega
  have key : ∃ NL' RS' T, tabR (m.opM sg) a T NL' RS' SS ∧ jnT sg NL RS RU t u (jnC NL NR t u) = T.de ∧ tbK dA pl wi T NL' RS' := by
    unfold MS.opM
    rw [← hp.1, ← hp.2, sm_nam ht.1.1 hu.1.1, hu.1.1.1]
    cases c : namB NL NR t.nc u.nc with
    | true =>
      have ec : jnC NL NR t u = 0 := if_pos c
      rw [ec, if_pos rfl]
      obtain ⟨e1, e2⟩ := nam_e c
      by_cases z : t.nc = 0
      · refine ⟨NL, RS, _, j0_tab hs hab ht hu z (by omega), ?_, ?_⟩
        · show (if t.nc = 0 then TB.j0 sg t u else TB.jm sg NL t u RS RU) = _
          rw [if_pos z]
          unfold TB.j0
          split <;> rfl
        · split
          · rename_i c1
            exact tbK_c kt rfl rfl rfl rfl (by show 1 ≤ t.rc; omega) (rsAll_mv (r := 0) (n := 0) kt.2.2.2.1) (fun g => by omega)
          · exact tbK_0 kt
      · have hu' : tabR m b u NL RU SS := tabR_nl (fun k hk => e2 k (by omega)) hu
        obtain ⟨φ, h, h3, z1, z2, z3, z4, z5, z6, z7, z8⟩ := me_tab hs hab ht hu' e1.symm (by omega) hx hg
        refine ⟨NL, _, _, h, ?_, ?_⟩
        · show (if t.nc = 0 then TB.j0 sg t u else TB.jm sg NL t u RS RU) = _
          rw [if_neg z]
          rfl
        · exact tbK_c kt z5 z6 z1 z3 z4 (rsAll_jm kt.2.2.2.1 t.rc) (fun _ q hq => ⟨φ q, (h3 q hq).1, (h3 q hq).2, rfl⟩)
    | false =>
      rw [if_neg (by decide)]
      by_cases c2 : u.nc = 0
      · have ec : jnC NL NR t u = 1 := by unfold jnC; rw [c, if_neg (by decide), if_pos c2]
        rw [ec, if_pos c2]
        refine ⟨NL, RS, _, ob_tab hs (by omega) ht hu, ?_, ?_⟩
        · show (if u.rc = 0 then TB.de (TB.s_rc t 0) else (jsL sg t u t.rc).de) = _
          split <;> rfl
        · split
          · exact tbK_0 kt
          · exact tbK_s kt (jsL_a sg t u t.rc)
      · have d : t.nc = 0 := by
          by_cases d : t.nc = 0
          · exact d
          · refine absurd ?_ hj
            unfold jnC
            rw [c, if_neg (by decide), if_neg c2, if_neg d]
        have ec : jnC NL NR t u = 2 := by unfold jnC; rw [c, if_neg (by decide), if_neg c2, if_pos d]
        rw [ec, if_neg c2]
        refine ⟨NR, RU, _, sp_tab hs hab ht hu, ?_, ?_⟩
        · show (if t.rc = 0 then TB.de (TB.s_rc u 0) else (jsR sg u t u.rc).de) = _
          split <;> rfl
        · split
          · exact tbK_0 ku
          · exact tbK_s ku (jsR_a sg u t u.rc)
  obtain ⟨NL', RS', T, h, e, k⟩ := key
  obtain ⟨φ, h3, h4⟩ := sw_tab (tab_pile h ((m.opM sg).pile - 1))
  rw [e]
  exact ⟨NL', _, h3, tbK_de k h4⟩
end OP
