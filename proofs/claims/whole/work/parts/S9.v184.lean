/-! A function: both sides. -/
theorem fn_lt {wh : Nat} (h : wh < 7) : isFn (nI wh) := by
  unfold isFn
  rcases (show wh = 0 ∨ wh = 1 ∨ wh = 2 ∨ wh = 3 ∨ wh = 4 ∨ wh = 5 ∨ wh = 6 by omega) with e | e | e | e | e | e | e <;> subst e <;> decide
theorem pkG_rc {SS : Nat → List LB} {kn : Nat → Option Nat} {nm : Nat} {NL : Nat → List Int32} {KD : Nat → Int32} {MN MT : Nat → List Int32} {g : PKS} (h : g.1.rc ≤ 256) : ∀ i, (pkG NL nm KD MN MT SS kn g i).1.rc ≤ 256
  | 0 => h
  | i + 1 => by
    have ih := pkG_rc (SS := SS) (kn := kn) (nm := nm) (NL := NL) (KD := KD) (MN := MN) (MT := MT) h i
    unfold pkG
    split
    · show (adT NL (pkG NL nm KD MN MT SS kn g i).1 (pkG NL nm KD MN MT SS kn g i).2.1 (SS i) ((kn i).getD 0)).rc ≤ 256
      rw [adT_rc.1]
      split <;> omega
    · exact ih
theorem rw_256 (s : SP1) (SS : Nat → List LB) (n : Nat) : rwN s SS n ≤ 256 := pkG_rc (Nat.zero_le _) n
theorem rw_R {SS : Nat → List LB} {kn : Nat → Option Nat} {n : Nat} (s : SP1) {g : PKS} (h1 : g.1.rc = 0) (h2 : g.1.nc = s.2.2.2.1) (h3 : g.2.1 = fun _ => []) : (pkG s.2.2.2.2.1 s.2.2.2.2.2.1 s.2.2.2.2.2.2.1 s.2.2.2.2.2.2.2.1 s.2.2.2.2.2.2.2.2 SS kn g n).1.rc = rwN s SS n := by
  obtain ⟨e, -, -⟩ := pkG_sh (NL := s.2.2.2.2.1) (nm := s.2.2.2.2.2.1) (KD := s.2.2.2.2.2.2.1) (MN := s.2.2.2.2.2.2.2.1) (MT := s.2.2.2.2.2.2.2.2) (SS := SS) (kn := kn) (kn' := fun _ => none) (g := g) (g' := (TB.s_nc (tb0 0) s.2.2.2.1, fun _ => [], fun _ => 0, fun _ => false)) h1 h2 h3 n
  exact e
theorem ptR_ak {m : MS} {x y : VS} {PS : Nat → PT} {dn : Nat → Nat} (h : x.ak y) (hp : ptR m x PS dn) : ptR m y PS dn := by
  rw [show y = x.akS y from h]
  exact hp
section FJ
variable {dA : Nat → ClassId} {ad : Nat → Nat} {r : va_W} {la : Nat → Nat} {PS : Nat → PT} {SS : Nat → List LB} {nw : Nat} {I : SKT → Prop} {σ0 : SHT} {dn : Nat → Nat} {y z : MS} {σ : SHT} {L : List SP1} {cC cS : Nat → Nat} {f : Nat → Int32} {n wh : Nat} {t : TKQ} {B0 : RN} {p : Nat} {s : SP1}
theorem J_fun (h0 : ∀ a0, I a0 → skQ dA ad r la a0) (hkn : ∀ a0, I a0 → knOk dA a0.1.kn a0.1.nser a0.1.pl SS) (hb : basR PS SS nw I dn y) (hj : jOk dA ad r la PS SS nw I σ0 L σ cC cS) (ho : shOk σ) (hp : σ.1 = y.pile) (hr : ∀ a0, I a0 → ∀ a, wkR dA ad r la PS SS nw L a0 L.length a → shp a = σ ∧ stR dA SS nw y a) (h20 : y.pile < 20) (hqi : y.qI) (bz : basR PS SS nw I dn z) (oz : tabO y z y.pile) (zp : z.pile = y.pile) (zq : ∀ q, q < z.points → z.pointSeries q < 256) (s1 : s.1 = 264) (hn : nmRe z z.pile s.2.2.2.1 s.2.2.2.2.1) (hnn : s.2.2.2.1 ≤ 6) (hm : ∀ i, i < z.seriesCount → ∀ v, ((MS.s_valueLength z v).mt i p).1 = pkT s.2.2.2.2.2.1 s.2.2.2.2.2.2.1 s.2.2.2.2.2.2.2.1 s.2.2.2.2.2.2.2.2 SS i) (hnu : s.2.2.1.toInt32 = nI wh) (hwh : wh < 7) : ∃ (σ1 : SHT) (cC' cS' : Nat → Nat), jOk dA ad r la PS SS nw I σ0 (L ++ [s]) σ1 cC' cS' ∧ shOk σ1 ∧ σ1.1 = (z.rkS wh p).pile ∧ ∀ a0, I a0 → ∀ b, wkR dA ad r la PS SS nw (L ++ [s]) a0 (L ++ [s]).length b → shp b = σ1 ∧ stR dA SS nw (z.rkS wh p) b := by
  obtain ⟨p1, p2, p3, p4⟩ := shPu_ok ho (by omega)
  have w : z.windows = nw := bz.1.1
  have h64 : nw ≤ 64 := by
    have := bz.1.2.1.1
    rw [w] at this
    exact this
  obtain ⟨R, eR⟩ : ∃ R, R = rwN s SS z.seriesCount := ⟨_, rfl⟩
  have hR : R ≤ 256 := by
    rw [eR]
    exact rw_256 s SS _
  have hRw : R * nw ≤ 16384 := rw_le hR h64
  obtain ⟨f1, f2, f3⟩ := shFn_ok ho (by omega) hRw
  have A : ∀ a0, I a0 → ∀ a, shp a = σ → stR dA SS nw y a → skQ dA ad r la a → a0.1.ak a.1 → ∀ c0 s0, wkO dA ad r la SS s c0 (c0 + 9) s0 (s0 + fnS (R * nw) σ) a := by
    intro a0 i0 a e hs _ hak c0 s0
    have ea : a.1.adep ≤ a.2.1.sz := by
      have := ho.1
      rw [← e] at this
      exact this
    have ee : a.2.1.eN ≤ 40 := by
      have := ho.2.2.1
      rw [← e] at this
      exact this
    have ep : psS a.1 a.2.1 = puS σ := by rw [← e]; rfl
    refine Or.inr (Or.inl ⟨s1, ea, by omega, hnn, by rw [hnu]; exact fn_lt hwh, ?_, ?_, fun m hm => ?_⟩)
    · unfold psC
      split <;> omega
    · rw [ep]
      unfold fnS
      omega
    · have em := shp_ps hm
      rw [e] at em
      obtain ⟨b1, b2, b3, b4, b5, b6, b7⟩ := ps_st hm hs ea
      have cn := p1.2.2.2.1 σ.1 p2
      have hak2 := ak_t hak (ps_k hm)
      obtain ⟨k1, k2, k3, k4, -⟩ := ak_f hak2
      have cq : (shPu σ).2.2.2.1 σ.1 = (m.2.2.2 y.pile).cN := by rw [← em, hp, shp_c b2]
      have bq : (shPu σ).2.2.2.2 = m.1.bN := by rw [← em]; rfl
      have mb : m.1.bN ≤ 32768 := by rw [← bq]; exact p1.2.2.2.2
      rw [cq] at cn
      obtain ⟨z1, z2, z3, z4, z5⟩ := bz.2.2 a0 i0
      rw [hs.1, k1, k2, k3, k4, z3, z2, ep]
      refine ⟨by omega, by rw [← (ak_f hak).1]; exact b4 _ b2, by omega, by rw [b6]; exact hs.2.2.2, ?_⟩
      rw [rw_R s (g := (TB.s_rc (TB.s_wi (TB.s_nc (m.2.2.2 y.pile) s.2.2.2.1) nw) 0, fun _ => [], m.1.aro, m.1.ahb)) rfl rfl rfl, ← eR]
      unfold pkS fnS
      rw [cq, bq]
      omega
  have B : ∀ a0, I a0 → ∀ a b, shp a = σ → stR dA SS nw y a → skQ dA ad r la a → a0.1.ak a.1 → wkS dA ad r la PS SS nw s a b → shp b = shFn (R * nw) σ ∧ stR dA SS nw (z.rkS wh p) b := by
    intro a0 i0 a b e hs _ hak hw
    have ea : a.1.adep ≤ a.2.1.sz := by
      have := ho.1
      rw [← e] at this
      exact this
    rcases hw with ⟨e1, -⟩ | ⟨-, m, W, v9, hmp, pf, hu⟩ | ⟨e1, -⟩ | ⟨e1, -⟩
    · rw [s1] at e1
      exact absurd (Eq.symm e1) ne_5764
    · have em := shp_ps hmp
      rw [e] at em
      obtain ⟨b1, b2, b3, b4, b5, b6, b7⟩ := ps_st hmp hs ea
      have hak2 := ak_t hak (ps_k hmp)
      have hak3 : a0.1.ak (VS.s_ll m.1 W) := ak_t hak2 rfl
      obtain ⟨k1, k2, k3, k4, k5, k6, -⟩ := ak_f hak3
      have cn := p1.2.2.2.1 σ.1 p2
      have cq : (shPu σ).2.2.2.1 σ.1 = (m.2.2.2 y.pile).cN := by rw [← em, hp, shp_c b2]
      have bq : (shPu σ).2.2.2.2 = m.1.bN := by rw [← em]; rfl
      have mb : m.1.bN ≤ 32768 := by rw [← bq]; exact p1.2.2.2.2
      rw [cq] at cn
      rw [hs.1] at pf hu
      obtain ⟨x, ex⟩ : ∃ x, x = VS.s_ll m.1 W := ⟨_, rfl⟩
      have xb : x.bN = m.1.bN ∧ x.bO = m.1.bO ∧ x.pl = m.1.pl := by rw [ex]; exact ⟨rfl, rfl, rfl⟩
      rw [← ex] at pf k1 k2 k3 k4 k5 k6 hak3
      obtain ⟨z1, z2, z3, z4, z5⟩ := bz.2.2 a0 i0
      have RR := rw_R (SS := SS) (kn := a0.1.kn) (n := z.seriesCount) s (g := (TB.s_rc (TB.s_wi (TB.s_nc (m.2.2.2 y.pile) s.2.2.2.1) x.awi) 0, fun _ => [], x.aro, x.ahb)) rfl rfl rfl
      obtain ⟨q1, ⟨RS', q2, q3⟩, q4, q5, q6⟩ := pk_T (R := R) (p := p) pf hn hnn bz.2.1.1 bz.2.1.2 bz.1.2.2.1 zq hm hnu hwh bz.1.2.1 (ptR_ak hak3 z1) ⟨by rw [k5]; exact z4, by rw [k6]; exact z5, by rw [k4, w]; exact z3⟩ (k3.trans z2) (by rw [k1, k2, k3]; exact hkn a0 i0) cn.2 (by rw [xb.1]; exact mb) (by rw [xb.2.1, b6]; exact hs.2.2.2) (by rw [k2, k3, z2, RR, eR])
      rw [w] at q3 q4 q5
      rw [xb.1] at q5
      rw [xb.2.2, b5] at q3
      rw [zp] at q2
      have eb := shp_U hu b2
      have e1 : shp b = shFn (R * nw) σ := by
        rw [eb, q4]
        unfold shFn
        rw [← em, hp, shp_c b2]
        show (m.1.adep, _, _, _, v9.2.2.2.2.2.1) = (m.1.adep, _, _, _, gwN (R * nw) m.1.bN)
        rw [q5]
      refine ⟨e1, ?_⟩
      obtain ⟨u1, u2, u3, u4, u5⟩ := hu
      have pb : b.1.pl = a.1.pl := (congrArg VS.pl u1).trans b5
      have ab : b.1.adep = m.1.adep := (congrArg VS.adep u1).trans rfl
      have obo : b.1.bO = v9.2.2.2.2.2.2.2.1 := (congrArg VS.bO u1).trans rfl
      have pz : (z.rkS wh p).pile = y.pile + 1 := by
        rw [← zp]
        rfl
      refine ⟨by rw [pz]; exact ab.trans b1, fun tb ht => ?_, fun tb ht => ?_, by rw [obo]; exact q6⟩
      · rw [pz] at ht
        rw [u4, pb]
        by_cases c : tb = y.pile
        · rw [c, va_up_self]
          exact ⟨_, RS', q2, q3⟩
        · rw [va_up_ne _ _ c]
          obtain ⟨NL3, RS3, w1, w2⟩ := hs.2.1 tb (by omega)
          rw [b3 tb (by omega)]
          have o2 := rk_O (z := z) (wh := wh) (p := p) bz.1.2.1 bz.1.2.2.1
          rw [zp] at o2
          exact ⟨NL3, RS3, tab_o (tabO_t oz o2) c w1, w2⟩
      · rw [u4, pb]
        rw [u2] at ht
        by_cases c : tb = y.pile
        · rw [c, va_up_self]
          exact q3.2.2.2.1
        · rw [va_up_ne _ _ c]
          exact b4 tb ht
    · rw [s1] at e1
      exact absurd e1 ne_6465
    · rw [s1] at e1
      exact absurd e1 nop_64
  obtain ⟨cC', cS', q1, q2⟩ := J_step h0 hj hr A (by omega) f2 B
  refine ⟨_, cC', cS', q1, f1, ?_, q2⟩
  rw [f3, hp, ← zp]
  rfl
end FJ
