/-! A start: both sides. -/
section SA
variable {m : MS} {x x0 : VS} {PS : Nat → PT} {dn bn : Nat → Nat} {fN : Nat → Nat}
theorem rp1_fg (m : MS) (fN : Nat → Nat) (r : Nat) : (m.rp1 fN r).block = m.recordBlocks r ∧ (m.rp1 fN r).used = (if m.recordBlocks r = m.block then m.used + m.units r else m.units r) := by
  unfold MS.rp1
  split
  · exact ⟨rfl, rfl⟩
  · split
    · split
      · exact ⟨rfl, rfl⟩
      · exact ⟨rfl, rfl⟩
    · exact ⟨rfl, rfl⟩
theorem fg_e {jB jU kB kU : Nat → Nat} : ∀ {r : Nat}, (∀ i, i < r → kB i = jB i ∧ kU i = jU i) → fgG kB kU r = fgG jB jU r
  | 0, _ => rfl
  | r + 1, h => by
    obtain ⟨h1, h2⟩ := h r (by omega)
    show (kB r, (if kB r = (fgG kB kU r).1 then (fgG kB kU r).2.1 + kU r else kU r), (fgG kB kU r).2.2 + kU r) = (jB r, (if jB r = (fgG jB jU r).1 then (fgG jB jU r).2.1 + jU r else jU r), (fgG jB jU r).2.2 + jU r)
    rw [fg_e (fun i hi => h i (by omega)), h1, h2]
theorem fg_u (jB jU : Nat → Nat) : ∀ r, (fgG jB jU r).2.2 = sumN r jU
  | 0 => rfl
  | r + 1 => by
    show (fgG jB jU r).2.2 + jU r = sumN r jU + jU r
    rw [fg_u jB jU r]
theorem cpy_00 {α : Type} (f g : Nat → α) {n q : Nat} (h : q < n) : va_cpy f g 0 0 n q = f q := by
  unfold va_cpy
  rw [if_pos (by omega)]
  congr 1
  omega
/-- r records done again -/
theorem rp_run {st : AS4} {K : Nat} (h : ptR m x0 PS bn) (hb : bsR m x0 bn) (hs : seR m x0) (hN : x0.hsize ≤ x0.hN ∧ 0 < x0.hN) (hA : inA st x0) (hd : m.deletes + K ≤ 2 ^ 29) (hu : m.block = 0 ∧ m.used = 0) (hr : ∀ r, r < K → m.kinds r = nI (x0.jK r) ∧ m.recordSeries r = x0.jO r ∧ (¬ x0.jK r = 0 → m.firsts r = x0.jF r ∧ m.seconds r = x0.jS r))
    (hj : ∀ r, r < K → (x0.jK r = 0 → x0.jO r = (rpF PS x0.npc x0.nhor st x0.jK x0.jO x0.jF x0.jS r).1) ∧ (¬ x0.jK r = 0 → x0.jO r < (rpF PS x0.npc x0.nhor st x0.jK x0.jO x0.jF x0.jS r).1) ∧ (x0.jK r = 1 → isTm (x0.jF r) = true ∧ (rpF PS x0.npc x0.nhor st x0.jK x0.jO x0.jF x0.jS r).2.1 (x0.jO r) < x0.jF r)) :
    ∀ {r : Nat} {z : VS}, r ≤ K → dgR PS x0 r z → (∃ d', ptR (m.rpS fN r) z PS d') ∧ bsR (m.rpS fN r) z bn ∧ seR (m.rpS fN r) z ∧ rfK m (m.rpS fN r) r ∧ (m.rpS fN r).block = (fgG m.recordBlocks m.units r).1 ∧ (m.rpS fN r).used = (fgG m.recordBlocks m.units r).2.1
  | 0, z, _, e => by
    rw [show z = x0 from e]
    exact ⟨⟨bn, h⟩, hb, hs, ⟨⟨rfl, rfl, rfl, rfl, rfl, rfl, rfl, rfl, rfl, rfl, rfl, rfl⟩, Nat.le_refl _⟩, hu.1, hu.2⟩
  | r + 1, z, hr1, e => by
    obtain ⟨y, e1, e2⟩ := e
    obtain ⟨⟨d', ih1⟩, ih2, ih3, ⟨⟨b1, b2, b3, b4, b5, b6, b7, b8, b9, b10, b11, b12⟩, b13⟩, ih5, ih6⟩ := rp_run h hb hs hN hA hd hu hr hj (r := r) (z := y) (by omega) e1
    obtain ⟨⟨k1, k2, k3, k4, k5, k6⟩, s1, ia⟩ := dg_A hA hN (fun i hi => (hj i hi).2.1) (r := r) (z := y) (by omega) e1
    obtain ⟨j1, j2, j3⟩ := hj r (by omega)
    rw [ia.1] at j1 j2
    obtain ⟨q1, q2, q3⟩ := hr r (by omega)
    have st := rp_step (fN := fN) (r := r) ih1 ih2 ih3 s1 (by omega) (by rw [b1, b2, b3, b4, k1, k2, k3, k4]; exact ⟨q1, q2, q3⟩) (by rw [k1, k2]; exact j1) (by rw [k1, k2]; exact j2) (by
      rw [k1, k2, k3]
      intro w
      obtain ⟨t1, t2⟩ := j3 w
      rw [ia.2.1 _ (j2 (by rw [w]; decide))] at t2
      exact ⟨t1, t2⟩) e2
    obtain ⟨u1, u2, u3, ⟨c1, c2, c3, c4, c5, c6, c7, c8, c9, c10, c11, c12⟩, c13⟩ := st
    obtain ⟨f1, f2⟩ := rp1_fg (m.rpS fN r) fN r
    refine ⟨u1, u2, u3, ⟨⟨c1.trans b1, c2.trans b2, c3.trans b3, c4.trans b4, c5.trans b5, c6.trans b6, c7.trans b7, c8.trans b8, c9.trans b9, c10.trans b10, c11.trans b11, c12.trans b12⟩, Nat.le_trans c13 (by omega)⟩, ?_, ?_⟩
    · exact f1.trans (by rw [b6]; rfl)
    · refine f2.trans ?_
      rw [ih5, ih6, b5, b6]
      rfl
/-- a start -/
theorem st_all {a9 b9 u9n : Nat} {z : VS} (h : ptR m x PS dn) (hb : bsR m x bn) (hj : jrR m x) (ho : joR PS x) (hk0 : x.jkept ≤ x.jsize) (hp : pkL PS x.npc x.sser x.slast) (hN : 0 < x.hN) (hd : m.deletes + x.jkept ≤ 2 ^ 29) (hfg : fgG x.jB x.jU x.jkept = (a9, b9, u9n)) (hz : dgR PS (x.stS a9 b9 u9n) x.jkept z) : (∃ d', ptR (m.st2.rpS fN m.kept) z PS d') ∧ bsR (m.st2.rpS fN m.kept) z bn ∧ seR (m.st2.rpS fN m.kept) z ∧ jrR (m.st2.rpS fN m.kept) z ∧ joR PS z ∧ (m.st2.rpS fN m.kept).deletes ≤ m.deletes + x.jkept := by
  have mk : min x.jsize x.jkept = x.jkept := Nat.min_eq_right hk0
  obtain ⟨g1, g2, g3, g4, g5, g6, g7, g8, g9, g10, g11⟩ := hj
  have hb1 := hb
  obtain ⟨-, ⟨i1, i2, i3, i4⟩, ⟨-, j2, j3, -, j5⟩⟩ := hb1
  have hho : m.horizon = x.nhor := h.1.2.2.1
  have nh : (x.stS a9 b9 u9n).nhor = x.nhor := by rw [← hho, ← i2, i1]; rfl
  have np : (x.stS a9 b9 u9n).npc = x.npc := i3
  have cO : ∀ j, j < x.ssc → (x.stS a9 b9 u9n).nsO j = x.ssO j ∧ (x.stS a9 b9 u9n).nsF j = x.ssF j ∧ (x.stS a9 b9 u9n).nsT j = x.ssT j := fun j hj => ⟨cpy_00 _ _ hj, cpy_00 _ _ hj, cpy_00 _ _ hj⟩
  have cL : ∀ s, s < x.sser → (x.stS a9 b9 u9n).nlast s = x.slast s := fun s hs => cpy_00 _ _ hs
  have cP : ∀ k, k < x.npc → (x.stS a9 b9 u9n).nP k = x.nP k := fun k hk => by
    rw [← i4 k hk]
    exact cpy_00 _ _ (show k < x.spc by rw [i3]; exact hk)
  have vb : vB x (x.stS a9 b9 u9n) := ⟨⟨rfl, rfl, rfl, rfl⟩, ⟨rfl, rfl, rfl, rfl, rfl, rfl⟩, np, cP, j5⟩
  have p1 : ptR m.st2 (x.stS a9 b9 u9n) PS bn := st2_pt h hb ⟨rfl, rfl, rfl, cO, rfl⟩
  have p2 : bsR m.st2 (x.stS a9 b9 u9n) bn := st2_bs hb vb
  have p3 : seR m.st2 (x.stS a9 b9 u9n) := ⟨j2, fun s hs => by
    have hs' : s < x.sser := hs
    rw [cL s hs', ← j3 s hs']
    show mapT m.baseSeries (fun _ => true) m.baseLasts m.lasts s = m.baseLasts s
    rw [mapT_v (by rw [j2]; exact hs'), if_pos rfl]⟩
  have ia : inA (svA x) (x.stS a9 b9 u9n) := ⟨rfl, fun s hs => (cL s hs).symm, rfl, lsF_e (fun i hi => by
    obtain ⟨y1, y2, y3⟩ := cO i hi
    unfold tr3
    rw [y1, y2, y3])⟩
  have er : ∀ r, rpF PS (x.stS a9 b9 u9n).npc (x.stS a9 b9 u9n).nhor (svA x) (x.stS a9 b9 u9n).jK (x.stS a9 b9 u9n).jO (x.stS a9 b9 u9n).jF (x.stS a9 b9 u9n).jS r = rpV PS x r := fun r => by unfold rpV; rw [np, nh]; rfl
  have run := rp_run (fN := fN) (K := x.jkept) p1 p2 p3 ⟨Nat.zero_le _, hN⟩ ia hd ⟨rfl, rfl⟩ (fun r hr => by
    obtain ⟨y1, y2, -, -, y5⟩ := g11 r (by omega)
    exact ⟨y1, y2, y5⟩) (fun r hr => by
    rw [er r]
    obtain ⟨-, y2, y3, y4, -⟩ := ho.2.1 r (by omega)
    exact ⟨y2, y3, y4⟩) (Nat.le_refl _) hz
  have js := joR_s ho hk0 hp (x0 := x.stS a9 b9 u9n) ⟨mk, mk, rfl, rfl, rfl, rfl⟩ ⟨rfl, np, nh⟩ ia ⟨Nat.zero_le _, hN⟩ hz
  rw [g2]
  obtain ⟨u1, u2, u3, ⟨⟨b1, b2, b3, b4, b5, b6, b7, b8, b9', b10, b11, b12⟩, b13⟩, u5, u6⟩ := run
  have dk := dg_k hz
  have ejK : z.jK = x.jK := (congrArg VS.jK dk).trans rfl
  have ejO : z.jO = x.jO := (congrArg VS.jO dk).trans rfl
  have ejU : z.jU = x.jU := (congrArg VS.jU dk).trans rfl
  have ejB : z.jB = x.jB := (congrArg VS.jB dk).trans rfl
  have ejF : z.jF = x.jF := (congrArg VS.jF dk).trans rfl
  have ejS : z.jS = x.jS := (congrArg VS.jS dk).trans rfl
  have fe : fgG m.recordBlocks m.units x.jkept = (a9, b9, u9n) := by
    rw [← hfg]
    exact fg_e (fun i hi => by obtain ⟨-, -, y3, y4, -⟩ := g11 i (by omega); exact ⟨y4, y3⟩)
  refine ⟨u1, u2, u3, ⟨?_, ?_, ?_, ?_, ?_, ?_, ?_, ?_, ?_, ?_, ?_⟩, js.1, b13⟩
  · rw [b7, js.2.1]; exact g2
  · rw [b8, js.2.2]; exact g2
  · rw [u5]; exact (congrArg Prod.fst fe).trans (congrArg VS.jblock dk).symm
  · rw [u6]; exact (congrArg (fun q => q.2.1) fe).trans (congrArg VS.jfill dk).symm
  · rw [b9']; exact (congrArg VS.jch dk).symm
  · rw [b10]; exact g6.trans (congrArg VS.cutLeft dk).symm
  · rw [b11]; exact g7.trans (congrArg VS.writes dk).symm
  · rw [b12]; exact g8.trans (congrArg VS.jlimit dk).symm
  · rw [js.2.1, ejU, ← fg_u x.jB x.jU, hfg]
    exact congrArg VS.junits dk
  · intro _; rw [js.2.1, js.2.2]
  · intro r hr
    rw [js.2.1] at hr
    rw [b1, b2, b3, b4, b5, b6, ejK, ejO, ejU, ejB, ejF, ejS]
    exact g11 r (by omega)
end SA
