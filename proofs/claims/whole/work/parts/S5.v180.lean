/-! A function's table: what the class's picking leaves. -/
section PG
variable {dA : Nat → ClassId} {pl : va_W} {SS : Nat → List LB} {kn kn' : Nat → Option Nat} {n nm : Nat} {NL : Nat → List Int32} {KD : Nat → Int32} {MN MT : Nat → List Int32} {g g' : PKS}
theorem pkG_a (hkn : knOk dA kn n pl SS) (h0 : g.1.rc = 0) : ∀ i, i ≤ n → rsOk dA pl (pkG NL nm KD MN MT SS kn g i).1.rs (pkG NL nm KD MN MT SS kn g i).1.rc (pkG NL nm KD MN MT SS kn g i).2.1 ∧ (pkG NL nm KD MN MT SS kn g i).1.rc ≤ 256 ∧ (pkG NL nm KD MN MT SS kn g i).1.nc = g.1.nc ∧ (pkG NL nm KD MN MT SS kn g i).1.nm = g.1.nm ∧ (pkG NL nm KD MN MT SS kn g i).1.wi = g.1.wi ∧ (pkG NL nm KD MN MT SS kn g i).1.cN = g.1.cN
  | 0, _ => ⟨fun q hq => by
      have hq : q < g.1.rc := hq
      omega, by show g.1.rc ≤ 256; omega, rfl, rfl, rfl, rfl⟩
  | i + 1, hi => by
    obtain ⟨i1, i2, i3, i4, i5, i6⟩ := pkG_a hkn h0 i (by omega)
    obtain ⟨a, k1, k2, k3⟩ := hkn i (by omega)
    unfold pkG
    split
    · obtain ⟨r1, r2, r3, r4, r5, r6, -⟩ := rsOk_ad (NL := NL) (a := (kn i).getD 0) i1 (by rw [k1]; exact k2) k3 i2
      exact ⟨r1, r2, r3.trans i3, r4.trans i4, r5.trans i5, r6.trans i6⟩
    · exact ⟨i1, i2, i3, i4, i5, i6⟩
theorem adT_rc {t : TB} {RS : Nat → List LB} {S : List LB} {a : Nat} : (adT NL t RS S a).rc = (if t.rc = 256 ∨ (plT NL t.nc t.rc RS S < t.rc ∧ cmT NL t.nc (RS (plT NL t.nc t.rc RS S)) S = 0) then t.rc else t.rc + 1) ∧ (adT NL t RS S a).nc = t.nc := by
  unfold adT
  split
  · exact ⟨rfl, rfl⟩
  · exact ⟨rfl, rfl⟩
theorem pkG_sh (h1 : g.1.rc = g'.1.rc) (h2 : g.1.nc = g'.1.nc) (h3 : g.2.1 = g'.2.1) : ∀ i, (pkG NL nm KD MN MT SS kn g i).1.rc = (pkG NL nm KD MN MT SS kn' g' i).1.rc ∧ (pkG NL nm KD MN MT SS kn g i).1.nc = (pkG NL nm KD MN MT SS kn' g' i).1.nc ∧ (pkG NL nm KD MN MT SS kn g i).2.1 = (pkG NL nm KD MN MT SS kn' g' i).2.1
  | 0 => ⟨h1, h2, h3⟩
  | i + 1 => by
    obtain ⟨i1, i2, i3⟩ := pkG_sh h1 h2 h3 i
    unfold pkG
    generalize pkG NL nm KD MN MT SS kn g i = A at i1 i2 i3
    generalize pkG NL nm KD MN MT SS kn' g' i = B at i1 i2 i3
    split
    · show (adT NL A.1 A.2.1 (SS i) ((kn i).getD 0)).rc = (adT NL B.1 B.2.1 (SS i) ((kn' i).getD 0)).rc ∧ (adT NL A.1 A.2.1 (SS i) ((kn i).getD 0)).nc = (adT NL B.1 B.2.1 (SS i) ((kn' i).getD 0)).nc ∧ adRS NL A.1 A.2.1 (SS i) = adRS NL B.1 B.2.1 (SS i)
      unfold adRS
      rw [adT_rc.1, adT_rc.1, adT_rc.2, adT_rc.2, i1, i2, i3]
      exact ⟨rfl, rfl, rfl⟩
    · exact ⟨i1, i2, i3⟩
end PG
/-- how many rows a function's table has before empty ones are dropped -/
def rwN (s : SP1) (SS : Nat → List LB) (n : Nat) : Nat := (pkG s.2.2.2.2.1 s.2.2.2.2.2.1 s.2.2.2.2.2.2.1 s.2.2.2.2.2.2.2.1 s.2.2.2.2.2.2.2.2 SS (fun _ => none) (TB.s_nc (tb0 0) s.2.2.2.1, fun _ => [], fun _ => 0, fun _ => false) n).1.rc
section MB
variable {fn : Int32} {x : VS} {PS : Nat → PT} {t : TB}
theorem mm1_bo {M : MM} {o : Nat} {tm v : Int64} (h : ∀ k, M.2.2.2.2 k < 256) (ho : o < 256) : ∀ k, (mm1 fn x M o tm v).2.2.2.2 k < 256 := mqO_l (x := x.pb M) h ho
theorem mmA_bo (h : ∀ k, x.bO k < 256) (h1 : ∀ k, k < x.npc → ∀ i, i < (PS k).n → (PS k).o i < 256) (h2 : ∀ i, i < x.hsize → x.hO i < 256) : ∀ k, (mmA fn x PS t).2.2.2.2 k < 256 := by
  have sP : ∀ k, k < x.npc → ∀ M : MM, (∀ q, M.2.2.2.2 q < 256) → ∀ i, i ≤ (PS k).n → ∀ q, (mmP fn x (PS k) M i).2.2.2.2 q < 256 := fun k hkn M hM i => by
    induction i with
    | zero => exact fun _ => hM
    | succ i ih =>
      intro hi
      unfold mmP
      split
      · exact mm1_bo (ih (by omega)) (h1 k hkn i (by omega))
      · exact ih (by omega)
  have sK : ∀ k, k ≤ x.npc → ∀ q, (mmK fn x PS (x.m0 t) k).2.2.2.2 q < 256 := fun k => by
    induction k with
    | zero => exact fun _ => h
    | succ k ih => exact fun hkn => sP k (by omega) _ (ih (by omega)) _ (Nat.le_refl _)
  have sH : ∀ i, i ≤ x.hsize → ∀ q, (mmH fn x (mmK fn x PS (x.m0 t) x.npc) i).2.2.2.2 q < 256 := fun i => by
    induction i with
    | zero => exact fun _ => sK x.npc (Nat.le_refl _)
    | succ i ih =>
      intro hi
      unfold mmH
      split
      · exact mm1_bo (ih (by omega)) (h2 i (by omega))
      · exact ih (by omega)
  exact sH x.hsize (Nat.le_refl _)
end MB
theorem clT_n (t : TB) (q : Nat) : (clT t q).cN = gwN (t.rc * t.wi) t.cN := by
  unfold clT gwN
  split <;> rfl
section PT2
variable {dA : Nat → ClassId} {z : MS} {x : VS} {PS : Nat → PT} {dn : Nat → Nat} {SS : Nat → List LB} {NL : Nat → List Int32} {nn nm wh p : Nat} {KD : Nat → Int32} {MN MT : Nat → List Int32} {t : TB} {nu : Int64} {v9 : PKT}
theorem pk_own (hp : ptR z x PS dn) (h256 : ∀ q, q < z.points → z.pointSeries q < 256) : (∀ k, k < x.npc → ∀ i, i < (PS k).n → (PS k).o i < 256) ∧ ∀ i, i < x.hsize → x.hO i < 256 := by
  refine ⟨fun k hkn i hi => ?_, fun i hi => ?_⟩
  · obtain ⟨q, q1, q2, q3, q4⟩ := arr_ix (hp.1.2.2.2 k hkn).1 (W := z.seriesCount) (fun q hq hc => in_se hp hkn hq hc) hi
    rw [q3]
    exact h256 q q1
  · obtain ⟨l1, l2⟩ := hp.1.1
    rw [l1] at hi
    obtain ⟨q, q1, q2, q3⟩ := cnt_at hi
    have := (l2 q q1 q2).1
    rw [q3] at this
    rw [this]
    exact h256 q q1
theorem pk_T (h : pkF dA t x nu nn NL nm KD MN MT SS PS v9) (hn : nmRe z z.pile nn NL) (hnn : nn ≤ 6) (hx : txR z.texts z.textLengths z.seriesCount SS) (hg : ∀ q, q < z.seriesCount → serG (SS q)) (h256 : z.seriesCount ≤ 256) (hps : ∀ q, q < z.points → z.pointSeries q < 256) (hm : ∀ s, s < z.seriesCount → ∀ v, ((MS.s_valueLength z v).mt s p).1 = pkT nm KD MN MT SS s) (hnu : nu.toInt32 = nI wh) (hwh : wh < 7) (hk : wiK z) (hp : ptR z x PS dn) (hX : x.afr = z.windowsFrom ∧ x.awd = z.width ∧ x.awi = z.windows) (hns : x.nser = z.seriesCount) (hkn : knOk dA x.kn x.nser x.pl SS) (hc : t.cN ≤ 32768) (hb : x.bN ≤ 32768) (hbo : ∀ k, x.bO k < 256) {R : Nat} (hR : R = (pkG NL nm KD MN MT SS x.kn (TB.s_rc (TB.s_wi (TB.s_nc t nn) x.awi) 0, fun _ => [], x.aro, x.ahb) x.nser).1.rc) :
    R ≤ 256 ∧ (∃ RS', tabR (z.rkS wh p) z.pile v9.1 NL RS' SS ∧ tbK dA x.pl z.windows v9.1 NL RS') ∧ v9.1.cN = gwN (R * z.windows) t.cN ∧ v9.2.2.2.2.2.1 = gwN (R * z.windows) x.bN ∧ ∀ k, v9.2.2.2.2.2.2.2.1 k < 256 := by
  obtain ⟨Tf, aro1, ahb1, abf1, bA1, bN1, bT1, bO1, nm1, T1, RS1, ar1, hb1, T2, bT0, bO0, T3⟩ := v9
  obtain ⟨f1, f2, f3, ⟨q0, f4⟩, f5, f6, f7, f8⟩ := h
  have f1 : nmOk dA x.pl nm1 nn NL := f1
  have f2 : (T1, RS1, ar1, hb1) = pkG NL nm KD MN MT SS x.kn (TB.s_rc (TB.s_wi (TB.s_nc (TB.s_nm t nm1) nn) x.awi) 0, fun _ => [], x.aro, x.ahb) x.nser := f2
  have f3 : aro1 = pkR NL SS T1.nc T1.rc RS1 ar1 x.nser := f3
  have f4 : T2 = clT T1 q0 := f4
  have f5 : beR (VS.s_ahb (VS.s_aro x aro1) hb1) (T2.rc * x.awi) (bA1, bN1, bT0, bO0) := f5
  obtain ⟨X, eX⟩ : ∃ X, X = VS.s_bO (VS.s_bT (VS.s_bN (VS.s_bA (VS.s_ahb (VS.s_aro x aro1) hb1) bA1) bN1) bT0) bO0 := ⟨_, rfl⟩
  have f6 : (T3, ahb1, abf1, bT1, bO1) = mmA nu.toInt32 X PS T2 := by rw [eX]; exact f6
  have f7 : Tf = T3.de := f7
  have f8 : rsAll dA x.pl T3.rs := f8
  obtain ⟨g1, g2, g3, g4, g5, g6⟩ := pkG_a (NL := NL) (nm := nm) (KD := KD) (MN := MN) (MT := MT) (g := (TB.s_rc (TB.s_wi (TB.s_nc (TB.s_nm t nm1) nn) x.awi) 0, fun _ => [], x.aro, x.ahb)) hkn rfl x.nser (Nat.le_refl _)
  obtain ⟨s1, -, -⟩ := pkG_sh (NL := NL) (nm := nm) (KD := KD) (MN := MN) (MT := MT) (SS := SS) (kn := x.kn) (kn' := x.kn) (g := (TB.s_rc (TB.s_wi (TB.s_nc (TB.s_nm t nm1) nn) x.awi) 0, fun _ => [], x.aro, x.ahb)) (g' := (TB.s_rc (TB.s_wi (TB.s_nc t nn) x.awi) 0, fun _ => [], x.aro, x.ahb)) rfl rfl rfl x.nser
  rw [← hR] at s1
  rw [← f2] at g1 g2 g3 g4 g5 g6 s1
  have g1 : rsOk dA x.pl T1.rs T1.rc RS1 := g1
  have g2 : T1.rc ≤ 256 := g2
  have g3 : T1.nc = nn := g3
  have g4 : T1.nm = nm1 := g4
  have g5 : T1.wi = x.awi := g5
  have g6 : T1.cN = t.cN := g6
  have s1 : T1.rc = R := s1
  obtain ⟨c1, c2, c3, c4, c5, c6⟩ := clT_k T1 q0
  rw [← f4] at c1 c2 c3 c4 c5 c6
  have h64 : z.windows ≤ 64 := hk.1
  have rw16 : R * z.windows ≤ 16384 := rw_le (by omega) h64
  have cn2 : T2.cN = gwN (R * z.windows) t.cN := by rw [f4, clT_n, s1, g5, hX.2.2, g6]
  have T3e : T3 = (mmA nu.toInt32 X PS T2).1 := congrArg (fun w => w.1) f6
  have bOe : bO1 = (mmA nu.toInt32 X PS T2).2.2.2.2 := congrArg (fun w => w.2.2.2.2) f6
  obtain ⟨m1, m2, m3, m4⟩ := mmA_k nu.toInt32 X PS T2
  rw [← T3e] at m1 m2 m3 m4
  obtain ⟨o1, o2⟩ := pk_own hp hps
  have pX : ptR z X PS dn := by rw [eX]; exact hp
  obtain ⟨φ, r1, r2⟩ := rk_tab (q0 := q0) (T1 := T1) (RS1 := RS1) (ar1 := ar1) (hb1 := hb1) (kn := x.kn) (X := X) (PS := PS) (dn := dn) hn hnn hx hg h256 hm (g0 := (TB.s_rc (TB.s_wi (TB.s_nc (TB.s_nm t nm1) nn) x.awi) 0, fun _ => [], x.aro, x.ahb)) ⟨rfl, rfl, hX.2.2⟩ hwh hk pX (by rw [eX]; exact hX) (by rw [← hns]; exact f2.symm) (by rw [eX, ← hns]; exact f3) (by rw [eX])
  rw [← f4, ← hnu, ← T3e, ← f7] at r1 r2
  obtain ⟨d1, d2, d3, d4, d5, d6, d7⟩ := deG_k T3 T3.rc
  have X2 : X.afr = x.afr ∧ X.awi = x.awi ∧ X.bO = bO0 ∧ X.npc = x.npc ∧ X.hsize = x.hsize ∧ X.hO = x.hO ∧ X.awd = x.awd ∧ X.hT = x.hT := by rw [eX]; exact ⟨rfl, rfl, rfl, rfl, rfl, rfl, rfl, rfl⟩
  have tmB : ∀ q, q < z.points → z.pointTimes q ≤ 1099511627775 := fun q hq => Int64.not_lt.mp (hp.2.2.2.2.2 q hq).2
  have wk : ∀ tm : Int64, tm ≤ 1099511627775 → wOk X.afr X.awd X.awi tm := fun tm htm => by
    rw [X2.1, X2.2.1, hX.1, hX.2.2]
    exact wOk_of h64 hk.2.2.1 htm
  obtain ⟨k1, k2, k3, k4, -⟩ := mmA_2 (fn := nu.toInt32) (x := X) (PS := PS) (t := T2) (by rw [c1, g5, X2.2.1]) (by rw [X2.2.1, hX.2.2]; exact h64) (fun k hkn i hi => wk _ (by
    rw [X2.2.2.2.1] at hkn
    obtain ⟨q, q1, q2, q3, q4⟩ := arr_ix (hp.1.2.2.2 k hkn).1 (W := z.seriesCount) (fun q hq hc => in_se hp hkn hq hc) hi
    rw [q4]
    exact tmB q q1)) (fun i hi => wk _ (by
    rw [X2.2.2.2.2.1] at hi
    rw [X2.2.2.2.2.2.2.2]
    obtain ⟨l1, l2⟩ := hp.1.1
    rw [l1] at hi
    obtain ⟨q, q1, q2, q3⟩ := cnt_at hi
    have := (l2 q q1 q2).2.1
    rw [q3] at this
    rw [this]
    exact tmB q q1)) (fun r hr w _ hw => by
    have := (clTz_k T1 q0).2.2.2.1
    rw [← f4] at this
    rw [this r (by omega)]
    exact hb_0 hw)
  rw [← T3e] at k1 k2 k3 k4
  have en : Tf.nm = nm1 := by rw [f7]; exact d5.trans (k4.trans (c4.trans g4))
  have ec : Tf.nc = nn := by rw [f7]; exact d6.trans (k3.trans (c5.trans g3))
  have ew : Tf.wi = z.windows := by rw [f7]; exact d1.trans (k1.trans (c1.trans (g5.trans hX.2.2)))
  have eN : Tf.cN = gwN (R * z.windows) t.cN := by rw [f7]; exact d3.trans (m3.trans cn2)
  have erc : Tf.rc ≤ R := by
    rw [f7]
    show (deG T3 T3.rc).1 ≤ R
    omega
  have gb := gwN_b (R := R * z.windows) hc rw16
  refine ⟨by omega, ⟨fun q => RS1 (φ q), r1, ?_⟩, eN, ?_, ?_⟩
  · show tbK dA x.pl z.windows Tf NL (fun q => RS1 (φ q))
    refine ⟨by rw [en, ec]; exact f1, by omega, fun _ => ?_, ?_, by omega, ew, ?_, by rw [eN]; omega, r1.2.2.2.1⟩
    · intro q hq
      obtain ⟨p1, p2⟩ := r2 q hq
      obtain ⟨a, a1, a2⟩ := g1 (φ q) (by omega)
      exact ⟨a, by rw [p2, m4, c3]; exact a1, a2⟩
    · rw [f7]
      exact rsAll_de f8 T3.rc
    · rw [ew, eN]
      have : Tf.rc * z.windows ≤ R * z.windows := Nat.mul_le_mul_right _ erc
      unfold gwN
      split <;> omega
  · show bN1 = _
    have e : T2.rc * x.awi = R * z.windows := by rw [c2, s1, hX.2.2]
    rw [e] at f5
    unfold gwN
    rcases f5 with ⟨b1, b2⟩ | ⟨b1, b2, -, -⟩
    · have b2 : (bA1, bN1, bT0, bO0) = (x.bA, x.bN, x.bT, x.bO) := b2
      rw [if_pos (show R * z.windows ≤ x.bN from b1)]
      exact congrArg (fun w => w.2.1) b2
    · rw [if_neg (show ¬ R * z.windows ≤ x.bN from Nat.not_le.mpr b1)]
      exact b2
  · show ∀ k, bO1 k < 256
    rw [bOe]
    have b0 : ∀ k, bO0 k < 256 := by
      rcases f5 with ⟨b1, b2⟩ | ⟨b1, -, -, b3⟩
      · have b2 : (bA1, bN1, bT0, bO0) = (x.bA, x.bN, x.bT, x.bO) := b2
        have e : bO0 = x.bO := congrArg (fun w => w.2.2.2) b2
        rw [e]
        exact hbo
      · have b3 : bO0 = fun _ => 0 := b3
        rw [b3]
        exact fun _ => (show (0 : Nat) < 256 by decide)
    exact mmA_bo (by rw [X2.2.2.1]; exact b0) (by rw [X2.2.2.2.1]; exact o1) (by rw [X2.2.2.2.2.1, X2.2.2.2.2.2.1]; exact o2)
end PT2
