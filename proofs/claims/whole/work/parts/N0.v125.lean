/-! The journal done again: both sides, record by record. -/
section RP
variable {m m' : MS} {x x' y : VS} {PS : Nat → PT} {dn bn : Nat → Nat} {r : Nat} {fN : Nat → Nat}
theorem isTm_i {a : Int64} (h : isTm a = true) : ¬ a < 0 ∧ ¬ 1099511627775 < a := by
  unfold isTm at h
  rw [Bool.and_eq_true, nd, nd] at h
  exact h
/-- a last time is later -/
theorem ptR_la (h : ptR m x PS dn) (h1 : mP m m') (hm : m'.points = m.points ∧ m'.pointSeries = m.pointSeries ∧ m'.pointTimes = m.pointTimes ∧ m'.pointValues = m.pointValues ∧ m'.places = m.places ∧ m'.hidden = m.hidden ∧ m'.deletes = m.deletes) (hs : m.seriesCount ≤ m'.seriesCount ∧ ∀ s, s < m.seriesCount → ¬ m'.lasts s < m.lasts s) (h3 : vP x x') (h4 : vH x x') : ptR m' x' PS dn := by
  obtain ⟨a1, a2, a3, a4, a5⟩ := h1
  obtain ⟨b1, b2, b3, b4, b5, b6, b7⟩ := hm
  obtain ⟨c1, c2, c3, c4, c5, c6⟩ := h3
  obtain ⟨d1, d2, d3, d4⟩ := h4
  have e1 : m'.hdd = m.hdd := by funext q; unfold MS.hdd; rw [b5]
  have e2 : m'.inpc = m.inpc := by funext k q; unfold MS.inpc; rw [b5, a2]
  have e3 : m'.pkd = m.pkd := by funext q; unfold MS.pkd; rw [b5]
  unfold ptR at h ⊢
  rw [a1, a2, a3, a4, a5, b1, b2, b3, b4, b5, b6, b7, c1, c2, c3, c4, c5, c6, d1, d2, d3, d4, e1, e2, e3]
  obtain ⟨g, i, j, k, ⟨l1, l2, l3⟩, n1⟩ := h
  refine ⟨g, i, j, k, ⟨l1, fun q hq e => ?_, l3⟩, n1⟩
  obtain ⟨y1, y2⟩ := l2 q hq e
  exact ⟨by have := hs.1; omega, fun z => y2 (Int64.lt_of_le_of_lt (Int64.not_lt.mp (hs.2 _ y1)) z)⟩
theorem go_pk {w : Nat} {a b : Int64} {q : Nat} (hq : q < m.points) : (m.goS w a b).pkd q = m.pkd q := by
  unfold MS.pkd
  show (!decide (mapT m.points (m.hit w a b) m.gP m.places q < 0)) = _
  rw [mapT_v hq]
  split
  · unfold MS.gP
    by_cases e : m.places q < 0
    · rw [if_pos e, decide_eq_true e]; rfl
    · rw [if_neg e]
  · rfl
/-- what a record done again leaves -/
def rfK (m m' : MS) (d : Nat) : Prop := (m'.kinds = m.kinds ∧ m'.recordSeries = m.recordSeries ∧ m'.firsts = m.firsts ∧ m'.seconds = m.seconds ∧ m'.units = m.units ∧ m'.recordBlocks = m.recordBlocks ∧ m'.records = m.records ∧ m'.kept = m.kept ∧ m'.fresh = m.fresh ∧ m'.cutLeft = m.cutLeft ∧ m'.written = m.written ∧ m'.journal = m.journal) ∧ m'.deletes ≤ m.deletes + d
def seR (m : MS) (x : VS) : Prop := m.seriesCount = x.nser ∧ ∀ s, s < x.nser → m.lasts s = x.nlast s
theorem vB_cm (x : VS) (pa : Nat → Nat) (w : Nat) (a b : Int64) : vB x (x.cmF pa w a b) := by
  unfold VS.cmF
  split
  · exact ⟨⟨rfl, rfl, rfl, rfl⟩, ⟨rfl, rfl, rfl, rfl, rfl, rfl⟩, rfl, fun _ _ => rfl, rfl⟩
  · unfold VS.haF
    split
    · exact ⟨⟨rfl, rfl, rfl, rfl⟩, ⟨rfl, rfl, rfl, rfl, rfl, rfl⟩, rfl, fun _ _ => rfl, rfl⟩
    · exact ⟨⟨rfl, rfl, rfl, rfl⟩, ⟨rfl, rfl, rfl, rfl, rfl, rfl⟩, rfl, fun _ _ => rfl, rfl⟩
theorem vP_ha (x : VS) (pa : Nat → Nat) (w : Nat) (a b : Int64) : vP x (x.haF pa w a b) := by
  unfold VS.haF
  split
  · exact ⟨rfl, rfl, rfl, rfl, rfl, rfl⟩
  · exact ⟨rfl, rfl, rfl, rfl, rfl, rfl⟩
theorem la_up {w : Nat} {a : Int64} (hs : seR m x) (h1 : m'.seriesCount = m.seriesCount ∧ m'.lasts = va_up m.lasts w a) (h2 : y.nser = x.nser ∧ y.nlast = va_up x.nlast w a) : seR m' y := by
  refine ⟨by rw [h1.1, h2.1]; exact hs.1, fun s h => ?_⟩
  rw [h2.1] at h
  rw [h1.2, h2.2]
  by_cases z : s = w
  · subst z; rw [va_up_self, va_up_self]
  · rw [va_up_ne _ _ z, va_up_ne _ _ z]; exact hs.2 s h
theorem rp_step (h : ptR m x PS dn) (hb : bsR m x bn) (hs : seR m x) (hN : x.hsize ≤ x.hN ∧ 0 < x.hN) (hd : m.deletes < 2 ^ 29) (hr : m.kinds r = nI (x.jK r) ∧ m.recordSeries r = x.jO r ∧ (¬ x.jK r = 0 → m.firsts r = x.jF r ∧ m.seconds r = x.jS r)) (h0 : x.jK r = 0 → x.jO r = x.nser) (h1 : ¬ x.jK r = 0 → x.jO r < x.nser) (h2 : x.jK r = 1 → isTm (x.jF r) = true ∧ x.nlast (x.jO r) < x.jF r) (e : dgS PS x y r) : (∃ dn', ptR (m.rp1 fN r) y PS dn') ∧ bsR (m.rp1 fN r) y bn ∧ seR (m.rp1 fN r) y ∧ rfK m (m.rp1 fN r) 1 := by
  obtain ⟨r1, r2, r3⟩ := hr
  have hho : m.horizon = x.nhor := h.1.2.2.1
  have bl : m.baseSeries ≤ m.seriesCount := hb.2.2.2.2.2.1
  rcases e with ⟨k, e⟩ | ⟨k, pa, e⟩ | ⟨k, z, e⟩ | ⟨k, z, e⟩
  · rw [k] at r1
    have w := h0 k
    have em : m.rp1 fN r = (m.rp0 r).nwS (x.jO r) (fN r) := by unfold MS.rp1; rw [if_pos (show m.kinds r = 0 by rw [r1]; decide), r2]
    rw [em, e, w]
    have la : ∀ s, s < x.nser → va_up m.lasts x.nser (-1) s = m.lasts s := fun s hs => va_up_ne _ _ (Nat.ne_of_lt hs)
    refine ⟨⟨dn, ptR_new h ⟨rfl, rfl, rfl, rfl, rfl⟩ ⟨rfl, rfl, rfl, rfl, rfl, rfl, rfl⟩ ⟨?_, fun s h9 => la s (by rw [← hs.1]; exact h9)⟩ ⟨rfl, rfl, rfl, rfl, rfl, rfl⟩ ⟨rfl, rfl, rfl, rfl⟩⟩, bsR_p hb ⟨rfl, rfl, rfl, rfl⟩ (fun _ _ => rfl) ⟨rfl, rfl, rfl, rfl, ?_, Nat.le_refl _⟩ ⟨⟨rfl, rfl, rfl, rfl⟩, ⟨rfl, rfl, rfl, rfl, rfl, rfl⟩, rfl, fun _ _ => rfl, rfl⟩, ⟨rfl, fun s h9 => ?_⟩, ⟨rfl, rfl, rfl, rfl, rfl, rfl, rfl, rfl, rfl, rfl, rfl, rfl⟩, Nat.le_succ _⟩
    · show m.seriesCount ≤ x.nser + 1
      rw [hs.1]; omega
    · show m.baseSeries ≤ x.nser + 1
      rw [hs.1] at bl; omega
    · show va_up m.lasts x.nser (-1) s = va_up x.nlast x.nser (-1) s
      by_cases g : s = x.nser
      · rw [g, va_up_self, va_up_self]
      · rw [va_up_ne _ _ g, va_up_ne _ _ g]
        exact hs.2 s (by have : s < x.nser + 1 := h9; omega)
  · have hw := h1 (by rw [k]; decide)
    obtain ⟨t1, t2⟩ := h2 k
    obtain ⟨f1, f2⟩ := r3 (by rw [k]; decide)
    rw [k] at r1
    have hl : m.lasts (x.jO r) < x.jF r := by rw [hs.2 _ hw]; exact t2
    have ck := cmF_k x pa (x.jO r) (x.jF r) (x.jS r)
    obtain ⟨-, -, -, -, -, -, c7, c8, -⟩ := ck
    have vb := vB_cm x pa (x.jO r) (x.jF r) (x.jS r)
    rw [← e] at c7 c8 vb
    by_cases g : x.jF r < x.nhor
    · have em : m.rp1 fN r = (m.rp0 r).com0S (x.jO r) (x.jF r) := by unfold MS.rp1; rw [if_neg (by rw [r1]; decide), if_pos (show m.kinds r = 1 by rw [r1]; decide), f1, r2, hho, if_pos g]
      rw [em]
      have ey : y = VS.s_nlast x (va_up x.nlast (x.jO r) (x.jF r)) := by rw [e]; exact if_pos g
      refine ⟨⟨dn, ptR_la h ⟨rfl, rfl, rfl, rfl, rfl⟩ ⟨rfl, rfl, rfl, rfl, rfl, rfl, rfl⟩ ⟨Nat.le_refl _, fun s h9 => ?_⟩ (by rw [ey]; exact ⟨rfl, rfl, rfl, rfl, rfl, rfl⟩) (by rw [ey]; exact ⟨rfl, rfl, rfl, rfl⟩)⟩, bsR_p hb ⟨rfl, rfl, rfl, rfl⟩ (fun _ _ => rfl) ⟨rfl, rfl, rfl, rfl, bl, Nat.le_refl _⟩ vb, la_up hs ⟨rfl, rfl⟩ ⟨c7, c8⟩, ⟨rfl, rfl, rfl, rfl, rfl, rfl, rfl, rfl, rfl, rfl, rfl, rfl⟩, Nat.le_succ _⟩
      show ¬ va_up m.lasts (x.jO r) (x.jF r) s < m.lasts s
      by_cases q : s = x.jO r
      · rw [q, va_up_self]; exact Int64.not_lt.mpr (Int64.le_of_lt hl)
      · rw [va_up_ne _ _ q]; exact Int64.lt_irrefl
    · have em : m.rp1 fN r = (m.rp0 r).comS (x.jO r) (x.jF r) (x.jS r) := by unfold MS.rp1; rw [if_neg (by rw [r1]; decide), if_pos (show m.kinds r = 1 by rw [r1]; decide), f1, f2, r2, hho, if_neg g]
      rw [em]
      have ey : y = (VS.s_nlast x (va_up x.nlast (x.jO r) (x.jF r))).haF pa (x.jO r) (x.jF r) (x.jS r) := by rw [e]; exact if_neg g
      obtain ⟨a1, a2, a3, a4⟩ := haF_at (VS.s_nlast x (va_up x.nlast (x.jO r) (x.jF r))) pa (x.jO r) (x.jF r) (x.jS r) hN.1 hN.2
      obtain ⟨-, -, -, -, -, -, -, b8, -⟩ := haF_b (VS.s_nlast x (va_up x.nlast (x.jO r) (x.jF r))) pa (x.jO r) (x.jF r) (x.jS r)
      have vp := vP_ha (VS.s_nlast x (va_up x.nlast (x.jO r) (x.jF r))) pa (x.jO r) (x.jF r) (x.jS r)
      rw [← ey] at a1 a2 a3 a4 b8 vp
      exact ⟨⟨dn, ptR_come h ⟨rfl, rfl, rfl, rfl, rfl⟩ vp ⟨rfl, rfl, rfl, rfl, rfl, rfl, rfl, rfl, rfl⟩ ⟨b8, a1, a2, a3, a4⟩ (by rw [hs.1]; exact hw) (by rw [hho]; exact g) hl (isTm_i t1)⟩, bsR_come hb ⟨rfl, rfl, rfl, rfl, rfl⟩ ⟨rfl, rfl, rfl, rfl, bl, Nat.le_refl _⟩ vb, la_up hs ⟨rfl, rfl⟩ ⟨c7, c8⟩, ⟨rfl, rfl, rfl, rfl, rfl, rfl, rfl, rfl, rfl, rfl, rfl, rfl⟩, Nat.le_succ _⟩
  · have hw := h1 (by rw [k]; decide)
    obtain ⟨f1, f2⟩ := r3 (by rw [k]; decide)
    rw [k] at r1
    have em : m.rp1 fN r = (m.rp0 r).goS (x.jO r) (x.jF r) (x.jS r) := by unfold MS.rp1; rw [if_neg (by rw [r1]; decide), if_neg (by rw [r1]; decide), f1, f2, r2]
    rw [em, e]
    exact ⟨ptR_go h ⟨rfl, rfl, rfl, rfl, rfl⟩ ⟨rfl, rfl, rfl, rfl, rfl, rfl, rfl, rfl, rfl⟩ (hs.2 _ hw) hd ⟨rfl, rfl, rfl, rfl, rfl, rfl⟩ (Or.inl ⟨z, rfl, rfl, rfl, rfl⟩), bsR_p hb ⟨rfl, rfl, rfl, rfl⟩ (fun q hq => go_pk (m := m.rp0 r) hq) ⟨rfl, rfl, rfl, rfl, bl, Nat.le_succ _⟩ ⟨⟨rfl, rfl, rfl, rfl⟩, ⟨rfl, rfl, rfl, rfl, rfl, rfl⟩, rfl, fun _ _ => rfl, rfl⟩, hs, ⟨rfl, rfl, rfl, rfl, rfl, rfl, rfl, rfl, rfl, rfl, rfl, rfl⟩, Nat.le_refl _⟩
  · have hw := h1 (by rw [k]; decide)
    obtain ⟨f1, f2⟩ := r3 (by rw [k]; decide)
    rw [k] at r1
    have em : m.rp1 fN r = (m.rp0 r).goS (x.jO r) (x.jF r) (x.jS r) := by unfold MS.rp1; rw [if_neg (by rw [r1]; decide), if_neg (by rw [r1]; decide), f1, f2, r2]
    rw [em, e]
    exact ⟨ptR_go h ⟨rfl, rfl, rfl, rfl, rfl⟩ ⟨rfl, rfl, rfl, rfl, rfl, rfl, rfl, rfl, rfl⟩ (hs.2 _ hw) hd ⟨rfl, rfl, rfl, rfl, rfl, rfl⟩ (Or.inr ⟨z, rfl, rfl, rfl, rfl⟩), bsR_p hb ⟨rfl, rfl, rfl, rfl⟩ (fun q hq => go_pk (m := m.rp0 r) hq) ⟨rfl, rfl, rfl, rfl, bl, Nat.le_succ _⟩ ⟨⟨rfl, rfl, rfl, rfl⟩, ⟨rfl, rfl, rfl, rfl, rfl, rfl⟩, rfl, fun _ _ => rfl, rfl⟩, hs, ⟨rfl, rfl, rfl, rfl, rfl, rfl, rfl, rfl, rfl, rfl, rfl, rfl⟩, Nat.le_refl _⟩
end RP
