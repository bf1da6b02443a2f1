/-! The journal done again: an abstract state. -/
def lsF {α : Type} (n : Nat) (f : Nat → α) : List α := (List.range n).map f
theorem lsF_s {α : Type} (n : Nat) (f : Nat → α) : lsF (n + 1) f = lsF n f ++ [f n] := by
  unfold lsF
  rw [List.range_succ, List.map_append]
  rfl
theorem lsF_e {α : Type} {n : Nat} {f g : Nat → α} (h : ∀ i, i < n → f i = g i) : lsF n f = lsF n g := by
  unfold lsF
  exact List.map_congr_left (fun i hi => h i (List.mem_range.mp hi))
theorem lsF_l {α : Type} (n : Nat) (f : Nat → α) : (lsF n f).length = n := by unfold lsF; rw [List.length_map, List.length_range]
theorem lsF_up {α : Type} (n : Nat) (f : Nat → α) (v : α) : lsF (n + 1) (va_up f n v) = lsF n f ++ [v] := by
  rw [lsF_s, va_up_self, lsF_e (fun i hi => va_up_ne _ _ (Nat.ne_of_lt hi))]
theorem lsF_td {α : Type} (d : Nat → Bool) (f : Nat → α) : ∀ n, lsF (cnt n d) (tdT d f n) = ((List.range n).filter d).map f
  | 0 => rfl
  | n + 1 => by
    rw [List.range_succ, List.filter_append, List.map_append, ← lsF_td d f n]
    cases e : d n with
    | true =>
      rw [cnt_t e, tdT_t e rfl, lsF_up]
      simp [e]
    | false =>
      rw [cnt_f e, tdT_f e]
      simp [e]
theorem lsF_fl {α : Type} {P : α → Bool} {d : Nat → Bool} {f : Nat → α} {n : Nat} (h : ∀ i, i < n → d i = P (f i)) : lsF (cnt n d) (tdT d f n) = (lsF n f).filter P := by
  rw [lsF_td]
  unfold lsF
  rw [List.filter_map]
  congr 1
  refine List.filter_congr (fun i hi => ?_)
  exact h i (List.mem_range.mp hi)
abbrev HP3 : Type := Nat × Int64 × Int64
def tr3 (o : Nat → Nat) (t v : Nat → Int64) (i : Nat) : HP3 := (o i, t i, v i)
theorem td3 (d : Nat → Bool) (o : Nat → Nat) (t v : Nat → Int64) : ∀ n, tdT d (tr3 o t v) n = tr3 (tdT d o n) (tdT d t n) (tdT d v n)
  | 0 => rfl
  | n + 1 => by
    cases e : d n with
    | true =>
      rw [tdT_t (f := tr3 o t v) e rfl, tdT_t (f := o) e rfl, tdT_t (f := t) e rfl, tdT_t (f := v) e rfl, td3 d o t v n]
      funext i
      unfold tr3 va_up
      split <;> rfl
    | false => rw [tdT_f e, tdT_f e, tdT_f e, tdT_f e, td3 d o t v n]
/-- number of series, last times, head, scars -/
abbrev AS4 : Type := Nat × (Nat → Int64) × List HP3 × List HP3
def wiB (w : Nat) (a b : Int64) (p : HP3) : Bool := decide (p.1 = w) && (!decide (p.2.1 < a) && !decide (b < p.2.1))
def cvL (s : List HP3) (w : Nat) (t : Int64) : Bool := s.any (fun c => decide (c.1 = w) && (!decide (t < c.2.1) && !decide (c.2.2 < t)))
def hitB (PS : Nat → PT) (npc : Nat) (hor : Int64) (s : List HP3) (w : Nat) (a b : Int64) : Bool := anyB npc (fun k => anyB (PS k).n (fun i => decide ((PS k).o i = w) && (!decide ((PS k).t i < a) && (!decide (b < (PS k).t i) && (!decide ((PS k).t i < hor) && !cvL s ((PS k).o i) ((PS k).t i))))))
def rpS (PS : Nat → PT) (npc : Nat) (hor : Int64) (st : AS4) (kd w : Nat) (a b : Int64) : AS4 :=
  if kd = 0 then (st.1 + 1, va_up st.2.1 st.1 (-1), st.2.2.1, st.2.2.2) else if kd = 1 then (st.1, va_up st.2.1 w a, (if a < hor then st.2.2.1 else st.2.2.1 ++ [(w, a, b)]), st.2.2.2) else (st.1, st.2.1, st.2.2.1.filter (fun p => !wiB w a b p), if hitB PS npc hor st.2.2.2 w a b = true then st.2.2.2 ++ [(w, maxL a hor, minL b (st.2.1 w))] else st.2.2.2)
def rpF (PS : Nat → PT) (npc : Nat) (hor : Int64) (st : AS4) (jK jO : Nat → Nat) (jF jS : Nat → Int64) : Nat → AS4
  | 0 => st
  | r + 1 => rpS PS npc hor (rpF PS npc hor st jK jO jF jS r) (jK r) (jO r) (jF r) (jS r)
theorem rpF_e {PS : Nat → PT} {npc : Nat} {hor : Int64} {st : AS4} {jK jO jK' jO' : Nat → Nat} {jF jS jF' jS' : Nat → Int64} : ∀ {r : Nat}, (∀ i, i < r → jK' i = jK i ∧ jO' i = jO i ∧ jF' i = jF i ∧ jS' i = jS i) → rpF PS npc hor st jK' jO' jF' jS' r = rpF PS npc hor st jK jO jF jS r
  | 0, _ => rfl
  | r + 1, h => by
    obtain ⟨h1, h2, h3, h4⟩ := h r (by omega)
    show rpS PS npc hor (rpF PS npc hor st jK' jO' jF' jS' r) (jK' r) (jO' r) (jF' r) (jS' r) = rpS PS npc hor (rpF PS npc hor st jK jO jF jS r) (jK r) (jO r) (jF r) (jS r)
    rw [rpF_e (fun i hi => h i (by omega)), h1, h2, h3, h4]
/-- scars only grow -/
theorem rpS_l (PS : Nat → PT) (npc : Nat) (hor : Int64) (st : AS4) (kd w : Nat) (a b : Int64) : st.2.2.2.length ≤ (rpS PS npc hor st kd w a b).2.2.2.length := by
  unfold rpS
  split
  · exact Nat.le_refl _
  · split
    · exact Nat.le_refl _
    · show st.2.2.2.length ≤ (if hitB PS npc hor st.2.2.2 w a b = true then st.2.2.2 ++ [(w, maxL a hor, minL b (st.2.1 w))] else st.2.2.2).length
      split
      · rw [List.length_append]; omega
      · exact Nat.le_refl _
theorem rpF_l (PS : Nat → PT) (npc : Nat) (hor : Int64) (st : AS4) (jK jO : Nat → Nat) (jF jS : Nat → Int64) {i r : Nat} (h : i ≤ r) : (rpF PS npc hor st jK jO jF jS i).2.2.2.length ≤ (rpF PS npc hor st jK jO jF jS r).2.2.2.length := by
  induction r with
  | zero => rw [show i = 0 by omega]; exact Nat.le_refl _
  | succ r ih =>
    by_cases e : i = r + 1
    · rw [e]; exact Nat.le_refl _
    · exact Nat.le_trans (ih (by omega)) (rpS_l PS npc hor _ _ _ _ _)
/-- over a new manifest: no delete makes a scar, the head is what lies above the horizon -/
theorem rpF_m {PS PS' : Nat → PT} {npc npc' : Nat} {hor hor' : Int64} {n0 : Nat} {la : Nat → Int64} {s s' : List HP3} {jK jO : Nat → Nat} {jF jS : Nat → Int64} (hh : ¬ hor' < hor) : ∀ {r : Nat}, (∀ i, i < r → jK i = 2 → hitB PS' npc' hor' s' (jO i) (jF i) (jS i) = false) → (∀ i, i < r → jK i ≤ 2) → rpF PS' npc' hor' (n0, la, [], s') jK jO jF jS r = ((rpF PS npc hor (n0, la, [], s) jK jO jF jS r).1, (rpF PS npc hor (n0, la, [], s) jK jO jF jS r).2.1, (rpF PS npc hor (n0, la, [], s) jK jO jF jS r).2.2.1.filter (fun p => !decide (p.2.1 < hor')), s')
  | 0, _, _ => rfl
  | r + 1, h, hk => by
    have ih := rpF_m (PS := PS) (npc := npc) (n0 := n0) (la := la) (s := s) hh (r := r) (fun i hi => h i (by omega)) (fun i hi => hk i (by omega))
    show rpS PS' npc' hor' (rpF PS' npc' hor' (n0, la, [], s') jK jO jF jS r) (jK r) (jO r) (jF r) (jS r) = _
    rw [ih]
    obtain ⟨st, est⟩ : ∃ st, st = rpF PS npc hor (n0, la, [], s) jK jO jF jS r := ⟨_, rfl⟩
    rw [← est]
    have e1 : rpF PS npc hor (n0, la, [], s) jK jO jF jS (r + 1) = rpS PS npc hor st (jK r) (jO r) (jF r) (jS r) := by rw [est]; rfl
    rw [e1]
    unfold rpS
    have k2 := hk r (by omega)
    by_cases z0 : jK r = 0
    · rw [if_pos z0, if_pos z0]
    · rw [if_neg z0, if_neg z0]
      by_cases z1 : jK r = 1
      · rw [if_pos z1, if_pos z1]
        by_cases g : jF r < hor'
        · rw [if_pos g]
          by_cases g2 : jF r < hor
          · rw [if_pos g2]
          · rw [if_neg g2]
            show _ = (_, _, (st.2.2.1 ++ [(jO r, jF r, jS r)]).filter _, s')
            rw [List.filter_append]
            simp [g]
        · have g2 : ¬ jF r < hor := fun z => g (Int64.lt_of_lt_of_le z (Int64.not_lt.mp hh))
          rw [if_neg g, if_neg g2]
          show _ = (_, _, (st.2.2.1 ++ [(jO r, jF r, jS r)]).filter _, s')
          rw [List.filter_append]
          simp [g]
      · rw [if_neg z1, if_neg z1, h r (by omega) (by omega)]
        show (st.1, st.2.1, (st.2.2.1.filter _).filter _, if false = true then _ else s') = (st.1, st.2.1, (st.2.2.1.filter _).filter _, s')
        rw [List.filter_filter, List.filter_filter, if_neg (by decide)]
        congr 3
        refine List.filter_congr (fun p _ => Bool.and_comm _ _)
/-- the class as such a state -/
def scL (x : VS) : List HP3 := lsF x.nsc (tr3 x.nsO x.nsF x.nsT)
def hdL (x : VS) : List HP3 := lsF x.hsize (tr3 x.hO x.hT x.hV)
theorem cvL_e (x : VS) (w : Nat) (t : Int64) : cvL (scL x) w t = decide (x.sc1 w t ≠ none) := by
  apply Bool.eq_iff_iff.mpr
  rw [decide_eq_true_eq]
  unfold cvL scL lsF
  rw [List.any_map, List.any_eq_true]
  constructor
  · rintro ⟨i, h1, h2⟩ z
    rw [List.mem_range] at h1
    have := frst_none (f := x.scC w t) z i (Nat.zero_le _) (by omega)
    rw [show x.scC w t i = true from h2] at this
    cases this
  · intro z
    cases e : x.sc1 w t with
    | none => exact absurd e z
    | some j =>
      obtain ⟨a1, -, a3, -⟩ := frst_some e
      exact ⟨j, List.mem_range.mpr (by omega), a1⟩
theorem sumN_pos {f : Nat → Nat} : ∀ {n : Nat}, 0 < sumN n f ↔ ∃ k, k < n ∧ 0 < f k
  | 0 => ⟨fun h => absurd h (Nat.lt_irrefl 0), fun ⟨k, hk, _⟩ => absurd hk (Nat.not_lt_zero k)⟩
  | n + 1 => by
    show 0 < sumN n f + f n ↔ _
    constructor
    · intro h
      by_cases e : 0 < f n
      · exact ⟨n, by omega, e⟩
      · obtain ⟨k, h1, h2⟩ := (sumN_pos (f := f) (n := n)).mp (by omega)
        exact ⟨k, by omega, h2⟩
    · rintro ⟨k, h1, h2⟩
      by_cases e : k = n
      · subst e; omega
      · have := (sumN_pos (f := f) (n := n)).mpr ⟨k, by omega, h2⟩
        omega
theorem cnt_pos {f : Nat → Bool} {n : Nat} : 0 < cnt n f ↔ ∃ i, i < n ∧ f i = true := by
  constructor
  · intro h
    obtain ⟨j, h1, h2, -⟩ := cnt_at h
    exact ⟨j, h1, h2⟩
  · rintro ⟨i, h1, h2⟩
    have := cnt_lt h1 h2
    omega
theorem hit_e (x : VS) (PS : Nat → PT) (w : Nat) (a b : Int64) : hitB PS x.npc x.nhor (scL x) w a b = true ↔ 0 < sumN x.npc (x.soN PS w a b) := by
  unfold hitB
  rw [anyB_iff, sumN_pos]
  have e : ∀ k i, (decide ((PS k).o i = w) && (!decide ((PS k).t i < a) && (!decide (b < (PS k).t i) && (!decide ((PS k).t i < x.nhor) && !cvL (scL x) ((PS k).o i) ((PS k).t i))))) = x.soPc (PS k) w a b i := fun k i => by
    unfold VS.soPc VS.sePc
    rw [cvL_e]
    congr 4
    by_cases z : x.sc1 ((PS k).o i) ((PS k).t i) = none
    · rw [decide_eq_true z, decide_eq_false (fun y => y z)]; rfl
    · rw [decide_eq_false z, decide_eq_true z]; rfl
  constructor
  · rintro ⟨k, h1, h2⟩
    obtain ⟨i, h3, h4⟩ := anyB_iff.mp h2
    exact ⟨k, h1, cnt_pos.mpr ⟨i, h3, (e k i).symm.trans h4⟩⟩
  · rintro ⟨k, h1, h2⟩
    obtain ⟨i, h3, h4⟩ := cnt_pos.mp h2
    exact ⟨k, h1, anyB_iff.mpr ⟨i, h3, (e k i).trans h4⟩⟩
/-- what a delete does to head and scars -/
theorem hdL_dw (x : VS) (w : Nat) (a b : Int64) : hdL (x.dwS w a b) = (hdL x).filter (fun p => !wiB w a b p) := by
  unfold hdL
  show lsF (cnt x.hsize (x.hWn w a b)) (tr3 (tdT (x.hWn w a b) x.hO x.hsize) (tdT (x.hWn w a b) x.hT x.hsize) (tdT (x.hWn w a b) x.hV x.hsize)) = _
  rw [← td3]
  exact lsF_fl (fun i _ => rfl)
theorem scL_as (x : VS) (w : Nat) (a b : Int64) : scL (x.asS w a b) = scL x ++ [(w, maxL a x.nhor, minL b (x.nlast w))] := by
  unfold scL
  show lsF (x.nsc + 1) (tr3 (va_up x.nsO x.nsc w) (va_up x.nsF x.nsc (maxL a x.nhor)) (va_up x.nsT x.nsc (minL b (x.nlast w)))) = _
  rw [lsF_s]
  congr 1
  · exact lsF_e (fun i hi => by unfold tr3; rw [va_up_ne _ _ (Nat.ne_of_lt hi), va_up_ne _ _ (Nat.ne_of_lt hi), va_up_ne _ _ (Nat.ne_of_lt hi)])
  · unfold tr3
    rw [va_up_self, va_up_self, va_up_self]
