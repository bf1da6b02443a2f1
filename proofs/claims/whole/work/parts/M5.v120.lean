/-- only what records do is other -/
def VS.dkS (x y : VS) : VS := VS.s_nlast (VS.s_nser (VS.s_nsc (VS.s_nsT (VS.s_nsF (VS.s_nsO (VS.s_hsize (VS.s_hV (VS.s_hT (VS.s_hO (VS.s_hN (VS.s_hA x y.hA) y.hN) y.hO) y.hT) y.hV) y.hsize) y.nsO) y.nsF) y.nsT) y.nsc) y.nser) y.nlast
theorem dk_t {x y z : VS} (h1 : y = x.dkS y) (h2 : z = y.dkS z) : z = x.dkS z := by
  rw [h2, h1]
  rfl
theorem dk_cm (x : VS) (pa : Nat → Nat) (w : Nat) (a b : Int64) : x.cmF pa w a b = x.dkS (x.cmF pa w a b) := by
  unfold VS.cmF
  split
  · rfl
  · unfold VS.haF
    split
    · rfl
    · rfl
theorem dg_k {PS : Nat → PT} {x0 : VS} : ∀ {r : Nat} {z : VS}, dgR PS x0 r z → z = x0.dkS z
  | 0, z, e => by rw [show z = x0 from e]; rfl
  | r + 1, z, e => by
    obtain ⟨y, e1, e2⟩ := e
    have ih := dg_k e1
    refine dk_t ih ?_
    rcases e2 with ⟨-, q⟩ | ⟨-, pa, q⟩ | ⟨-, -, q⟩ | ⟨-, -, q⟩
    · rw [q]; rfl
    · rw [q]; exact dk_cm y pa _ _ _
    · rw [q]; rfl
    · rw [q]; rfl
section MF
variable {PS PS' : Nat → PT} {x x' : VS}
/-- a new manifest: every record is kept, the scars now are saved -/
theorem joR_m (h : joR PS x) (hk0 : x.jkept ≤ x.jsize) (hj : x'.jsize = x.jsize ∧ x'.jkept = x.jsize ∧ x'.jK = x.jK ∧ x'.jO = x.jO ∧ x'.jF = x.jF ∧ x'.jS = x.jS) (hh : ¬ x'.nhor < x.nhor) (hs : svA x' = (x.sser, x.slast, [], scL x')) (hn : x'.nser = x.nser ∧ x'.nlast = x.nlast) (hd : hdL x' = (hdL x).filter (fun p => !decide (p.2.1 < x'.nhor))) (hsc : ∀ c, c ∈ scL x' → c ∈ scL x) (h3 : ∀ r, r < x.jsize → x.jK r = 2 → hitB PS' x'.npc x'.nhor (scL x') (x.jO r) (x.jF r) (x.jS r) = false) : joR PS' x' := by
  obtain ⟨i1, i2, i3⟩ := h
  obtain ⟨j1, j2, j3, j4, j5, j6⟩ := hj
  have e : ∀ r, r ≤ x.jsize → rpV PS' x' r = ((rpV PS x r).1, (rpV PS x r).2.1, (rpV PS x r).2.2.1.filter (fun p => !decide (p.2.1 < x'.nhor)), scL x') := fun r hr => by
    unfold rpV
    rw [hs, j3, j4, j5, j6]
    exact rpF_m hh (fun i hi => h3 i (by omega)) (fun i hi => (i2 i (by omega)).1)
  have cv : ∀ o t, cvL (scL x) o t = false → cvL (scL x') o t = false := fun o t z => by
    cases g : cvL (scL x') o t with
    | false => rfl
    | true =>
      unfold cvL at g z
      rw [List.any_eq_true] at g
      obtain ⟨c, c1, c2⟩ := g
      have : (scL x).any (fun c => decide (c.1 = o) && (!decide (t < c.2.1) && !decide (c.2.2 < t))) = true := List.any_eq_true.mpr ⟨c, hsc c c1, c2⟩
      rw [z] at this
      cases this
  refine ⟨?_, fun r hr => ?_, fun K hK1 hK2 => ?_⟩
  · rw [j1, e _ (Nat.le_refl _)]
    refine ⟨by rw [hn.1]; exact i1.1, fun s hs => ?_, ?_, rfl⟩
    · rw [hn.1] at hs
      rw [hn.2]
      exact i1.2.1 s hs
    · rw [hd, ← i1.2.2.1]
  · rw [j1] at hr
    rw [j3, j4, j5, j6, e r (by omega)]
    obtain ⟨g1, g2, g3, g4, g5⟩ := i2 r hr
    exact ⟨g1, g2, g3, g4, fun z => h3 r hr z⟩
  · have eK : K = x.jsize := by omega
    rw [eK, e _ (Nat.le_refl _)]
    obtain ⟨u1, u2⟩ := i3 x.jsize hk0 (Nat.le_refl _)
    refine ⟨fun p hp => ?_, fun c hc => ?_⟩
    · have hp : p ∈ (rpV PS x x.jsize).2.2.1.filter (fun p => !decide (p.2.1 < x'.nhor)) := hp
      rw [List.mem_filter] at hp
      obtain ⟨f1, f2, f3⟩ := u1 p hp.1
      refine ⟨?_, f2, f3⟩
      rw [i1.2.2.2] at f1
      exact cv _ _ f1
    · have hc : c ∈ scL x' := hc
      exact u2 c (by rw [i1.2.2.2]; exact hsc c hc)
/-- a flush: no records, no head, all is saved -/
theorem joR_f (h : joR PS x) (hk0 : x.jkept ≤ x.jsize) (hj : x'.jsize = 0) (hs : x'.sser = x'.nser ∧ (∀ s, s < x'.nser → x'.slast s = x'.nlast s) ∧ lsF x'.ssc (tr3 x'.ssO x'.ssF x'.ssT) = scL x') (hn : x'.nser = x.nser ∧ x'.nlast = x.nlast ∧ x'.hsize = 0 ∧ scL x' = scL x) : joR PS' x' := by
  obtain ⟨i1, i2, i3⟩ := h
  obtain ⟨s1, s2, s3⟩ := hs
  obtain ⟨n1, n2, n3, n4⟩ := hn
  have eh : hdL x' = [] := by unfold hdL; rw [n3]; rfl
  have e0 : rpV PS' x' 0 = svA x' := rfl
  refine ⟨?_, fun r hr => by rw [hj] at hr; exact absurd hr (Nat.not_lt_zero r), fun K _ hK => ?_⟩
  · rw [hj, e0]
    exact ⟨s1, s2, eh.symm, s3⟩
  · rw [hj] at hK
    rw [show K = 0 by omega, e0]
    obtain ⟨-, u2⟩ := i3 x.jsize hk0 (Nat.le_refl _)
    refine ⟨fun p hp => absurd hp (List.not_mem_nil), fun c hc => ?_⟩
    have hc : c ∈ lsF x'.ssc (tr3 x'.ssO x'.ssF x'.ssT) := hc
    rw [s3, n4, ← i1.2.2.2] at hc
    obtain ⟨f1, f2⟩ := u2 c hc
    rw [i1.1] at f1
    refine ⟨by show c.1 < x'.sser; rw [s1, n1]; exact f1, ?_⟩
    show ¬ x'.slast c.1 < c.2.2
    rw [s2 _ (by rw [n1]; exact f1), n2, ← i1.2.1 _ f1]
    exact f2
/-- last times only rise in a replay -/
theorem rp_la {npc n0 : Nat} {hor : Int64} {la : Nat → Int64} {s : List HP3} {jK jO : Nat → Nat} {jF jS : Nat → Int64} : ∀ {r : Nat}, (∀ i, i < r → (jK i = 1 → (rpF PS npc hor (n0, la, [], s) jK jO jF jS i).2.1 (jO i) < jF i)) → n0 ≤ (rpF PS npc hor (n0, la, [], s) jK jO jF jS r).1 ∧ ∀ q, q < n0 → ¬ (rpF PS npc hor (n0, la, [], s) jK jO jF jS r).2.1 q < la q
  | 0, _ => ⟨Nat.le_refl _, fun q _ => Int64.lt_irrefl⟩
  | r + 1, h => by
    obtain ⟨a1, a2⟩ := rp_la (r := r) (fun i hi => h i (by omega))
    have hr := h r (by omega)
    show n0 ≤ (rpS PS npc hor (rpF PS npc hor (n0, la, [], s) jK jO jF jS r) (jK r) (jO r) (jF r) (jS r)).1 ∧ ∀ q, q < n0 → ¬ (rpS PS npc hor (rpF PS npc hor (n0, la, [], s) jK jO jF jS r) (jK r) (jO r) (jF r) (jS r)).2.1 q < la q
    obtain ⟨st, est⟩ : ∃ st, st = rpF PS npc hor (n0, la, [], s) jK jO jF jS r := ⟨_, rfl⟩
    rw [← est] at a1 a2 hr ⊢
    unfold rpS
    split
    · refine ⟨by show n0 ≤ st.1 + 1; omega, fun q hq => ?_⟩
      show ¬ va_up st.2.1 st.1 (-1) q < la q
      rw [va_up_ne _ _ (by omega)]
      exact a2 q hq
    · split
      · next z =>
        refine ⟨a1, fun q hq => ?_⟩
        show ¬ va_up st.2.1 (jO r) (jF r) q < la q
        by_cases g : q = jO r
        · subst g
          rw [va_up_self]
          intro y
          exact a2 _ hq (Int64.lt_trans (hr z) y)
        · rw [va_up_ne _ _ g]
          exact a2 q hq
      · exact ⟨a1, a2⟩
theorem rpS_c (PS : Nat → PT) (npc : Nat) (hor : Int64) (st : AS4) (kd w : Nat) (a b : Int64) {o : Nat} {t : Int64} (e : cvL st.2.2.2 o t = true) : cvL (rpS PS npc hor st kd w a b).2.2.2 o t = true := by
  unfold rpS
  split
  · exact e
  · split
    · exact e
    · show cvL (if hitB PS npc hor st.2.2.2 w a b = true then st.2.2.2 ++ [(w, maxL a hor, minL b (st.2.1 w))] else st.2.2.2) o t = true
      split
      · rw [cvL_app, e]; rfl
      · exact e
/-- behind a replay no delete's range holds a packed point that is seen -/
theorem rp_hit {npc n0 : Nat} {hor : Int64} {la : Nat → Int64} {s : List HP3} {jK jO : Nat → Nat} {jF jS : Nat → Int64} (hp : pkL PS npc n0 la) : ∀ {r : Nat}, (∀ i, i < r → (jK i = 1 → (rpF PS npc hor (n0, la, [], s) jK jO jF jS i).2.1 (jO i) < jF i)) → ∀ i, i < r → jK i = 2 → hitB PS npc hor (rpF PS npc hor (n0, la, [], s) jK jO jF jS r).2.2.2 (jO i) (jF i) (jS i) = false
  | 0, _, i, hi, _ => absurd hi (Nat.not_lt_zero i)
  | r + 1, h, i, hi, z => by
    by_cases e : i = r
    · subst e
      obtain ⟨a1, a2⟩ := rp_la (PS := PS) (npc := npc) (hor := hor) (n0 := n0) (la := la) (s := s) (jK := jK) (jO := jO) (jF := jF) (jS := jS) (r := i) (fun k hk => h k (by omega))
      show hitB PS npc hor (rpS PS npc hor (rpF PS npc hor (n0, la, [], s) jK jO jF jS i) (jK i) (jO i) (jF i) (jS i)).2.2.2 (jO i) (jF i) (jS i) = false
      obtain ⟨st, est⟩ : ∃ st, st = rpF PS npc hor (n0, la, [], s) jK jO jF jS i := ⟨_, rfl⟩
      rw [← est] at a1 a2 ⊢
      rw [z]
      show hitB PS npc hor (if hitB PS npc hor st.2.2.2 (jO i) (jF i) (jS i) = true then st.2.2.2 ++ [(jO i, maxL (jF i) hor, minL (jS i) (st.2.1 (jO i)))] else st.2.2.2) (jO i) (jF i) (jS i) = false
      by_cases g : hitB PS npc hor st.2.2.2 (jO i) (jF i) (jS i) = true
      · rw [if_pos g]
        refine hit_a (n := n0) (la := st.2.1) (fun k hk q hq => ?_)
        obtain ⟨p1, p2⟩ := hp k hk q hq
        refine ⟨p1, fun y => ?_⟩
        exact p2 (Int64.lt_of_le_of_lt (Int64.not_lt.mp (a2 _ p1)) y)
      · rw [if_neg g]
        exact Bool.eq_false_iff.mpr g
    · have ih := rp_hit hp (r := r) (fun k hk => h k (by omega)) i (by omega) z
      exact hit_m (fun o t y => rpS_c PS npc hor _ _ _ _ _ y) ih
/-- a start -/
theorem joR_s {z x0 : VS} (h : joR PS x) (hk0 : x.jkept ≤ x.jsize) (hp : pkL PS x.npc x.sser x.slast) (hj0 : x0.jsize = x.jkept ∧ x0.jkept = x.jkept ∧ x0.jK = x.jK ∧ x0.jO = x.jO ∧ x0.jF = x.jF ∧ x0.jS = x.jS) (hs0 : svA x0 = svA x ∧ x0.npc = x.npc ∧ x0.nhor = x.nhor) (hi0 : inA (svA x) x0) (hh0 : x0.hsize ≤ x0.hN ∧ 0 < x0.hN) (hz : dgR PS x0 x.jkept z) : joR PS z ∧ z.jsize = x.jkept ∧ z.jkept = x.jkept := by
  obtain ⟨i1, i2, i3⟩ := h
  obtain ⟨j1, j2, j3, j4, j5, j6⟩ := hj0
  obtain ⟨s1, s2, s3⟩ := hs0
  have dk := dg_k hz
  have f1 : z.jsize = x.jkept := (congrArg VS.jsize dk).trans (show x0.jsize = x.jkept from j1)
  have f2 : z.jkept = x.jkept := (congrArg VS.jkept dk).trans (show x0.jkept = x.jkept from j2)
  have f3 : svA z = svA x := (congrArg svA dk).trans (show svA x0 = svA x from s1)
  have er : ∀ r, rpF PS x0.npc x0.nhor (svA x) x0.jK x0.jO x0.jF x0.jS r = rpV PS x r := fun r => by unfold rpV; rw [s2, s3, j3, j4, j5, j6]
  obtain ⟨⟨g1, g2, g3, g4, g5, g6⟩, -, g8⟩ := dg_A (K := x.jkept) hi0 hh0 (fun r hr q => by
    rw [er r, j4]
    rw [j3] at q
    exact (i2 r (by omega)).2.2.1 q) (Nat.le_refl _) hz
  rw [er] at g8
  have ez : ∀ r, rpV PS z r = rpV PS x r := fun r => by
    unfold rpV
    rw [f3, g1, g2, g3, g4, g5, g6, s2, s3, j3, j4, j5, j6]
  refine ⟨⟨by rw [f1, ez]; exact g8, fun r hr => ?_, fun K hK1 hK2 => ?_⟩, f1, f2⟩
  · rw [f1] at hr
    rw [ez, g1, g2, g3, g4, j3, j4, j5, j6, g5, g6, s2, s3]
    obtain ⟨y1, y2, y3, y4, y5⟩ := i2 r (by omega)
    refine ⟨y1, y2, y3, y4, fun q => ?_⟩
    rw [← g8.2.2.2]
    exact rp_hit hp (fun i hi => fun w => ((i2 i (by omega)).2.2.2.1 w).2) r hr q
  · rw [ez]
    exact i3 K (by omega) (by omega)
end MF
