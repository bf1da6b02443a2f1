section
/-! The journal and the state now. -/
def svA (x : VS) : AS4 := (x.sser, x.slast, [], lsF x.ssc (tr3 x.ssO x.ssF x.ssT))
def rpV (PS : Nat → PT) (x : VS) (K : Nat) : AS4 := rpF PS x.npc x.nhor (svA x) x.jK x.jO x.jF x.jS K
/-- no head that a scar covers; scars end no later than their series' last times -/
def huA (st : AS4) : Prop := (∀ p, p ∈ st.2.2.1 → cvL st.2.2.2 p.1 p.2.1 = false ∧ p.1 < st.1 ∧ ¬ st.2.1 p.1 < p.2.1) ∧ ∀ c, c ∈ st.2.2.2 → c.1 < st.1 ∧ ¬ st.2.1 c.1 < c.2.2
/-- packed points are no later than last times -/
def pkL (PS : Nat → PT) (npc n : Nat) (la : Nat → Int64) : Prop := ∀ k, k < npc → ∀ i, i < (PS k).n → (PS k).o i < n ∧ ¬ la ((PS k).o i) < (PS k).t i
def joR (PS : Nat → PT) (x : VS) : Prop := inA (rpV PS x x.jsize) x ∧ (∀ r, r < x.jsize → x.jK r ≤ 2 ∧ (x.jK r = 0 → x.jO r = (rpV PS x r).1) ∧ (¬ x.jK r = 0 → x.jO r < (rpV PS x r).1) ∧ (x.jK r = 1 → isTm (x.jF r) = true ∧ (rpV PS x r).2.1 (x.jO r) < x.jF r) ∧ (x.jK r = 2 → hitB PS x.npc x.nhor (scL x) (x.jO r) (x.jF r) (x.jS r) = false)) ∧ ∀ K, x.jkept ≤ K → K ≤ x.jsize → huA (rpV PS x K)
theorem cvL_app (s u : List HP3) (w : Nat) (t : Int64) : cvL (s ++ u) w t = (cvL s w t || cvL u w t) := by
  unfold cvL
  rw [List.any_append]
theorem hit_m {PS : Nat → PT} {npc : Nat} {hor : Int64} {s u : List HP3} {w : Nat} {a b : Int64} (hs : ∀ o t, cvL s o t = true → cvL u o t = true) (h : hitB PS npc hor s w a b = false) : hitB PS npc hor u w a b = false := by
  cases e : hitB PS npc hor u w a b with
  | false => rfl
  | true =>
    obtain ⟨k, h1, h2⟩ := anyB_iff.mp e
    obtain ⟨i, h3, h4⟩ := anyB_iff.mp h2
    have : hitB PS npc hor s w a b = true := anyB_iff.mpr ⟨k, h1, anyB_iff.mpr ⟨i, h3, by
      rw [Bool.and_eq_true, Bool.and_eq_true, Bool.and_eq_true, Bool.and_eq_true] at h4 ⊢
      obtain ⟨g1, g2, g3, g4, g5⟩ := h4
      refine ⟨g1, g2, g3, g4, ?_⟩
      cases z : cvL s ((PS k).o i) ((PS k).t i) with
      | false => rfl
      | true => rw [hs _ _ z] at g5; cases g5⟩⟩
    rw [h] at this
    cases this
theorem nd {P : Prop} [Decidable P] : (!decide P) = true ↔ ¬ P := by
  by_cases h : P
  · rw [decide_eq_true h]; exact ⟨fun z => (by cases z), fun z => absurd h z⟩
  · rw [decide_eq_false h]; exact ⟨fun _ => h, fun _ => rfl⟩
/-- behind a delete nothing that is seen lies in its range -/
theorem hit_a {PS : Nat → PT} {npc n : Nat} {hor : Int64} {la : Nat → Int64} {s : List HP3} {w : Nat} {a b : Int64} (hp : pkL PS npc n la) : hitB PS npc hor (s ++ [(w, maxL a hor, minL b (la w))]) w a b = false := by
  cases e : hitB PS npc hor (s ++ [(w, maxL a hor, minL b (la w))]) w a b with
  | false => rfl
  | true =>
    exfalso
    obtain ⟨k, h1, h2⟩ := anyB_iff.mp e
    obtain ⟨i, h3, h4⟩ := anyB_iff.mp h2
    rw [Bool.and_eq_true, Bool.and_eq_true, Bool.and_eq_true, Bool.and_eq_true, nd, nd, nd] at h4
    obtain ⟨g1, g2, g3, g4, g5⟩ := h4
    have g1 := of_decide_eq_true g1
    have p := (hp k h1 i h3).2
    rw [cvL_app] at g5
    have c : cvL [(w, maxL a hor, minL b (la w))] ((PS k).o i) ((PS k).t i) = true := by
      unfold cvL
      rw [List.any_cons, List.any_nil, Bool.or_false, Bool.and_eq_true, Bool.and_eq_true, nd, nd]
      refine ⟨decide_eq_true g1.symm, ?_, ?_⟩
      · show ¬ (PS k).t i < maxL a hor
        unfold maxL
        split
        · exact g2
        · exact g4
      · show ¬ minL b (la w) < (PS k).t i
        unfold minL
        split
        · rw [g1] at p; exact p
        · exact g3
    rw [c, Bool.or_true] at g5
    cases g5
section JO
variable {PS : Nat → PT} {x x' : VS} {kd w : Nat} {a b : Int64}
/-- the same records, the same saved state: the same replay -/
theorem rpV_e (h : x'.npc = x.npc ∧ x'.nhor = x.nhor ∧ svA x' = svA x) {K : Nat} (hj : ∀ r, r < K → x'.jK r = x.jK r ∧ x'.jO r = x.jO r ∧ x'.jF r = x.jF r ∧ x'.jS r = x.jS r) : rpV PS x' K = rpV PS x K := by
  obtain ⟨h1, h2, h3⟩ := h
  unfold rpV
  rw [h1, h2, h3]
  exact rpF_e hj
/-- a record more, done on the state now -/
theorem joR_add (h : joR PS x) (hs : x'.npc = x.npc ∧ x'.nhor = x.nhor ∧ svA x' = svA x) (hj : x'.jsize = x.jsize + 1 ∧ x.jkept ≤ x'.jkept ∧ ∀ r, r < x.jsize → x'.jK r = x.jK r ∧ x'.jO r = x.jO r ∧ x'.jF r = x.jF r ∧ x'.jS r = x.jS r) (hn : x'.jK x.jsize = kd ∧ x'.jO x.jsize = w ∧ x'.jF x.jsize = a ∧ x'.jS x.jsize = b) (hi : inA (rpS PS x.npc x.nhor (rpV PS x x.jsize) kd w a b) x') (hp : pkL PS x.npc x.nser x.nlast)
    (hk : kd ≤ 2 ∧ (kd = 0 → w = x.nser) ∧ (¬ kd = 0 → w < x.nser) ∧ (kd = 1 → isTm a = true ∧ x.nlast w < a)) (hl : x.jkept ≤ x.jsize) : joR PS x' := by
  obtain ⟨h1, h2, h3⟩ := h
  obtain ⟨j1, j2, j3⟩ := hj
  obtain ⟨n1, n2, n3, n4⟩ := hn
  obtain ⟨c1, c2, c3⟩ := hs
  have eK : ∀ K, K ≤ x.jsize → rpV PS x' K = rpV PS x K := fun K hK => rpV_e ⟨c1, c2, c3⟩ (fun r hr => j3 r (by omega))
  have eN : rpV PS x' (x.jsize + 1) = rpS PS x.npc x.nhor (rpV PS x x.jsize) kd w a b := by
    show rpS PS x'.npc x'.nhor (rpV PS x' x.jsize) (x'.jK x.jsize) (x'.jO x.jsize) (x'.jF x.jsize) (x'.jS x.jsize) = _
    rw [eK _ (Nat.le_refl _), c1, c2, n1, n2, n3, n4]
  obtain ⟨st, est⟩ : ∃ st, st = rpV PS x x.jsize := ⟨_, rfl⟩
  rw [← est] at h1 hi eN
  have hu := h3 x.jsize hl (Nat.le_refl _)
  rw [← est] at hu
  -- scars are only more
  have grow : ∀ o t, cvL (scL x) o t = true → cvL (scL x') o t = true := fun o t e => by
    rw [← hi.2.2.2]
    rw [← h1.2.2.2] at e
    unfold rpS
    split
    · exact e
    · split
      · exact e
      · show cvL (if hitB PS x.npc x.nhor st.2.2.2 w a b = true then st.2.2.2 ++ [(w, maxL a x.nhor, minL b (st.2.1 w))] else st.2.2.2) o t = true
        split
        · rw [cvL_app, e]; rfl
        · exact e
  refine ⟨by rw [j1, eN]; exact hi, fun r hr => ?_, fun K hK1 hK2 => ?_⟩
  · rw [j1] at hr
    by_cases e : r = x.jsize
    · subst e
      rw [n1, n2, n3, n4, eK _ (Nat.le_refl _), ← est, c1, c2]
      obtain ⟨g1, g2, g3, g4⟩ := hk
      refine ⟨g1, fun z => by rw [h1.1]; exact g2 z, fun z => by rw [h1.1]; exact g3 z, fun z => ?_, fun z => ?_⟩
      · rw [h1.2.1 w (g3 (by omega))]
        exact g4 z
      · have hw := g3 (by omega)
        have ll : ∀ s, s < x.nser → st.2.1 s = x.nlast s := h1.2.1
        rw [← hi.2.2.2, z]
        show hitB PS x.npc x.nhor (if hitB PS x.npc x.nhor st.2.2.2 w a b = true then st.2.2.2 ++ [(w, maxL a x.nhor, minL b (st.2.1 w))] else st.2.2.2) w a b = false
        by_cases g : hitB PS x.npc x.nhor st.2.2.2 w a b = true
        · rw [if_pos g, ll w hw]
          exact hit_a hp
        · rw [if_neg g]
          exact Bool.eq_false_iff.mpr g
    · obtain ⟨y1, y2, y3, y4⟩ := j3 r (by omega)
      rw [y1, y2, y3, y4, eK r (by omega), c1, c2]
      obtain ⟨g1, g2, g3, g4, g5⟩ := h2 r (by omega)
      exact ⟨g1, g2, g3, g4, fun z => hit_m grow (g5 z)⟩
  · rw [j1] at hK2
    by_cases e : K = x.jsize + 1
    · rw [e, eN]
      obtain ⟨u1, u2⟩ := hu
      obtain ⟨k1, k2, k3, k4⟩ := hk
      have ll : ∀ s, s < x.nser → st.2.1 s = x.nlast s := h1.2.1
      have ns : st.1 = x.nser := h1.1
      unfold rpS
      by_cases z0 : kd = 0
      · rw [if_pos z0]
        have up : ∀ q, q < st.1 → va_up st.2.1 st.1 (-1) q = st.2.1 q := fun q hq => va_up_ne _ _ (by omega)
        refine ⟨fun p hp1 => ?_, fun c hc => ?_⟩
        · obtain ⟨f1, f2, f3⟩ := u1 p hp1
          exact ⟨f1, by show p.1 < st.1 + 1; omega, by show ¬ va_up st.2.1 st.1 (-1) p.1 < p.2.1; rw [up _ f2]; exact f3⟩
        · obtain ⟨f1, f2⟩ := u2 c hc
          exact ⟨by show c.1 < st.1 + 1; omega, by show ¬ va_up st.2.1 st.1 (-1) c.1 < c.2.2; rw [up _ f1]; exact f2⟩
      · rw [if_neg z0]
        by_cases z1 : kd = 1
        · rw [if_pos z1]
          have hw := k3 z0
          have la := (k4 z1).2
          have up : ∀ q t, ¬ st.2.1 q < t → ¬ va_up st.2.1 w a q < t := fun q t ht y => by
            by_cases g : q = w
            · rw [g, va_up_self] at y
              rw [g, ll w hw] at ht
              exact ht (Int64.lt_trans la y)
            · rw [va_up_ne _ _ g] at y
              exact ht y
          refine ⟨fun p hp1 => ?_, fun c hc => ?_⟩
          · have hp1 : p ∈ (if a < x.nhor then st.2.2.1 else st.2.2.1 ++ [(w, a, b)]) := hp1
            have old : p ∈ st.2.2.1 → cvL st.2.2.2 p.1 p.2.1 = false ∧ p.1 < st.1 ∧ ¬ va_up st.2.1 w a p.1 < p.2.1 := fun y => by
              obtain ⟨f1, f2, f3⟩ := u1 p y
              exact ⟨f1, f2, up _ _ f3⟩
            split at hp1
            · exact old hp1
            · rw [List.mem_append, List.mem_singleton] at hp1
              rcases hp1 with y | y
              · exact old y
              · subst y
                refine ⟨?_, by show w < st.1; omega, by show ¬ va_up st.2.1 w a w < a; rw [va_up_self]; exact Int64.lt_irrefl⟩
                show cvL st.2.2.2 w a = false
                cases g : cvL st.2.2.2 w a with
                | false => rfl
                | true =>
                  exfalso
                  unfold cvL at g
                  rw [List.any_eq_true] at g
                  obtain ⟨c, hc, g⟩ := g
                  rw [Bool.and_eq_true, Bool.and_eq_true, nd, nd] at g
                  have e1 : c.1 = w := of_decide_eq_true g.1
                  have f2 := (u2 c hc).2
                  rw [e1, ll w hw] at f2
                  exact g.2.2 (Int64.lt_of_le_of_lt (Int64.not_lt.mp f2) la)
          · obtain ⟨f1, f2⟩ := u2 c hc
            exact ⟨f1, up _ _ f2⟩
        · rw [if_neg z1]
          have hw := k3 z0
          have scs : ∀ c, c ∈ (if hitB PS x.npc x.nhor st.2.2.2 w a b = true then st.2.2.2 ++ [(w, maxL a x.nhor, minL b (st.2.1 w))] else st.2.2.2) → c ∈ st.2.2.2 ∨ c = (w, maxL a x.nhor, minL b (st.2.1 w)) := fun c hc => by
            split at hc
            · rw [List.mem_append, List.mem_singleton] at hc; exact hc
            · exact Or.inl hc
          refine ⟨fun p hp1 => ?_, fun c hc => ?_⟩
          · have hp1 : p ∈ st.2.2.1.filter (fun p => !wiB w a b p) := hp1
            rw [List.mem_filter] at hp1
            obtain ⟨f1, f2, f3⟩ := u1 p hp1.1
            refine ⟨?_, f2, f3⟩
            show cvL (if hitB PS x.npc x.nhor st.2.2.2 w a b = true then st.2.2.2 ++ [(w, maxL a x.nhor, minL b (st.2.1 w))] else st.2.2.2) p.1 p.2.1 = false
            split
            · rw [cvL_app, f1, Bool.false_or]
              cases g : cvL [(w, maxL a x.nhor, minL b (st.2.1 w))] p.1 p.2.1 with
              | false => rfl
              | true =>
                exfalso
                unfold cvL at g
                rw [List.any_cons, List.any_nil, Bool.or_false, Bool.and_eq_true, Bool.and_eq_true, nd, nd] at g
                obtain ⟨g1, g2, g3⟩ := g
                have g1 : w = p.1 := of_decide_eq_true g1
                have g2 : ¬ p.2.1 < maxL a x.nhor := g2
                have g3 : ¬ minL b (st.2.1 w) < p.2.1 := g3
                have wi : wiB w a b p = true := by
                  unfold wiB
                  rw [Bool.and_eq_true, Bool.and_eq_true, nd, nd]
                  refine ⟨decide_eq_true g1.symm, fun y => g2 ?_, fun y => g3 ?_⟩
                  · unfold maxL
                    split
                    · exact y
                    · next q => exact Int64.lt_of_lt_of_le y (Int64.not_lt.mp q)
                  · unfold minL
                    split
                    · next q => exact Int64.lt_trans q y
                    · exact y
                rw [wi] at hp1
                cases hp1.2
            · exact f1
          · rcases scs c hc with y | y
            · exact u2 c y
            · subst y
              refine ⟨by show w < st.1; omega, ?_⟩
              show ¬ st.2.1 w < minL b (st.2.1 w)
              unfold minL
              split
              · exact Int64.lt_irrefl
              · next q => exact q
    · rw [eK K (by omega)]
      exact h3 K (by omega) (by omega)
end JO
end
section
/-- only what records do is other -/
def VS.dkS (x y : VS) : VS := VS.s_nlast (VS.s_nser (VS.s_nsc (VS.s_nsT (VS.s_nsF (VS.s_nsO (VS.s_hsize (VS.s_hV (VS.s_hT (VS.s_hO (VS.s_hN (VS.s_hA x y.hA) y.hN) y.hO) y.hT) y.hV) y.hsize) y.nsO) y.nsF) y.nsT) y.nsc) y.nser) y.nlast
theorem dk_t {x y z : VS} (h1 : y = x.dkS y) (h2 : z = y.dkS z) : z = x.dkS z := by
  rw [h2, h1]
  rfl
theorem dk_cm (x : VS) (pa : Nat → Nat) (w : Nat) (a b : Int64) : x.cmF pa w a b = x.dkS (x.cmF pa w a b) := by
  unfold VS.cmF
  split
  · rfl
  · unfold VS.haF
    split
    · rfl
    · rfl
theorem dg_k {PS : Nat → PT} {x0 : VS} : ∀ {r : Nat} {z : VS}, dgR PS x0 r z → z = x0.dkS z
  | 0, z, e => by rw [show z = x0 from e]; rfl
  | r + 1, z, e => by
    obtain ⟨y, e1, e2⟩ := e
    have ih := dg_k e1
    refine dk_t ih ?_
    rcases e2 with ⟨-, q⟩ | ⟨-, pa, q⟩ | ⟨-, -, q⟩ | ⟨-, -, q⟩
    · rw [q]; rfl
    · rw [q]; exact dk_cm y pa _ _ _
    · rw [q]; rfl
    · rw [q]; rfl
section MF
variable {PS PS' : Nat → PT} {x x' : VS}
/-- a new manifest: every record is kept, the scars now are saved -/
theorem joR_m (h : joR PS x) (hk0 : x.jkept ≤ x.jsize) (hj : x'.jsize = x.jsize ∧ x'.jkept = x.jsize ∧ x'.jK = x.jK ∧ x'.jO = x.jO ∧ x'.jF = x.jF ∧ x'.jS = x.jS) (hh : ¬ x'.nhor < x.nhor) (hs : svA x' = (x.sser, x.slast, [], scL x')) (hn : x'.nser = x.nser ∧ x'.nlast = x.nlast) (hd : hdL x' = (hdL x).filter (fun p => !decide (p.2.1 < x'.nhor))) (hsc : ∀ c, c ∈ scL x' → c ∈ scL x) (h3 : ∀ r, r < x.jsize → x.jK r = 2 → hitB PS' x'.npc x'.nhor (scL x') (x.jO r) (x.jF r) (x.jS r) = false) : joR PS' x' := by
  obtain ⟨i1, i2, i3⟩ := h
  obtain ⟨j1, j2, j3, j4, j5, j6⟩ := hj
  have e : ∀ r, r ≤ x.jsize → rpV PS' x' r = ((rpV PS x r).1, (rpV PS x r).2.1, (rpV PS x r).2.2.1.filter (fun p => !decide (p.2.1 < x'.nhor)), scL x') := fun r hr => by
    unfold rpV
    rw [hs, j3, j4, j5, j6]
    exact rpF_m hh (fun i hi => h3 i (by omega)) (fun i hi => (i2 i (by omega)).1)
  have cv : ∀ o t, cvL (scL x) o t = false → cvL (scL x') o t = false := fun o t z => by
    cases g : cvL (scL x') o t with
    | false => rfl
    | true =>
      unfold cvL at g z
      rw [List.any_eq_true] at g
      obtain ⟨c, c1, c2⟩ := g
      have : (scL x).any (fun c => decide (c.1 = o) && (!decide (t < c.2.1) && !decide (c.2.2 < t))) = true := List.any_eq_true.mpr ⟨c, hsc c c1, c2⟩
      rw [z] at this
      cases this
  refine ⟨?_, fun r hr => ?_, fun K hK1 hK2 => ?_⟩
  · rw [j1, e _ (Nat.le_refl _)]
    refine ⟨by rw [hn.1]; exact i1.1, fun s hs => ?_, ?_, rfl⟩
    · rw [hn.1] at hs
      rw [hn.2]
      exact i1.2.1 s hs
    · rw [hd, ← i1.2.2.1]
  · rw [j1] at hr
    rw [j3, j4, j5, j6, e r (by omega)]
    obtain ⟨g1, g2, g3, g4, g5⟩ := i2 r hr
    exact ⟨g1, g2, g3, g4, fun z => h3 r hr z⟩
  · have eK : K = x.jsize := by omega
    rw [eK, e _ (Nat.le_refl _)]
    obtain ⟨u1, u2⟩ := i3 x.jsize hk0 (Nat.le_refl _)
    refine ⟨fun p hp => ?_, fun c hc => ?_⟩
    · have hp : p ∈ (rpV PS x x.jsize).2.2.1.filter (fun p => !decide (p.2.1 < x'.nhor)) := hp
      rw [List.mem_filter] at hp
      obtain ⟨f1, f2, f3⟩ := u1 p hp.1
      refine ⟨?_, f2, f3⟩
      rw [i1.2.2.2] at f1
      exact cv _ _ f1
    · have hc : c ∈ scL x' := hc
      exact u2 c (by rw [i1.2.2.2]; exact hsc c hc)
/-- a flush: no records, no head, all is saved -/
theorem joR_f (h : joR PS x) (hk0 : x.jkept ≤ x.jsize) (hj : x'.jsize = 0) (hs : x'.sser = x'.nser ∧ (∀ s, s < x'.nser → x'.slast s = x'.nlast s) ∧ lsF x'.ssc (tr3 x'.ssO x'.ssF x'.ssT) = scL x') (hn : x'.nser = x.nser ∧ x'.nlast = x.nlast ∧ x'.hsize = 0 ∧ scL x' = scL x) : joR PS' x' := by
  obtain ⟨i1, i2, i3⟩ := h
  obtain ⟨s1, s2, s3⟩ := hs
  obtain ⟨n1, n2, n3, n4⟩ := hn
  have eh : hdL x' = [] := by unfold hdL; rw [n3]; rfl
  have e0 : rpV PS' x' 0 = svA x' := rfl
  refine ⟨?_, fun r hr => by rw [hj] at hr; exact absurd hr (Nat.not_lt_zero r), fun K _ hK => ?_⟩
  · rw [hj, e0]
    exact ⟨s1, s2, eh.symm, s3⟩
  · rw [hj] at hK
    rw [show K = 0 by omega, e0]
    obtain ⟨-, u2⟩ := i3 x.jsize hk0 (Nat.le_refl _)
    refine ⟨fun p hp => absurd hp (List.not_mem_nil), fun c hc => ?_⟩
    have hc : c ∈ lsF x'.ssc (tr3 x'.ssO x'.ssF x'.ssT) := hc
    rw [s3, n4, ← i1.2.2.2] at hc
    obtain ⟨f1, f2⟩ := u2 c hc
    rw [i1.1] at f1
    refine ⟨by show c.1 < x'.sser; rw [s1, n1]; exact f1, ?_⟩
    show ¬ x'.slast c.1 < c.2.2
    rw [s2 _ (by rw [n1]; exact f1), n2, ← i1.2.1 _ f1]
    exact f2
/-- last times only rise in a replay -/
theorem rp_la {npc n0 : Nat} {hor : Int64} {la : Nat → Int64} {s : List HP3} {jK jO : Nat → Nat} {jF jS : Nat → Int64} : ∀ {r : Nat}, (∀ i, i < r → (jK i = 1 → (rpF PS npc hor (n0, la, [], s) jK jO jF jS i).2.1 (jO i) < jF i)) → n0 ≤ (rpF PS npc hor (n0, la, [], s) jK jO jF jS r).1 ∧ ∀ q, q < n0 → ¬ (rpF PS npc hor (n0, la, [], s) jK jO jF jS r).2.1 q < la q
  | 0, _ => ⟨Nat.le_refl _, fun q _ => Int64.lt_irrefl⟩
  | r + 1, h => by
    obtain ⟨a1, a2⟩ := rp_la (r := r) (fun i hi => h i (by omega))
    have hr := h r (by omega)
    show n0 ≤ (rpS PS npc hor (rpF PS npc hor (n0, la, [], s) jK jO jF jS r) (jK r) (jO r) (jF r) (jS r)).1 ∧ ∀ q, q < n0 → ¬ (rpS PS npc hor (rpF PS npc hor (n0, la, [], s) jK jO jF jS r) (jK r) (jO r) (jF r) (jS r)).2.1 q < la q
    obtain ⟨st, est⟩ : ∃ st, st = rpF PS npc hor (n0, la, [], s) jK jO jF jS r := ⟨_, rfl⟩
    rw [← est] at a1 a2 hr ⊢
    unfold rpS
    split
    · refine ⟨by show n0 ≤ st.1 + 1; omega, fun q hq => ?_⟩
      show ¬ va_up st.2.1 st.1 (-1) q < la q
      rw [va_up_ne _ _ (by omega)]
      exact a2 q hq
    · split
      · next z =>
        refine ⟨a1, fun q hq => ?_⟩
        show ¬ va_up st.2.1 (jO r) (jF r) q < la q
        by_cases g : q = jO r
        · subst g
          rw [va_up_self]
          intro y
          exact a2 _ hq (Int64.lt_trans (hr z) y)
        · rw [va_up_ne _ _ g]
          exact a2 q hq
      · exact ⟨a1, a2⟩
theorem rpS_c (PS : Nat → PT) (npc : Nat) (hor : Int64) (st : AS4) (kd w : Nat) (a b : Int64) {o : Nat} {t : Int64} (e : cvL st.2.2.2 o t = true) : cvL (rpS PS npc hor st kd w a b).2.2.2 o t = true := by
  unfold rpS
  split
  · exact e
  · split
    · exact e
    · show cvL (if hitB PS npc hor st.2.2.2 w a b = true then st.2.2.2 ++ [(w, maxL a hor, minL b (st.2.1 w))] else st.2.2.2) o t = true
      split
      · rw [cvL_app, e]; rfl
      · exact e
/-- behind a replay no delete's range holds a packed point that is seen -/
theorem rp_hit {npc n0 : Nat} {hor : Int64} {la : Nat → Int64} {s : List HP3} {jK jO : Nat → Nat} {jF jS : Nat → Int64} (hp : pkL PS npc n0 la) : ∀ {r : Nat}, (∀ i, i < r → (jK i = 1 → (rpF PS npc hor (n0, la, [], s) jK jO jF jS i).2.1 (jO i) < jF i)) → ∀ i, i < r → jK i = 2 → hitB PS npc hor (rpF PS npc hor (n0, la, [], s) jK jO jF jS r).2.2.2 (jO i) (jF i) (jS i) = false
  | 0, _, i, hi, _ => absurd hi (Nat.not_lt_zero i)
  | r + 1, h, i, hi, z => by
    by_cases e : i = r
    · subst e
      obtain ⟨a1, a2⟩ := rp_la (PS := PS) (npc := npc) (hor := hor) (n0 := n0) (la := la) (s := s) (jK := jK) (jO := jO) (jF := jF) (jS := jS) (r := i) (fun k hk => h k (by omega))
      show hitB PS npc hor (rpS PS npc hor (rpF PS npc hor (n0, la, [], s) jK jO jF jS i) (jK i) (jO i) (jF i) (jS i)).2.2.2 (jO i) (jF i) (jS i) = false
      obtain ⟨st, est⟩ : ∃ st, st = rpF PS npc hor (n0, la, [], s) jK jO jF jS i := ⟨_, rfl⟩
      rw [← est] at a1 a2 ⊢
      rw [z]
      show hitB PS npc hor (if hitB PS npc hor st.2.2.2 (jO i) (jF i) (jS i) = true then st.2.2.2 ++ [(jO i, maxL (jF i) hor, minL (jS i) (st.2.1 (jO i)))] else st.2.2.2) (jO i) (jF i) (jS i) = false
      by_cases g : hitB PS npc hor st.2.2.2 (jO i) (jF i) (jS i) = true
      · rw [if_pos g]
        refine hit_a (n := n0) (la := st.2.1) (fun k hk q hq => ?_)
        obtain ⟨p1, p2⟩ := hp k hk q hq
        refine ⟨p1, fun y => ?_⟩
        exact p2 (Int64.lt_of_le_of_lt (Int64.not_lt.mp (a2 _ p1)) y)
      · rw [if_neg g]
        exact Bool.eq_false_iff.mpr g
    · have ih := rp_hit hp (r := r) (fun k hk => h k (by omega)) i (by omega) z
      exact hit_m (fun o t y => rpS_c PS npc hor _ _ _ _ _ y) ih
/-- a start -/
theorem joR_s {z x0 : VS} (h : joR PS x) (hk0 : x.jkept ≤ x.jsize) (hp : pkL PS x.npc x.sser x.slast) (hj0 : x0.jsize = x.jkept ∧ x0.jkept = x.jkept ∧ x0.jK = x.jK ∧ x0.jO = x.jO ∧ x0.jF = x.jF ∧ x0.jS = x.jS) (hs0 : svA x0 = svA x ∧ x0.npc = x.npc ∧ x0.nhor = x.nhor) (hi0 : inA (svA x) x0) (hh0 : x0.hsize ≤ x0.hN ∧ 0 < x0.hN) (hz : dgR PS x0 x.jkept z) : joR PS z ∧ z.jsize = x.jkept ∧ z.jkept = x.jkept := by
  obtain ⟨i1, i2, i3⟩ := h
  obtain ⟨j1, j2, j3, j4, j5, j6⟩ := hj0
  obtain ⟨s1, s2, s3⟩ := hs0
  have dk := dg_k hz
  have f1 : z.jsize = x.jkept := (congrArg VS.jsize dk).trans (show x0.jsize = x.jkept from j1)
  have f2 : z.jkept = x.jkept := (congrArg VS.jkept dk).trans (show x0.jkept = x.jkept from j2)
  have f3 : svA z = svA x := (congrArg svA dk).trans (show svA x0 = svA x from s1)
  have er : ∀ r, rpF PS x0.npc x0.nhor (svA x) x0.jK x0.jO x0.jF x0.jS r = rpV PS x r := fun r => by unfold rpV; rw [s2, s3, j3, j4, j5, j6]
  obtain ⟨⟨g1, g2, g3, g4, g5, g6⟩, -, g8⟩ := dg_A (K := x.jkept) hi0 hh0 (fun r hr q => by
    rw [er r, j4]
    rw [j3] at q
    exact (i2 r (by omega)).2.2.1 q) (Nat.le_refl _) hz
  rw [er] at g8
  have ez : ∀ r, rpV PS z r = rpV PS x r := fun r => by
    unfold rpV
    rw [f3, g1, g2, g3, g4, g5, g6, s2, s3, j3, j4, j5, j6]
  refine ⟨⟨by rw [f1, ez]; exact g8, fun r hr => ?_, fun K hK1 hK2 => ?_⟩, f1, f2⟩
  · rw [f1] at hr
    rw [ez, g1, g2, g3, g4, j3, j4, j5, j6, g5, g6, s2, s3]
    obtain ⟨y1, y2, y3, y4, y5⟩ := i2 r (by omega)
    refine ⟨y1, y2, y3, y4, fun q => ?_⟩
    rw [← g8.2.2.2]
    exact rp_hit hp (fun i hi => fun w => ((i2 i (by omega)).2.2.2.1 w).2) r hr q
  · rw [ez]
    exact i3 K (by omega) (by omega)
end MF
end
section
/-! Blocks: of the catalog, of a parcel made. -/
theorem uni_u (S : List LB) : uniN (joinT S).length = uS S := by
  unfold uniN uS
  omega
theorem cat_s {SS : Nat → List LB} {tl : Nat → Nat} {n : Nat} (h : ∀ s, s < n → tl s = (joinT (SS s)).length ∧ (joinT (SS s)).length ≤ 303) : ∀ {k : Nat}, 0 < k → k ≤ n → ctG2 SS k = catS tl 1 k
  | 0, h0, _ => absurd h0 (Nat.lt_irrefl 0)
  | k + 1, _, hk => by
    obtain ⟨e, l⟩ := h k (by omega)
    have u : uniN (tl k) = uS (SS k) := by rw [e]; exact uni_u (SS k)
    have ub : 1 ≤ uS (SS k) ∧ uS (SS k) ≤ 126 := by unfold uS; omega
    show (if uS (SS k) ≤ (ctG2 SS k).2 then ((ctG2 SS k).1, (ctG2 SS k).2 - uS (SS k)) else ((ctG2 SS k).1 + 1, 126 - uS (SS k))) = if (catS tl 1 k).2 < uniN (tl k) then ((catS tl 1 k).1 + 1, 126 - uniN (tl k)) else ((catS tl 1 k).1, (catS tl 1 k).2 - uniN (tl k))
    rw [u]
    rcases Nat.eq_zero_or_pos k with z | z
    · subst z
      show (if uS (SS 0) ≤ 0 then (0, 0 - uS (SS 0)) else (0 + 1, 126 - uS (SS 0))) = if 126 < uS (SS 0) then (1 + 1, 126 - uS (SS 0)) else (1, 126 - uS (SS 0))
      rw [if_neg (by omega), if_neg (by omega)]
    · rw [cat_s h z (by omega)]
      by_cases g : uS (SS k) ≤ (catS tl 1 k).2
      · rw [if_pos g, if_neg (by omega)]
      · rw [if_neg g, if_pos (by omega)]
theorem cat_eq {m : MS} {SS : Nat → List LB} (h : txR m.texts m.textLengths m.seriesCount SS) : m.catN = (ctG2 SS m.seriesCount).1 := by
  unfold MS.catN
  rcases Nat.eq_zero_or_pos m.seriesCount with z | z
  · rw [z]
    rfl
  · rw [if_pos z, cat_s (fun s hs => ⟨(h s hs).1, (h s hs).2.1⟩) z (Nat.le_refl _)]
theorem bl_e (n : Nat) (O : Nat → Nat) (T V : Nat → Int64) : (mkP n O T V).bl = ((mkP n O T V).bi + 32255) / 32256 := by
  show (64 * cnt n (chB O) + (bcG O T V n).1 + 32256 - 1) / 32256 = (64 * cnt n (chB O) + (bcG O T V n).1 + 32255) / 32256
  congr 1
theorem bl_0 (O : Nat → Nat) (T V : Nat → Int64) : (mkP 0 O T V).bl = 0 := by
  show (64 * 0 + 0 + 32256 - 1) / 32256 = 0
  decide
theorem bl_p {n : Nat} (O : Nat → Nat) (T V : Nat → Int64) (h : 0 < n) : 0 < (mkP n O T V).bl := by
  have c : 0 < cnt n (chB O) := cnt_pos.mpr ⟨0, h, rfl⟩
  show 0 < (64 * cnt n (chB O) + (bcG O T V n).1 + 32256 - 1) / 32256
  omega
section BL
variable {m : MS} {x : VS} {PS : Nat → PT} {dn : Nat → Nat}
theorem many_eq {O : Nat → Nat} {T V : Nat → Int64} (h : ptR m x PS dn) (hz : 0 < x.hsize) (l1 : laid x.hO x.hsize x.hsize x.hO O) (l2 : laid x.hO x.hsize x.hsize x.hT T) (l3 : laid x.hO x.hsize x.hsize x.hV V) : m.manyN = (mkP x.hsize O T V).bl := by
  unfold MS.manyN
  have a := arr_lst h.1.1 l1 l2 l3
  have c : ∀ q, q < m.points → (m.hdd q && m.seen q) = m.hdd q := fun q hq => by
    cases e : m.hdd q with
    | false => rfl
    | true => rw [hd_seen h hq e]; rfl
  have a2 := arr_congr a (c' := fun q => m.hdd q && m.seen q) (fun q _ => ⟨rfl, rfl, rfl⟩) c
  rw [heads_eq h, if_pos hz, bl_e, bt_all (o1 := -1) (o2 := -1) (sn := true) a2 (fun w q => by
    unfold MS.sel arS MS.hdd
    rw [Bool.or_self, Bool.not_true, Bool.false_or]
    exact Bool.and_comm _ _) (W := m.seriesCount) (fun q hq e => by
    rw [Bool.and_eq_true] at e
    exact (h.2.2.2.2.1.2.1 q hq (fun z => by rw [show m.places q = -1 from of_decide_eq_true e.1] at z; exact absurd z (by decide))).1)]
theorem many_0 (h : ptR m x PS dn) (hz : x.hsize = 0) : m.manyN = 0 := by
  unfold MS.manyN
  rw [heads_eq h, hz, if_neg (Nat.lt_irrefl 0)]
theorem cmN_eq {d : Nat} {go O : Nat → Nat} {gt gv T V : Nat → Int64} (h : ptR m x PS dn) (hd : d + 2 ≤ x.npc) (ha : gat2 (x.sePc (PS d)) (x.sePc (PS (d + 1))) (PS d) (PS (d + 1)) go gt gv) (l1 : laid go (cnt (PS d).n (x.sePc (PS d)) + cnt (PS (d + 1)).n (x.sePc (PS (d + 1)))) (cnt (PS d).n (x.sePc (PS d)) + cnt (PS (d + 1)).n (x.sePc (PS (d + 1)))) go O) (l2 : laid go (cnt (PS d).n (x.sePc (PS d)) + cnt (PS (d + 1)).n (x.sePc (PS (d + 1)))) (cnt (PS d).n (x.sePc (PS d)) + cnt (PS (d + 1)).n (x.sePc (PS (d + 1)))) gt T) (l3 : laid go (cnt (PS d).n (x.sePc (PS d)) + cnt (PS (d + 1)).n (x.sePc (PS (d + 1)))) (cnt (PS d).n (x.sePc (PS d)) + cnt (PS (d + 1)).n (x.sePc (PS (d + 1)))) gv V) : m.cmN d = (mkP (cnt (PS d).n (x.sePc (PS d)) + cnt (PS (d + 1)).n (x.sePc (PS (d + 1)))) O T V).bl := by
  have a := arr_cp (sn := m.seen) (W := m.seriesCount) (h.1.2.2.2 d (by omega)).1 (h.1.2.2.2 (d + 1) (by omega)).1 (fun q hq e => in_se h (by omega) hq e) (fun q hq e => in_se h (by omega) hq e) (fun q hq e => see_eq h (by omega) hq e) (fun q hq e => see_eq h (by omega) hq e) (fun p r hp hr e1 e2 => h.2.2.2.1.1 d (d + 1) p r (by omega) (by omega) hp hr e1 e2) ha l1 l2 l3
  unfold MS.cmN
  rw [bl_e, bt_all (o1 := nI (m.parcels d)) (o2 := nI (m.parcels (d + 1))) (sn := true) a (fun w q => by
    show (decide (m.pointSeries q = w) && ((decide (m.places q = nI (m.parcels d)) || decide (m.places q = nI (m.parcels (d + 1)))) && (!true || m.seen q))) = (((m.inpc d q || m.inpc (d + 1) q) && m.seen q) && decide (m.pointSeries q = w))
    rw [Bool.not_true, Bool.false_or]
    exact Bool.and_comm _ _) (W := m.seriesCount) (fun q hq e => by
    rw [Bool.and_eq_true, Bool.or_eq_true] at e
    rcases e.1 with z | z
    · exact in_se h (by omega) hq z
    · exact in_se h (by omega) hq z)]
/-- nothing seen: no blocks -/
theorem cmN_0 {d : Nat} (h : ptR m x PS dn) (hd : d + 2 ≤ x.npc) (hz : cnt (PS d).n (x.sePc (PS d)) + cnt (PS (d + 1)).n (x.sePc (PS (d + 1))) = 0) : m.cmN d = 0 := by
  have e := cmN_eq (go := fun _ => 0) (gt := fun _ => 0) (gv := fun _ => 0) (O := fun _ => 0) (T := fun _ => 0) (V := fun _ => 0) h hd ⟨fun j hj e => absurd e (by rw [cnt_z (n := (PS d).n) (f := x.sePc (PS d)) (by omega) hj]; decide), fun j hj e => absurd e (by rw [cnt_z (n := (PS (d + 1)).n) (f := x.sePc (PS (d + 1))) (by omega) hj]; decide)⟩ (by rw [hz]; exact fun j hj => absurd hj (Nat.not_lt_zero j)) (by rw [hz]; exact fun j hj => absurd hj (Nat.not_lt_zero j)) (by rw [hz]; exact fun j hj => absurd hj (Nat.not_lt_zero j))
  rw [e, hz, bl_0]
end BL
end
section
/-! The reference's flush and compact over the points' relation. -/
section RF
variable {m : MS} {x x1 x' : VS} {PS PS' : Nat → PT} {dn : Nat → Nat}
theorem flu_pl (h : ptR m x PS dn) {q : Nat} (hq : q < m.points) : mapT m.points m.isM1 m.flP m.places q = if m.places q = -1 then nI m.parcelNumber else m.places q := by
  rw [mapT_v hq]
  by_cases e : m.places q = -1
  · rw [if_pos (show m.isM1 q = true from decide_eq_true e), if_pos e]
    exact if_pos (hd_seen h hq (decide_eq_true e))
  · rw [if_neg (show ¬ m.isM1 q = true from fun z => e (of_decide_eq_true z)), if_neg e]
theorem flu_pt {O : Nat → Nat} {T V : Nat → Int64} (h : ptR m x PS dn) (hz : 0 < x.hsize) (hu : ∀ q, q < m.points → m.hdd q = true → cv1 x.nsO x.nsF x.nsT x.nsc (m.pointSeries q) (m.pointTimes q) = none) (hpn : m.parcelNumber < 2 ^ 29) (hx : x'.npc = x.npc + 1 ∧ x'.nhor = x.nhor ∧ x'.nsO = x.nsO ∧ x'.nsF = x.nsF ∧ x'.nsT = x.nsT ∧ x'.nsc = x.nsc ∧ x'.hsize = 0) (l1 : laid x.hO x.hsize x.hsize x.hO O) (l2 : laid x.hO x.hsize x.hsize x.hT T) (l3 : laid x.hO x.hsize x.hsize x.hV V) : ptR m.fluS x' (va_up PS x.npc (mkP x.hsize O T V)) dn := by
  have hh : decide (0 < m.heads) = true := decide_eq_true (by rw [heads_eq h]; exact hz)
  have p : ptR ((m.fl1 (m.manyN + m.catN + 1)).fl2 m.manyN) x' (va_up PS x.npc (mkP x.hsize O T V)) dn := ptR_pack h hu ⟨rfl, rfl, rfl, rfl, rfl, rfl, rfl, rfl, rfl⟩ ⟨fun q hq => flu_pl h hq, rfl, rfl, rfl, rfl⟩ hpn hx l1 l2 l3 (many_eq h hz l1 l2 l3).symm
  unfold MS.fluS
  rw [hh]
  exact ptR_tidy p ⟨rfl, rfl, rfl, rfl, rfl⟩ ⟨rfl, rfl, rfl, rfl, rfl, rfl, rfl, rfl, rfl⟩ ⟨rfl, rfl, rfl, rfl, rfl, rfl⟩ ⟨rfl, rfl, rfl, rfl⟩
theorem flu_pt0 (h : ptR m x PS dn) (hz : x.hsize = 0) (h3 : vP x x') (h4 : vH x x') : ptR m.fluS x' PS dn := by
  have h0 : m.heads = 0 := by rw [heads_eq h, hz]
  have hh : decide (0 < m.heads) = false := decide_eq_false (by omega)
  have hp : mapT m.points m.isM1 m.flP m.places = m.places := by
    funext q
    rcases Nat.lt_or_ge q m.points with hq | hq
    · rw [flu_pl h hq]
      by_cases e : m.places q = -1
      · exact absurd (show (decide (m.places q = -1) && m.seen q) = true from (by rw [decide_eq_true e, hd_seen h hq (decide_eq_true e)]; rfl)) (by rw [cnt_z (f := fun q => decide (m.places q = -1) && m.seen q) h0 hq]; decide)
      · rw [if_neg e]
    · exact mapT_at _ _ _ hq
  have p : ptR (m.fl1 (m.manyN + m.catN + 1)) x' PS dn := ptR_same h ⟨rfl, rfl, rfl, rfl, rfl⟩ ⟨rfl, rfl, rfl, rfl, hp, rfl, rfl, rfl, rfl⟩ h3 h4
  unfold MS.fluS
  rw [hh]
  exact ptR_tidy p ⟨rfl, rfl, rfl, rfl, rfl⟩ ⟨rfl, rfl, rfl, rfl, rfl, rfl, rfl, rfl, rfl⟩ ⟨rfl, rfl, rfl, rfl, rfl, rfl⟩ ⟨rfl, rfl, rfl, rfl⟩
theorem cms_pl (d : Nat) {q : Nat} (hq : q < m.points) : mapT m.points (m.is12 d) m.flP m.places q = if (m.inpc d q || m.inpc (d + 1) q) = true then (if m.seen q = true then nI m.parcelNumber else -2) else m.places q := mapT_v hq
theorem rmd_1 {f : Nat → Nat} {d v n j : Nat} (hj : j < n - 1) : rmT (d + 1) (va_up f d v) (n - 1) j = if j = d then v else if j < d then f j else f (j + 1) := by
  unfold rmT
  by_cases e : j = d
  · subst e
    rw [if_neg (by omega), if_pos rfl]
    exact if_pos rfl
  · rw [if_neg e]
    by_cases g : j < d
    · rw [if_neg (by omega), if_pos g]
      exact if_neg e
    · rw [if_pos (by omega), if_neg g]
      exact if_neg (by omega)
theorem rmd_2 {f : Nat → Nat} {d v n j : Nat} (hj : j < n - 2) : rmT d (rmT (d + 1) (va_up f d v) (n - 1)) (n - 1 - 1) j = if j < d then f j else f (j + 2) := by
  by_cases g : j < d
  · rw [if_pos g]
    show (if d ≤ j ∧ j < n - 1 - 1 then _ else rmT (d + 1) (va_up f d v) (n - 1) j) = f j
    rw [if_neg (by omega), rmd_1 (by omega), if_neg (by omega), if_pos g]
  · rw [if_neg g]
    show (if d ≤ j ∧ j < n - 1 - 1 then rmT (d + 1) (va_up f d v) (n - 1) (j + 1) else _) = f (j + 2)
    rw [if_pos (by omega), rmd_1 (by omega), if_neg (by omega), if_neg (by omega)]
variable {d : Nat} {go O : Nat → Nat} {gt gv T V : Nat → Int64}
theorem cms_pt (h : ptR m x PS dn) (hd : d + 2 ≤ x.npc) (h64 : x.nsc ≤ 64) (hpn : m.parcelNumber < 2 ^ 29) (hn : x'.npc = x.npc - 1) (hx : x'.nhor = x.nhor ∧ x'.hsize = x.hsize ∧ x'.hO = x.hO ∧ x'.hT = x.hT ∧ x'.hV = x.hV)
    (hx1 : (x1.nsO = x.nsO ∧ x1.nsF = x.nsF ∧ x1.nsT = x.nsT ∧ x1.nsc = x.nsc) ∧ x1.npc = x'.npc) (hsc : x'.nsO = tdT (x1.esC PS') x.nsO x.nsc ∧ x'.nsF = tdT (x1.esC PS') x.nsF x.nsc ∧ x'.nsT = tdT (x1.esC PS') x.nsT x.nsc ∧ x'.nsc = cnt x.nsc (x1.esC PS')) (hPS : ∀ j, j < x'.npc → PS' j = if j = d then mkP (cnt (PS d).n (x.sePc (PS d)) + cnt (PS (d + 1)).n (x.sePc (PS (d + 1)))) O T V else if j < d then PS j else PS (j + 1))
    (ha : gat2 (x.sePc (PS d)) (x.sePc (PS (d + 1))) (PS d) (PS (d + 1)) go gt gv) (l1 : laid go (cnt (PS d).n (x.sePc (PS d)) + cnt (PS (d + 1)).n (x.sePc (PS (d + 1)))) (cnt (PS d).n (x.sePc (PS d)) + cnt (PS (d + 1)).n (x.sePc (PS (d + 1)))) go O) (l2 : laid go (cnt (PS d).n (x.sePc (PS d)) + cnt (PS (d + 1)).n (x.sePc (PS (d + 1)))) (cnt (PS d).n (x.sePc (PS d)) + cnt (PS (d + 1)).n (x.sePc (PS (d + 1)))) gt T) (l3 : laid go (cnt (PS d).n (x.sePc (PS d)) + cnt (PS (d + 1)).n (x.sePc (PS (d + 1)))) (cnt (PS d).n (x.sePc (PS d)) + cnt (PS (d + 1)).n (x.sePc (PS (d + 1)))) gv V) (hp : 0 < cnt (PS d).n (x.sePc (PS d)) + cnt (PS (d + 1)).n (x.sePc (PS (d + 1)))) : ptR (m.cmS d) x' PS' (tdT (x1.esC PS') dn x.nsc) := by
  have en := cmN_eq h hd ha l1 l2 l3
  have hh : decide (m.cmN d = 0) = false := decide_eq_false (by rw [en]; exact Nat.ne_of_gt (bl_p O T V hp))
  have pc : m.parcelCount = x.npc := h.1.2.1
  have p : ptR (((m.cm1 d).cm2 d (m.cmN d)).rmS (d + 1)) x' PS' (tdT (x1.esC PS') dn x.nsc) := ptR_cmp h hd h64 hpn ⟨rfl, rfl, rfl, rfl, rfl, rfl, rfl, rfl, rfl, (by rw [hn, ← pc]; rfl)⟩ (fun q hq => cms_pl d hq)
    (fun j hj => rmd_1 (show j < m.parcelCount - 1 by omega)) (fun j hj => rmd_1 (show j < m.parcelCount - 1 by omega)) rfl hn hx hx1 hsc hPS ha l1 l2 l3 en.symm
  unfold MS.cmS
  rw [hh]
  exact ptR_tidy p ⟨rfl, rfl, rfl, rfl, rfl⟩ ⟨rfl, rfl, rfl, rfl, rfl, rfl, rfl, rfl, rfl⟩ ⟨rfl, rfl, rfl, rfl, rfl, rfl⟩ ⟨rfl, rfl, rfl, rfl⟩
theorem cms_pt0 (h : ptR m x PS dn) (hd : d + 2 ≤ x.npc) (h64 : x.nsc ≤ 64) (hpn : m.parcelNumber < 2 ^ 29) (hn : x'.npc = x.npc - 2) (hx : x'.nhor = x.nhor ∧ x'.hsize = x.hsize ∧ x'.hO = x.hO ∧ x'.hT = x.hT ∧ x'.hV = x.hV)
    (hx1 : (x1.nsO = x.nsO ∧ x1.nsF = x.nsF ∧ x1.nsT = x.nsT ∧ x1.nsc = x.nsc) ∧ x1.npc = x'.npc) (hsc : x'.nsO = tdT (x1.esC PS') x.nsO x.nsc ∧ x'.nsF = tdT (x1.esC PS') x.nsF x.nsc ∧ x'.nsT = tdT (x1.esC PS') x.nsT x.nsc ∧ x'.nsc = cnt x.nsc (x1.esC PS')) (hPS : ∀ j, j < x'.npc → PS' j = if j < d then PS j else PS (j + 2)) (hz : cnt (PS d).n (x.sePc (PS d)) + cnt (PS (d + 1)).n (x.sePc (PS (d + 1))) = 0) : ptR (m.cmS d) x' PS' (tdT (x1.esC PS') dn x.nsc) := by
  have hh : decide (m.cmN d = 0) = true := decide_eq_true (cmN_0 h hd hz)
  have pc : m.parcelCount = x.npc := h.1.2.1
  have p : ptR ((((m.cm1 d).cm2 d (m.cmN d)).rmS (d + 1)).rmS d) x' PS' (tdT (x1.esC PS') dn x.nsc) := ptR_cm0 h hd h64 hpn ⟨rfl, rfl, rfl, rfl, rfl, rfl, rfl, rfl, rfl, (by rw [hn, ← pc]; rfl)⟩ (fun q hq => cms_pl d hq)
    (fun j hj => rmd_2 (show j < m.parcelCount - 2 by omega)) (fun j hj => rmd_2 (show j < m.parcelCount - 2 by omega)) rfl hn hx hx1 hsc hPS hz
  unfold MS.cmS
  rw [hh]
  exact ptR_tidy p ⟨rfl, rfl, rfl, rfl, rfl⟩ ⟨rfl, rfl, rfl, rfl, rfl, rfl, rfl, rfl, rfl⟩ ⟨rfl, rfl, rfl, rfl, rfl, rfl⟩ ⟨rfl, rfl, rfl, rfl⟩
end RF
end
section
/-! The reference's retain over the points' relation. -/
theorem ite_iq {α : Type} {p q : Prop} [Decidable p] [Decidable q] {u v : α} (h : p ↔ q) : (if p then u else v) = if q then u else v := by
  by_cases g : p
  · rw [if_pos g, if_pos (h.mp g)]
  · rw [if_neg g, if_neg (fun y => g (h.mpr y))]
section RJ
variable {m z : MS} {x x1 x' : VS} {PS PS' : Nat → PT} {dn : Nat → Nat} {a : Int64} {n j : Nat}
/-- j parcels looked at, from the last one down -/
def rjI (m : MS) (PS : Nat → PT) (a : Int64) (n j : Nat) (z : MS) : Prop :=
  (z.points = m.points ∧ z.pointSeries = m.pointSeries ∧ z.pointTimes = m.pointTimes ∧ z.pointValues = m.pointValues ∧ z.hidden = m.hidden ∧ z.deletes = m.deletes ∧ z.seriesCount = m.seriesCount ∧ z.lasts = m.lasts ∧ z.horizon = a ∧ z.parcelNumber = m.parcelNumber) ∧
  (z.parcelCount = n - j + (cnt n (mhC PS a) - cnt (n - j) (mhC PS a)) ∧ (∀ i, i < n - j → z.parcels i = m.parcels i ∧ z.parcelBlocks i = m.parcelBlocks i) ∧ ∀ k, n - j ≤ k → k < n → mhC PS a k = true → z.parcels (n - j + (cnt k (mhC PS a) - cnt (n - j) (mhC PS a))) = m.parcels k ∧ z.parcelBlocks (n - j + (cnt k (mhC PS a) - cnt (n - j) (mhC PS a))) = m.parcelBlocks k) ∧
  ∀ q, q < m.points → z.places q = if (m.hdd q = true ∧ m.pointTimes q < a) ∨ (∃ k, k < n ∧ n - j ≤ k ∧ m.inpc k q = true ∧ mhC PS a k = false) then -2 else m.places q
theorem rjI_0 (hn : m.parcelCount = n) : rjI m PS a n 0 (m.rt1 a) := by
  refine ⟨⟨rfl, rfl, rfl, rfl, rfl, rfl, rfl, rfl, rfl, rfl⟩, ⟨?_, fun i _ => ⟨rfl, rfl⟩, fun k h1 h2 => absurd h2 (by omega)⟩, fun q hq => ?_⟩
  · show m.parcelCount = _
    rw [hn, Nat.sub_zero, Nat.sub_self]
    rfl
  · show mapT m.points (m.rtH a) m2F m.places q = _
    rw [mapT_v hq]
    have e : m.rtH a q = true ↔ ((m.hdd q = true ∧ m.pointTimes q < a) ∨ (∃ k, k < n ∧ n - 0 ≤ k ∧ m.inpc k q = true ∧ mhC PS a k = false)) := by
      unfold MS.rtH MS.hdd
      rw [Bool.and_eq_true, Bool.not_eq_true', decide_eq_false_iff_not, Int64.not_le]
      constructor
      · exact Or.inl
      · rintro (y | ⟨k, k2, k1, -⟩)
        · exact y
        · exact absurd k2 (by omega)
    by_cases g : m.rtH a q = true
    · rw [if_pos g, if_pos (e.mp g)]
      rfl
    · rw [if_neg g, if_neg (fun y => g (e.mpr y))]
theorem rjI_pl (h : ptR m x PS dn) (hn : x.npc = n) (hj : j < n) (hz : rjI m PS a n j z) {q : Nat} (hq : q < m.points) : z.places q = nI (z.parcels (n - 1 - j)) ↔ m.inpc (n - 1 - j) q = true := by
  obtain ⟨-, ⟨-, p2, -⟩, p3⟩ := hz
  rw [p3 q hq, (p2 (n - 1 - j) (by omega)).1]
  by_cases g : (m.hdd q = true ∧ m.pointTimes q < a) ∨ (∃ k, k < n ∧ n - j ≤ k ∧ m.inpc k q = true ∧ mhC PS a k = false)
  · rw [if_pos g]
    constructor
    · intro y
      have hp := h.2.2.1.2.2.1 (n - 1 - j) (by omega)
      have hp2 := h.2.2.1.2.2.2
      exact absurd (show nI (m.parcels (n - 1 - j)) < 0 by rw [← y]; decide) (nI_pos (by omega))
    · intro y
      have y2 := inP_pk h (by omega) y
      rcases g with ⟨g, -⟩ | ⟨k, k2, k1, k3, -⟩
      · rw [y2.2.2] at g
        cases g
      · have := inP_1 h (by omega) (by omega) y k3
        omega
  · rw [if_neg g]
    exact decide_eq_true_iff.symm
theorem rjI_s (h : ptR m x PS dn) (h0 : (-1 : Int64) < a) (hn : x.npc = n) (hj : j < n) (hz : rjI m PS a n j z) : rjI m PS a n (j + 1) (z.rtK a (n - 1 - j)) := by
  have hpl := fun q hq => rjI_pl h hn hj hz (q := q) hq
  have hz1 := hz
  obtain ⟨⟨b1, b2, b3, b4, b5, b6, b7, b8, b9, b10⟩, ⟨p0, p1, p2⟩, p3⟩ := hz
  obtain ⟨i, rfl⟩ : ∃ i, n = i + 1 + j := ⟨n - 1 - j, by omega⟩
  have e1 : i + 1 + j - 1 - j = i := by omega
  have e2 : i + 1 + j - j = i + 1 := by omega
  have e3 : i + 1 + j - (j + 1) = i := by omega
  unfold rjI
  rw [e1] at hpl ⊢
  rw [e2] at p0 p1 p2 p3
  rw [e3]
  have mh := mh_eq h h0 (k := i) (by omega)
  have al : allB z.points (z.rtA a i) = true ↔ mhC PS a i = false := by
    rw [mh, allB_iff, b1]
    have s : ∀ q, q < m.points → (z.rtA a i q = true ↔ (m.inpc i q = true → m.pointTimes q < a)) := fun q hq => by
      unfold MS.rtA
      rw [b3, Bool.or_eq_true, Bool.not_eq_true', Bool.not_eq_true', decide_eq_false_iff_not, decide_eq_false_iff_not, Int64.not_le, hpl q hq]
      constructor
      · rintro (y | y) w
        · exact absurd w y
        · exact y
      · intro y
        by_cases w : m.inpc i q = true
        · exact Or.inr (y w)
        · exact Or.inl w
    exact ⟨fun y q hq => (s q hq).mp (y q hq), fun y q hq => (s q hq).mpr (y q hq)⟩
  have cs : cnt (i + 1) (mhC PS a) ≤ cnt (i + 1 + j) (mhC PS a) := cnt_mono (by omega)
  cases g : mhC PS a i with
  | false =>
    have ci : cnt (i + 1) (mhC PS a) = cnt i (mhC PS a) := cnt_f g
    have e : z.rtK a i = (z.s_places (mapT z.points (z.rtP i) m2F z.places)).rmS i := by unfold MS.rtK; rw [al.mpr g]; rfl
    rw [e]
    refine ⟨⟨b1, b2, b3, b4, b5, b6, b7, b8, b9, b10⟩, ⟨?_, fun k hk => ?_, fun k k1 k2 k3 => ?_⟩, fun q hq => ?_⟩
    · show z.parcelCount - 1 = _
      rw [p0, ci]
      omega
    · show rmT i z.parcels (z.parcelCount - 1) k = m.parcels k ∧ rmT i z.parcelBlocks (z.parcelCount - 1) k = m.parcelBlocks k
      have := p1 k (by omega)
      unfold rmT
      rw [if_neg (by omega), if_neg (by omega)]
      exact this
    · have hk : i + 1 ≤ k := by
        rcases Nat.lt_or_ge i k with y | y
        · exact y
        · rw [show k = i by omega, g] at k3
          cases k3
      have c1 := cnt_lt k2 k3
      have c2 : cnt i (mhC PS a) ≤ cnt k (mhC PS a) := cnt_mono (by omega)
      have := p2 k hk k2 k3
      rw [ci] at this p0
      show rmT i z.parcels (z.parcelCount - 1) _ = m.parcels k ∧ rmT i z.parcelBlocks (z.parcelCount - 1) _ = m.parcelBlocks k
      unfold rmT
      rw [if_pos (by omega), if_pos (by omega), show i + (cnt k (mhC PS a) - cnt i (mhC PS a)) + 1 = i + 1 + (cnt k (mhC PS a) - cnt i (mhC PS a)) by omega]
      exact this
    · show mapT z.points (z.rtP i) m2F z.places q = _
      rw [b1, mapT_v hq]
      by_cases w : m.inpc i q = true
      · rw [if_pos (show z.rtP i q = true from decide_eq_true ((hpl q hq).mpr w)), if_pos (Or.inr ⟨i, by omega, Nat.le_refl i, w, g⟩)]
        rfl
      · rw [if_neg (show ¬ z.rtP i q = true from fun y => w ((hpl q hq).mp (of_decide_eq_true y))), p3 q hq]
        have ee : ((m.hdd q = true ∧ m.pointTimes q < a) ∨ (∃ k, k < i + 1 + j ∧ i + 1 ≤ k ∧ m.inpc k q = true ∧ mhC PS a k = false)) ↔ ((m.hdd q = true ∧ m.pointTimes q < a) ∨ (∃ k, k < i + 1 + j ∧ i ≤ k ∧ m.inpc k q = true ∧ mhC PS a k = false)) := by
          constructor
          · rintro (y | ⟨k, k2, k1, k3, k4⟩)
            · exact Or.inl y
            · exact Or.inr ⟨k, k2, by omega, k3, k4⟩
          · rintro (y | ⟨k, k2, k1, k3, k4⟩)
            · exact Or.inl y
            · rcases Nat.lt_or_ge i k with v | v
              · exact Or.inr ⟨k, k2, v, k3, k4⟩
              · rw [show k = i by omega] at k3
                exact absurd k3 w
        exact ite_iq ee
  | true =>
    have ci : cnt (i + 1) (mhC PS a) = cnt i (mhC PS a) + 1 := cnt_t g
    have e : z.rtK a i = z := by
      unfold MS.rtK
      cases y : allB z.points (z.rtA a i) with
      | false => rfl
      | true => have := al.mp y; rw [g] at this; cases this
    rw [e]
    refine ⟨⟨b1, b2, b3, b4, b5, b6, b7, b8, b9, b10⟩, ⟨?_, fun k hk => p1 k (by omega), fun k k1 k2 k3 => ?_⟩, fun q hq => ?_⟩
    · rw [p0]
      omega
    · rcases Nat.lt_or_ge i k with v | v
      · have c2 : cnt (i + 1) (mhC PS a) ≤ cnt k (mhC PS a) := cnt_mono (by omega)
        have := p2 k v k2 k3
        rw [show i + (cnt k (mhC PS a) - cnt i (mhC PS a)) = i + 1 + (cnt k (mhC PS a) - cnt (i + 1) (mhC PS a)) by omega]
        exact this
      · rw [show k = i by omega, Nat.sub_self]
        exact p1 i (by omega)
    · rw [p3 q hq]
      have ee : ((m.hdd q = true ∧ m.pointTimes q < a) ∨ (∃ k, k < i + 1 + j ∧ i + 1 ≤ k ∧ m.inpc k q = true ∧ mhC PS a k = false)) ↔ ((m.hdd q = true ∧ m.pointTimes q < a) ∨ (∃ k, k < i + 1 + j ∧ i ≤ k ∧ m.inpc k q = true ∧ mhC PS a k = false)) := by
        constructor
        · rintro (y | ⟨k, k2, k1, k3, k4⟩)
          · exact Or.inl y
          · exact Or.inr ⟨k, k2, by omega, k3, k4⟩
        · rintro (y | ⟨k, k2, k1, k3, k4⟩)
          · exact Or.inl y
          · rcases Nat.lt_or_ge i k with v | v
            · exact Or.inr ⟨k, k2, v, k3, k4⟩
            · rw [show k = i by omega, g] at k4
              cases k4
      exact ite_iq ee
theorem rjI_all (h : ptR m x PS dn) (h0 : (-1 : Int64) < a) (hn : x.npc = n) : ∀ {j : Nat}, j ≤ n → rjI m PS a n j ((m.rt1 a).rtJ a n j)
  | 0, _ => rjI_0 (h.1.2.1.trans hn)
  | _ + 1, hj => rjI_s h h0 hn hj (rjI_all h h0 hn (Nat.le_of_succ_le hj))
/-- the horizon moved -/
theorem rts_pt (h : ptR m x PS dn) (h0 : (-1 : Int64) < a) (h64 : x.nsc ≤ 64) (hho : x'.nhor = a) (hPS : ∀ k, k < x.npc → mhC PS a k = true → PS' (cnt k (mhC PS a)) = PS k) (hn : x'.npc = cnt x.npc (mhC PS a)) (hhd : x'.hsize = cnt x.hsize (x.hAb a) ∧ x'.hO = tdT (x.hAb a) x.hO x.hsize ∧ x'.hT = tdT (x.hAb a) x.hT x.hsize ∧ x'.hV = tdT (x.hAb a) x.hV x.hsize)
    (hx1 : (x1.nsO = x.nsO ∧ x1.nsF = x.nsF ∧ x1.nsT = x.nsT ∧ x1.nsc = x.nsc) ∧ x1.npc = x'.npc) (hsc : x'.nsO = tdT (x1.esC PS') x.nsO x.nsc ∧ x'.nsF = tdT (x1.esC PS') x.nsF x.nsc ∧ x'.nsT = tdT (x1.esC PS') x.nsT x.nsc ∧ x'.nsc = cnt x.nsc (x1.esC PS')) : ptR (m.rtS a) x' PS' (tdT (x1.esC PS') dn x.nsc) := by
  have pc : m.parcelCount = x.npc := h.1.2.1
  obtain ⟨⟨b1, b2, b3, b4, b5, b6, b7, b8, b9, b10⟩, ⟨p0, p1, p2⟩, p3⟩ := rjI_all h h0 rfl (Nat.le_refl x.npc)
  rw [Nat.sub_self] at p0 p1 p2 p3
  have c0 : cnt 0 (mhC PS a) = 0 := rfl
  rw [c0] at p0 p2
  have p : ptR ((m.rt1 a).rtJ a x.npc x.npc) x' PS' (tdT (x1.esC PS') dn x.nsc) := ptR_ret (a := a) h h64 ⟨b1, b2, b3, b4, b5, b6, b7, b8, b9.trans hho.symm, (by rw [p0, hn]; omega)⟩ b9 (fun q hq => by
    rw [p3 q hq]
    refine ite_iq ⟨?_, ?_⟩
    · rintro (y | ⟨k, k2, k1, k3, k4⟩)
      · exact Or.inl y
      · exact Or.inr ⟨k, k2, k3, k4⟩
    · rintro (y | ⟨k, k2, k3, k4⟩)
      · exact Or.inl y
      · exact Or.inr ⟨k, k2, Nat.zero_le k, k3, k4⟩) (fun k hk e => by
    have := p2 k (Nat.zero_le k) hk e
    rw [Nat.zero_add, Nat.sub_zero] at this
    exact ⟨this.1, this.2, hPS k hk e⟩) b10 hn hhd hx1 hsc
  unfold MS.rtS
  rw [pc]
  exact ptR_tidy p ⟨rfl, rfl, rfl, rfl, rfl⟩ ⟨rfl, rfl, rfl, rfl, rfl, rfl, rfl, rfl, rfl⟩ ⟨rfl, rfl, rfl, rfl, rfl, rfl⟩ ⟨rfl, rfl, rfl, rfl⟩
end RJ
end
section
/-! What a start goes back to is kept; a start's first half. -/
section BG
variable {m m' : MS} {x x' : VS} {PS : Nat → PT} {dn bn : Nat → Nat}
/-- what is kept of the class is the same -/
def vB (x x' : VS) : Prop := (x'.ssO = x.ssO ∧ x'.ssF = x.ssF ∧ x'.ssT = x.ssT ∧ x'.ssc = x.ssc) ∧ (x'.shor = x.shor ∧ x'.spc = x.spc ∧ x'.sP = x.sP ∧ x'.sser = x.sser ∧ x'.slast = x.slast ∧ x'.scat = x.scat) ∧ x'.npc = x.npc ∧ (∀ k, k < x.npc → x'.nP k = x.nP k) ∧ x'.ncat = x.ncat
def mB (m m' : MS) : Prop := m'.baseHorizon = m.baseHorizon ∧ m'.horizon = m.horizon ∧ m'.baseSeries = m.baseSeries ∧ m'.baseLasts = m.baseLasts ∧ m.baseSeries ≤ m'.seriesCount ∧ m.deletes ≤ m'.deletes
theorem bsR_g (h : bsR m x bn) (h1 : ∀ q', q' < m'.points → m'.pkd q' = true → ∃ q, q < m.points ∧ m.pkd q = true ∧ m'.pointSeries q' = m.pointSeries q ∧ m'.pointTimes q' = m.pointTimes q ∧ m'.baseHidden q' = m.baseHidden q) (h2 : ∀ q, q < m.points → m.pkd q = true → ∃ q', q' < m'.points ∧ m'.pkd q' = true ∧ m'.pointSeries q' = m.pointSeries q ∧ m'.pointTimes q' = m.pointTimes q) (hb : mB m m') (hx : vB x x') : bsR m' x' bn := by
  obtain ⟨⟨g1, g2, g3⟩, ⟨i1, i2, i3, i4⟩, ⟨j1, j2, j3, j4, j5⟩⟩ := h
  obtain ⟨b1, b2, b3, b4, b5, b6⟩ := hb
  obtain ⟨⟨c1, c2, c3, c4⟩, ⟨d1, d2, d3, d4, d5, d6⟩, e1, e2, e3⟩ := hx
  refine ⟨⟨?_, ?_, ?_⟩, ⟨?_, ?_, ?_, ?_⟩, ⟨?_, ?_, ?_, ?_, ?_⟩⟩
  · intro q' hq' hp
    obtain ⟨q, q1, q2, q3, q4, q5⟩ := h1 q' hq' hp
    rw [q3, q4, q5, c1, c2, c3, c4]
    exact g1 q q1 q2
  · rw [c4]
    exact ⟨fun j hj => Nat.lt_of_lt_of_le (g2.1 j hj) b6, g2.2⟩
  · rw [c1, c2, c3, c4]
    intro j hj
    obtain ⟨q, q1, q2, q3⟩ := g3 j hj
    obtain ⟨q', r1, r2, r3, r4⟩ := h2 q q1 q2
    exact ⟨q', r1, r2, by rw [r3, r4]; exact q3⟩
  · rw [b1, d1]; exact i1
  · rw [b1, b2]; exact i2
  · rw [d2, e1]; exact i3
  · intro k hk
    rw [e1] at hk
    rw [d3, e2 k hk]
    exact i4 k hk
  · intro q' hq' hp
    obtain ⟨q, q1, q2, q3, q4, -⟩ := h1 q' hq' hp
    rw [q3, q4, b3, b4]
    exact j1 q q1 q2
  · rw [b3, d4]; exact j2
  · rw [d4, d5, b4]; exact j3
  · rw [b3]; exact b5
  · rw [d6, e3]; exact j5
/-- the points are the same, but for places of the head -/
theorem bsR_p (h : bsR m x bn) (hm : m'.points = m.points ∧ m'.pointSeries = m.pointSeries ∧ m'.pointTimes = m.pointTimes ∧ m'.baseHidden = m.baseHidden) (hp : ∀ q, q < m.points → m'.pkd q = m.pkd q) (hb : mB m m') (hx : vB x x') : bsR m' x' bn := by
  obtain ⟨a1, a2, a3, a4⟩ := hm
  refine bsR_g h (fun q hq e => ?_) (fun q hq e => ?_) hb hx
  · rw [a1] at hq
    rw [hp q hq] at e
    exact ⟨q, hq, e, by rw [a2], by rw [a3], by rw [a4]⟩
  · exact ⟨q, by rw [a1]; exact hq, by rw [hp q hq]; exact e, by rw [a2], by rw [a3]⟩
theorem bsR_come {w : Nat} {a : Int64} {u : Int32} (h : bsR m x bn) (hm : m'.points = m.points + 1 ∧ m'.pointSeries = va_up m.pointSeries m.points w ∧ m'.pointTimes = va_up m.pointTimes m.points a ∧ m'.places = va_up m.places m.points (-1) ∧ m'.baseHidden = va_up m.baseHidden m.points u) (hb : mB m m') (hx : vB x x') : bsR m' x' bn := by
  obtain ⟨a1, a2, a3, a4, a5⟩ := hm
  have pk : ∀ q, ¬ q = m.points → m'.pkd q = m.pkd q := fun q hq => by unfold MS.pkd; rw [a4, va_up_ne _ _ hq]
  refine bsR_g h (fun q hq e => ?_) (fun q hq e => ?_) hb hx
  · have hn : ¬ q = m.points := fun z => by
      subst z
      unfold MS.pkd at e
      rw [a4, va_up_self] at e
      exact absurd e (by decide)
    rw [pk q hn] at e
    exact ⟨q, by omega, e, by rw [a2, va_up_ne _ _ hn], by rw [a3, va_up_ne _ _ hn], by rw [a5, va_up_ne _ _ hn]⟩
  · have hn : ¬ q = m.points := by omega
    exact ⟨q, by omega, by rw [pk q hn]; exact e, by rw [a2, va_up_ne _ _ hn], by rw [a3, va_up_ne _ _ hn]⟩
theorem bsR_td (h : bsR m x bn) (hm : m'.points = cnt m.points m.stay ∧ m'.pointSeries = tdT m.stay m.pointSeries m.points ∧ m'.pointTimes = tdT m.stay m.pointTimes m.points ∧ m'.places = tdT m.stay m.places m.points ∧ m'.baseHidden = tdT m.stay m.baseHidden m.points) (hb : mB m m') (hx : vB x x') : bsR m' x' bn := by
  obtain ⟨a1, a2, a3, a4, a5⟩ := hm
  have st : ∀ q, m.pkd q = true → m.stay q = true := fun q e => by
    unfold MS.stay
    rw [decide_eq_false (fun z => by unfold MS.pkd at e; rw [z] at e; exact absurd e (by decide))]
    rfl
  have pk : ∀ q, q < m.points → m.stay q = true → m'.pkd (cnt q m.stay) = m.pkd q := fun q hq e => by unfold MS.pkd; rw [a4, tdT_get hq e]
  refine bsR_g h (fun i hi e => ?_) (fun q hq e => ?_) hb hx
  · rw [a1] at hi
    obtain ⟨q, q1, q2, rfl⟩ := cnt_at hi
    rw [pk q q1 q2] at e
    exact ⟨q, q1, e, by rw [a2, tdT_get q1 q2], by rw [a3, tdT_get q1 q2], by rw [a5, tdT_get q1 q2]⟩
  · have s := st q e
    exact ⟨cnt q m.stay, by rw [a1]; exact cnt_lt hq s, by rw [pk q hq s]; exact e, by rw [a2, tdT_get hq s], by rw [a3, tdT_get hq s]⟩
theorem st1_pl {q : Nat} (hq : q < m.points) : m.st1.places q = if m.places q = -1 then -2 else m.places q := by
  show mapT m.points m.isM1 m2F m.places q = _
  rw [mapT_v hq]
  refine ite_iq (u := m2F q) ?_
  exact decide_eq_true_iff
/-- a start, before the journal is done again -/
theorem st2_pt (h : ptR m x PS dn) (hb : bsR m x bn) (hx : x'.npc = x.spc ∧ x'.nhor = x.shor ∧ x'.nsc = x.ssc ∧ (∀ j, j < x.ssc → x'.nsO j = x.ssO j ∧ x'.nsF j = x.ssF j ∧ x'.nsT j = x.ssT j) ∧ x'.hsize = 0) : ptR m.st2 x' PS bn := by
  have p : ptR m.st1 x' PS bn := ptR_rst h hb ⟨rfl, rfl, rfl, rfl, rfl, rfl, rfl, fun s hs => (show mapT m.baseSeries (fun _ => true) m.baseLasts m.lasts s = m.baseLasts s by rw [mapT_v hs, if_pos rfl]), rfl⟩ ⟨rfl, rfl, rfl, rfl, fun q hq => st1_pl hq⟩ hx
  exact ptR_tidy p ⟨rfl, rfl, rfl, rfl, rfl⟩ ⟨rfl, rfl, rfl, rfl, rfl, rfl, rfl, rfl, rfl⟩ ⟨rfl, rfl, rfl, rfl, rfl, rfl⟩ ⟨rfl, rfl, rfl, rfl⟩
theorem st2_bs (hb : bsR m x bn) (hx : vB x x') : bsR m.st2 x' bn := by
  have e : m.st1.horizon = m.horizon := hb.2.1.2.1
  have p : bsR m.st1 x' bn := bsR_p hb ⟨rfl, rfl, rfl, rfl⟩ (fun q hq => by
    unfold MS.pkd
    rw [st1_pl hq]
    by_cases z : m.places q = -1
    · rw [if_pos z, z]; rfl
    · rw [if_neg z]) ⟨rfl, e, rfl, rfl, Nat.le_refl _, Nat.le_refl _⟩ hx
  exact bsR_td p ⟨rfl, rfl, rfl, rfl, rfl⟩ ⟨rfl, rfl, rfl, rfl, Nat.le_refl _, Nat.le_refl _⟩ ⟨⟨rfl, rfl, rfl, rfl⟩, ⟨rfl, rfl, rfl, rfl, rfl, rfl⟩, rfl, fun _ _ => rfl, rfl⟩
end BG
end
section
/-! The journal done again: both sides, record by record. -/
section RP
variable {m m' : MS} {x x' y : VS} {PS : Nat → PT} {dn bn : Nat → Nat} {r : Nat} {fN : Nat → Nat}
theorem isTm_i {a : Int64} (h : isTm a = true) : ¬ a < 0 ∧ ¬ 1099511627775 < a := by
  unfold isTm at h
  rw [Bool.and_eq_true, nd, nd] at h
  exact h
/-- a last time is later -/
theorem ptR_la (h : ptR m x PS dn) (h1 : mP m m') (hm : m'.points = m.points ∧ m'.pointSeries = m.pointSeries ∧ m'.pointTimes = m.pointTimes ∧ m'.pointValues = m.pointValues ∧ m'.places = m.places ∧ m'.hidden = m.hidden ∧ m'.deletes = m.deletes) (hs : m.seriesCount ≤ m'.seriesCount ∧ ∀ s, s < m.seriesCount → ¬ m'.lasts s < m.lasts s) (h3 : vP x x') (h4 : vH x x') : ptR m' x' PS dn := by
  obtain ⟨a1, a2, a3, a4, a5⟩ := h1
  obtain ⟨b1, b2, b3, b4, b5, b6, b7⟩ := hm
  obtain ⟨c1, c2, c3, c4, c5, c6⟩ := h3
  obtain ⟨d1, d2, d3, d4⟩ := h4
  have e1 : m'.hdd = m.hdd := by funext q; unfold MS.hdd; rw [b5]
  have e2 : m'.inpc = m.inpc := by funext k q; unfold MS.inpc; rw [b5, a2]
  have e3 : m'.pkd = m.pkd := by funext q; unfold MS.pkd; rw [b5]
  unfold ptR at h ⊢
  rw [a1, a2, a3, a4, a5, b1, b2, b3, b4, b5, b6, b7, c1, c2, c3, c4, c5, c6, d1, d2, d3, d4, e1, e2, e3]
  obtain ⟨g, i, j, k, ⟨l1, l2, l3⟩, n1⟩ := h
  refine ⟨g, i, j, k, ⟨l1, fun q hq e => ?_, l3⟩, n1⟩
  obtain ⟨y1, y2⟩ := l2 q hq e
  exact ⟨by have := hs.1; omega, fun z => y2 (Int64.lt_of_le_of_lt (Int64.not_lt.mp (hs.2 _ y1)) z)⟩
theorem go_pk {w : Nat} {a b : Int64} {q : Nat} (hq : q < m.points) : (m.goS w a b).pkd q = m.pkd q := by
  unfold MS.pkd
  show (!decide (mapT m.points (m.hit w a b) m.gP m.places q < 0)) = _
  rw [mapT_v hq]
  split
  · unfold MS.gP
    by_cases e : m.places q < 0
    · rw [if_pos e, decide_eq_true e]; rfl
    · rw [if_neg e]
  · rfl
/-- what a record done again leaves -/
def rfK (m m' : MS) (d : Nat) : Prop := (m'.kinds = m.kinds ∧ m'.recordSeries = m.recordSeries ∧ m'.firsts = m.firsts ∧ m'.seconds = m.seconds ∧ m'.units = m.units ∧ m'.recordBlocks = m.recordBlocks ∧ m'.records = m.records ∧ m'.kept = m.kept ∧ m'.fresh = m.fresh ∧ m'.cutLeft = m.cutLeft ∧ m'.written = m.written ∧ m'.journal = m.journal) ∧ m'.deletes ≤ m.deletes + d
def seR (m : MS) (x : VS) : Prop := m.seriesCount = x.nser ∧ ∀ s, s < x.nser → m.lasts s = x.nlast s
theorem vB_cm (x : VS) (pa : Nat → Nat) (w : Nat) (a b : Int64) : vB x (x.cmF pa w a b) := by
  unfold VS.cmF
  split
  · exact ⟨⟨rfl, rfl, rfl, rfl⟩, ⟨rfl, rfl, rfl, rfl, rfl, rfl⟩, rfl, fun _ _ => rfl, rfl⟩
  · unfold VS.haF
    split
    · exact ⟨⟨rfl, rfl, rfl, rfl⟩, ⟨rfl, rfl, rfl, rfl, rfl, rfl⟩, rfl, fun _ _ => rfl, rfl⟩
    · exact ⟨⟨rfl, rfl, rfl, rfl⟩, ⟨rfl, rfl, rfl, rfl, rfl, rfl⟩, rfl, fun _ _ => rfl, rfl⟩
theorem vP_ha (x : VS) (pa : Nat → Nat) (w : Nat) (a b : Int64) : vP x (x.haF pa w a b) := by
  unfold VS.haF
  split
  · exact ⟨rfl, rfl, rfl, rfl, rfl, rfl⟩
  · exact ⟨rfl, rfl, rfl, rfl, rfl, rfl⟩
theorem la_up {w : Nat} {a : Int64} (hs : seR m x) (h1 : m'.seriesCount = m.seriesCount ∧ m'.lasts = va_up m.lasts w a) (h2 : y.nser = x.nser ∧ y.nlast = va_up x.nlast w a) : seR m' y := by
  refine ⟨by rw [h1.1, h2.1]; exact hs.1, fun s h => ?_⟩
  rw [h2.1] at h
  rw [h1.2, h2.2]
  by_cases z : s = w
  · subst z; rw [va_up_self, va_up_self]
  · rw [va_up_ne _ _ z, va_up_ne _ _ z]; exact hs.2 s h
theorem rp_step (h : ptR m x PS dn) (hb : bsR m x bn) (hs : seR m x) (hN : x.hsize ≤ x.hN ∧ 0 < x.hN) (hd : m.deletes < 2 ^ 29) (hr : m.kinds r = nI (x.jK r) ∧ m.recordSeries r = x.jO r ∧ (¬ x.jK r = 0 → m.firsts r = x.jF r ∧ m.seconds r = x.jS r)) (h0 : x.jK r = 0 → x.jO r = x.nser) (h1 : ¬ x.jK r = 0 → x.jO r < x.nser) (h2 : x.jK r = 1 → isTm (x.jF r) = true ∧ x.nlast (x.jO r) < x.jF r) (e : dgS PS x y r) : (∃ dn', ptR (m.rp1 fN r) y PS dn') ∧ bsR (m.rp1 fN r) y bn ∧ seR (m.rp1 fN r) y ∧ rfK m (m.rp1 fN r) 1 := by
  obtain ⟨r1, r2, r3⟩ := hr
  have hho : m.horizon = x.nhor := h.1.2.2.1
  have bl : m.baseSeries ≤ m.seriesCount := hb.2.2.2.2.2.1
  rcases e with ⟨k, e⟩ | ⟨k, pa, e⟩ | ⟨k, z, e⟩ | ⟨k, z, e⟩
  · rw [k] at r1
    have w := h0 k
    have em : m.rp1 fN r = (m.rp0 r).nwS (x.jO r) (fN r) := by unfold MS.rp1; rw [if_pos (show m.kinds r = 0 by rw [r1]; decide), r2]
    rw [em, e, w]
    have la : ∀ s, s < x.nser → va_up m.lasts x.nser (-1) s = m.lasts s := fun s hs => va_up_ne _ _ (Nat.ne_of_lt hs)
    refine ⟨⟨dn, ptR_new h ⟨rfl, rfl, rfl, rfl, rfl⟩ ⟨rfl, rfl, rfl, rfl, rfl, rfl, rfl⟩ ⟨?_, fun s h9 => la s (by rw [← hs.1]; exact h9)⟩ ⟨rfl, rfl, rfl, rfl, rfl, rfl⟩ ⟨rfl, rfl, rfl, rfl⟩⟩, bsR_p hb ⟨rfl, rfl, rfl, rfl⟩ (fun _ _ => rfl) ⟨rfl, rfl, rfl, rfl, ?_, Nat.le_refl _⟩ ⟨⟨rfl, rfl, rfl, rfl⟩, ⟨rfl, rfl, rfl, rfl, rfl, rfl⟩, rfl, fun _ _ => rfl, rfl⟩, ⟨rfl, fun s h9 => ?_⟩, ⟨rfl, rfl, rfl, rfl, rfl, rfl, rfl, rfl, rfl, rfl, rfl, rfl⟩, Nat.le_succ _⟩
    · show m.seriesCount ≤ x.nser + 1
      rw [hs.1]; omega
    · show m.baseSeries ≤ x.nser + 1
      rw [hs.1] at bl; omega
    · show va_up m.lasts x.nser (-1) s = va_up x.nlast x.nser (-1) s
      by_cases g : s = x.nser
      · rw [g, va_up_self, va_up_self]
      · rw [va_up_ne _ _ g, va_up_ne _ _ g]
        exact hs.2 s (by have : s < x.nser + 1 := h9; omega)
  · have hw := h1 (by rw [k]; decide)
    obtain ⟨t1, t2⟩ := h2 k
    obtain ⟨f1, f2⟩ := r3 (by rw [k]; decide)
    rw [k] at r1
    have hl : m.lasts (x.jO r) < x.jF r := by rw [hs.2 _ hw]; exact t2
    have ck := cmF_k x pa (x.jO r) (x.jF r) (x.jS r)
    obtain ⟨-, -, -, -, -, -, c7, c8, -⟩ := ck
    have vb := vB_cm x pa (x.jO r) (x.jF r) (x.jS r)
    rw [← e] at c7 c8 vb
    by_cases g : x.jF r < x.nhor
    · have em : m.rp1 fN r = (m.rp0 r).com0S (x.jO r) (x.jF r) := by unfold MS.rp1; rw [if_neg (by rw [r1]; decide), if_pos (show m.kinds r = 1 by rw [r1]; decide), f1, r2, hho, if_pos g]
      rw [em]
      have ey : y = VS.s_nlast x (va_up x.nlast (x.jO r) (x.jF r)) := by rw [e]; exact if_pos g
      refine ⟨⟨dn, ptR_la h ⟨rfl, rfl, rfl, rfl, rfl⟩ ⟨rfl, rfl, rfl, rfl, rfl, rfl, rfl⟩ ⟨Nat.le_refl _, fun s h9 => ?_⟩ (by rw [ey]; exact ⟨rfl, rfl, rfl, rfl, rfl, rfl⟩) (by rw [ey]; exact ⟨rfl, rfl, rfl, rfl⟩)⟩, bsR_p hb ⟨rfl, rfl, rfl, rfl⟩ (fun _ _ => rfl) ⟨rfl, rfl, rfl, rfl, bl, Nat.le_refl _⟩ vb, la_up hs ⟨rfl, rfl⟩ ⟨c7, c8⟩, ⟨rfl, rfl, rfl, rfl, rfl, rfl, rfl, rfl, rfl, rfl, rfl, rfl⟩, Nat.le_succ _⟩
      show ¬ va_up m.lasts (x.jO r) (x.jF r) s < m.lasts s
      by_cases q : s = x.jO r
      · rw [q, va_up_self]; exact Int64.not_lt.mpr (Int64.le_of_lt hl)
      · rw [va_up_ne _ _ q]; exact Int64.lt_irrefl
    · have em : m.rp1 fN r = (m.rp0 r).comS (x.jO r) (x.jF r) (x.jS r) := by unfold MS.rp1; rw [if_neg (by rw [r1]; decide), if_pos (show m.kinds r = 1 by rw [r1]; decide), f1, f2, r2, hho, if_neg g]
      rw [em]
      have ey : y = (VS.s_nlast x (va_up x.nlast (x.jO r) (x.jF r))).haF pa (x.jO r) (x.jF r) (x.jS r) := by rw [e]; exact if_neg g
      obtain ⟨a1, a2, a3, a4⟩ := haF_at (VS.s_nlast x (va_up x.nlast (x.jO r) (x.jF r))) pa (x.jO r) (x.jF r) (x.jS r) hN.1 hN.2
      obtain ⟨-, -, -, -, -, -, -, b8, -⟩ := haF_b (VS.s_nlast x (va_up x.nlast (x.jO r) (x.jF r))) pa (x.jO r) (x.jF r) (x.jS r)
      have vp := vP_ha (VS.s_nlast x (va_up x.nlast (x.jO r) (x.jF r))) pa (x.jO r) (x.jF r) (x.jS r)
      rw [← ey] at a1 a2 a3 a4 b8 vp
      exact ⟨⟨dn, ptR_come h ⟨rfl, rfl, rfl, rfl, rfl⟩ vp ⟨rfl, rfl, rfl, rfl, rfl, rfl, rfl, rfl, rfl⟩ ⟨b8, a1, a2, a3, a4⟩ (by rw [hs.1]; exact hw) (by rw [hho]; exact g) hl (isTm_i t1)⟩, bsR_come hb ⟨rfl, rfl, rfl, rfl, rfl⟩ ⟨rfl, rfl, rfl, rfl, bl, Nat.le_refl _⟩ vb, la_up hs ⟨rfl, rfl⟩ ⟨c7, c8⟩, ⟨rfl, rfl, rfl, rfl, rfl, rfl, rfl, rfl, rfl, rfl, rfl, rfl⟩, Nat.le_succ _⟩
  · have hw := h1 (by rw [k]; decide)
    obtain ⟨f1, f2⟩ := r3 (by rw [k]; decide)
    rw [k] at r1
    have em : m.rp1 fN r = (m.rp0 r).goS (x.jO r) (x.jF r) (x.jS r) := by unfold MS.rp1; rw [if_neg (by rw [r1]; decide), if_neg (by rw [r1]; decide), f1, f2, r2]
    rw [em, e]
    exact ⟨ptR_go h ⟨rfl, rfl, rfl, rfl, rfl⟩ ⟨rfl, rfl, rfl, rfl, rfl, rfl, rfl, rfl, rfl⟩ (hs.2 _ hw) hd ⟨rfl, rfl, rfl, rfl, rfl, rfl⟩ (Or.inl ⟨z, rfl, rfl, rfl, rfl⟩), bsR_p hb ⟨rfl, rfl, rfl, rfl⟩ (fun q hq => go_pk (m := m.rp0 r) hq) ⟨rfl, rfl, rfl, rfl, bl, Nat.le_succ _⟩ ⟨⟨rfl, rfl, rfl, rfl⟩, ⟨rfl, rfl, rfl, rfl, rfl, rfl⟩, rfl, fun _ _ => rfl, rfl⟩, hs, ⟨rfl, rfl, rfl, rfl, rfl, rfl, rfl, rfl, rfl, rfl, rfl, rfl⟩, Nat.le_refl _⟩
  · have hw := h1 (by rw [k]; decide)
    obtain ⟨f1, f2⟩ := r3 (by rw [k]; decide)
    rw [k] at r1
    have em : m.rp1 fN r = (m.rp0 r).goS (x.jO r) (x.jF r) (x.jS r) := by unfold MS.rp1; rw [if_neg (by rw [r1]; decide), if_neg (by rw [r1]; decide), f1, f2, r2]
    rw [em, e]
    exact ⟨ptR_go h ⟨rfl, rfl, rfl, rfl, rfl⟩ ⟨rfl, rfl, rfl, rfl, rfl, rfl, rfl, rfl, rfl⟩ (hs.2 _ hw) hd ⟨rfl, rfl, rfl, rfl, rfl, rfl⟩ (Or.inr ⟨z, rfl, rfl, rfl, rfl⟩), bsR_p hb ⟨rfl, rfl, rfl, rfl⟩ (fun q hq => go_pk (m := m.rp0 r) hq) ⟨rfl, rfl, rfl, rfl, bl, Nat.le_succ _⟩ ⟨⟨rfl, rfl, rfl, rfl⟩, ⟨rfl, rfl, rfl, rfl, rfl, rfl⟩, rfl, fun _ _ => rfl, rfl⟩, hs, ⟨rfl, rfl, rfl, rfl, rfl, rfl, rfl, rfl, rfl, rfl, rfl, rfl⟩, Nat.le_refl _⟩
end RP
end
section
/-! A start: both sides. -/
section SA
variable {m : MS} {x x0 : VS} {PS : Nat → PT} {dn bn : Nat → Nat} {fN : Nat → Nat}
theorem rp1_fg (m : MS) (fN : Nat → Nat) (r : Nat) : (m.rp1 fN r).block = m.recordBlocks r ∧ (m.rp1 fN r).used = (if m.recordBlocks r = m.block then m.used + m.units r else m.units r) := by
  unfold MS.rp1
  split
  · exact ⟨rfl, rfl⟩
  · split
    · split
      · exact ⟨rfl, rfl⟩
      · exact ⟨rfl, rfl⟩
    · exact ⟨rfl, rfl⟩
theorem fg_e {jB jU kB kU : Nat → Nat} : ∀ {r : Nat}, (∀ i, i < r → kB i = jB i ∧ kU i = jU i) → fgG kB kU r = fgG jB jU r
  | 0, _ => rfl
  | r + 1, h => by
    obtain ⟨h1, h2⟩ := h r (by omega)
    show (kB r, (if kB r = (fgG kB kU r).1 then (fgG kB kU r).2.1 + kU r else kU r), (fgG kB kU r).2.2 + kU r) = (jB r, (if jB r = (fgG jB jU r).1 then (fgG jB jU r).2.1 + jU r else jU r), (fgG jB jU r).2.2 + jU r)
    rw [fg_e (fun i hi => h i (by omega)), h1, h2]
theorem fg_u (jB jU : Nat → Nat) : ∀ r, (fgG jB jU r).2.2 = sumN r jU
  | 0 => rfl
  | r + 1 => by
    show (fgG jB jU r).2.2 + jU r = sumN r jU + jU r
    rw [fg_u jB jU r]
theorem cpy_00 {α : Type} (f g : Nat → α) {n q : Nat} (h : q < n) : va_cpy f g 0 0 n q = f q := by
  unfold va_cpy
  rw [if_pos (by omega)]
  congr 1
  omega
/-- r records done again -/
theorem rp_run {st : AS4} {K : Nat} (h : ptR m x0 PS bn) (hb : bsR m x0 bn) (hs : seR m x0) (hN : x0.hsize ≤ x0.hN ∧ 0 < x0.hN) (hA : inA st x0) (hd : m.deletes + K ≤ 2 ^ 29) (hu : m.block = 0 ∧ m.used = 0) (hr : ∀ r, r < K → m.kinds r = nI (x0.jK r) ∧ m.recordSeries r = x0.jO r ∧ (¬ x0.jK r = 0 → m.firsts r = x0.jF r ∧ m.seconds r = x0.jS r))
    (hj : ∀ r, r < K → (x0.jK r = 0 → x0.jO r = (rpF PS x0.npc x0.nhor st x0.jK x0.jO x0.jF x0.jS r).1) ∧ (¬ x0.jK r = 0 → x0.jO r < (rpF PS x0.npc x0.nhor st x0.jK x0.jO x0.jF x0.jS r).1) ∧ (x0.jK r = 1 → isTm (x0.jF r) = true ∧ (rpF PS x0.npc x0.nhor st x0.jK x0.jO x0.jF x0.jS r).2.1 (x0.jO r) < x0.jF r)) :
    ∀ {r : Nat} {z : VS}, r ≤ K → dgR PS x0 r z → (∃ d', ptR (m.rpS fN r) z PS d') ∧ bsR (m.rpS fN r) z bn ∧ seR (m.rpS fN r) z ∧ rfK m (m.rpS fN r) r ∧ (m.rpS fN r).block = (fgG m.recordBlocks m.units r).1 ∧ (m.rpS fN r).used = (fgG m.recordBlocks m.units r).2.1
  | 0, z, _, e => by
    rw [show z = x0 from e]
    exact ⟨⟨bn, h⟩, hb, hs, ⟨⟨rfl, rfl, rfl, rfl, rfl, rfl, rfl, rfl, rfl, rfl, rfl, rfl⟩, Nat.le_refl _⟩, hu.1, hu.2⟩
  | r + 1, z, hr1, e => by
    obtain ⟨y, e1, e2⟩ := e
    obtain ⟨⟨d', ih1⟩, ih2, ih3, ⟨⟨b1, b2, b3, b4, b5, b6, b7, b8, b9, b10, b11, b12⟩, b13⟩, ih5, ih6⟩ := rp_run h hb hs hN hA hd hu hr hj (r := r) (z := y) (by omega) e1
    obtain ⟨⟨k1, k2, k3, k4, k5, k6⟩, s1, ia⟩ := dg_A hA hN (fun i hi => (hj i hi).2.1) (r := r) (z := y) (by omega) e1
    obtain ⟨j1, j2, j3⟩ := hj r (by omega)
    rw [ia.1] at j1 j2
    obtain ⟨q1, q2, q3⟩ := hr r (by omega)
    have st := rp_step (fN := fN) (r := r) ih1 ih2 ih3 s1 (by omega) (by rw [b1, b2, b3, b4, k1, k2, k3, k4]; exact ⟨q1, q2, q3⟩) (by rw [k1, k2]; exact j1) (by rw [k1, k2]; exact j2) (by
      rw [k1, k2, k3]
      intro w
      obtain ⟨t1, t2⟩ := j3 w
      rw [ia.2.1 _ (j2 (by rw [w]; decide))] at t2
      exact ⟨t1, t2⟩) e2
    obtain ⟨u1, u2, u3, ⟨c1, c2, c3, c4, c5, c6, c7, c8, c9, c10, c11, c12⟩, c13⟩ := st
    obtain ⟨f1, f2⟩ := rp1_fg (m.rpS fN r) fN r
    refine ⟨u1, u2, u3, ⟨⟨c1.trans b1, c2.trans b2, c3.trans b3, c4.trans b4, c5.trans b5, c6.trans b6, c7.trans b7, c8.trans b8, c9.trans b9, c10.trans b10, c11.trans b11, c12.trans b12⟩, Nat.le_trans c13 (by omega)⟩, ?_, ?_⟩
    · exact f1.trans (by rw [b6]; rfl)
    · refine f2.trans ?_
      rw [ih5, ih6, b5, b6]
      rfl
/-- a start -/
theorem st_all {a9 b9 u9n : Nat} {z : VS} (h : ptR m x PS dn) (hb : bsR m x bn) (hj : jrR m x) (ho : joR PS x) (hk0 : x.jkept ≤ x.jsize) (hp : pkL PS x.npc x.sser x.slast) (hN : 0 < x.hN) (hd : m.deletes + x.jkept ≤ 2 ^ 29) (hfg : fgG x.jB x.jU x.jkept = (a9, b9, u9n)) (hz : dgR PS (x.stS a9 b9 u9n) x.jkept z) : (∃ d', ptR (m.st2.rpS fN m.kept) z PS d') ∧ bsR (m.st2.rpS fN m.kept) z bn ∧ seR (m.st2.rpS fN m.kept) z ∧ jrR (m.st2.rpS fN m.kept) z ∧ joR PS z ∧ (m.st2.rpS fN m.kept).deletes ≤ m.deletes + x.jkept := by
  have mk : min x.jsize x.jkept = x.jkept := Nat.min_eq_right hk0
  obtain ⟨g1, g2, g3, g4, g5, g6, g7, g8, g9, g10, g11⟩ := hj
  have hb1 := hb
  obtain ⟨-, ⟨i1, i2, i3, i4⟩, ⟨-, j2, j3, -, j5⟩⟩ := hb1
  have hho : m.horizon = x.nhor := h.1.2.2.1
  have nh : (x.stS a9 b9 u9n).nhor = x.nhor := by rw [← hho, ← i2, i1]; rfl
  have np : (x.stS a9 b9 u9n).npc = x.npc := i3
  have cO : ∀ j, j < x.ssc → (x.stS a9 b9 u9n).nsO j = x.ssO j ∧ (x.stS a9 b9 u9n).nsF j = x.ssF j ∧ (x.stS a9 b9 u9n).nsT j = x.ssT j := fun j hj => ⟨cpy_00 _ _ hj, cpy_00 _ _ hj, cpy_00 _ _ hj⟩
  have cL : ∀ s, s < x.sser → (x.stS a9 b9 u9n).nlast s = x.slast s := fun s hs => cpy_00 _ _ hs
  have cP : ∀ k, k < x.npc → (x.stS a9 b9 u9n).nP k = x.nP k := fun k hk => by
    rw [← i4 k hk]
    exact cpy_00 _ _ (show k < x.spc by rw [i3]; exact hk)
  have vb : vB x (x.stS a9 b9 u9n) := ⟨⟨rfl, rfl, rfl, rfl⟩, ⟨rfl, rfl, rfl, rfl, rfl, rfl⟩, np, cP, j5⟩
  have p1 : ptR m.st2 (x.stS a9 b9 u9n) PS bn := st2_pt h hb ⟨rfl, rfl, rfl, cO, rfl⟩
  have p2 : bsR m.st2 (x.stS a9 b9 u9n) bn := st2_bs hb vb
  have p3 : seR m.st2 (x.stS a9 b9 u9n) := ⟨j2, fun s hs => by
    have hs' : s < x.sser := hs
    rw [cL s hs', ← j3 s hs']
    show mapT m.baseSeries (fun _ => true) m.baseLasts m.lasts s = m.baseLasts s
    rw [mapT_v (by rw [j2]; exact hs'), if_pos rfl]⟩
  have ia : inA (svA x) (x.stS a9 b9 u9n) := ⟨rfl, fun s hs => (cL s hs).symm, rfl, lsF_e (fun i hi => by
    obtain ⟨y1, y2, y3⟩ := cO i hi
    unfold tr3
    rw [y1, y2, y3])⟩
  have er : ∀ r, rpF PS (x.stS a9 b9 u9n).npc (x.stS a9 b9 u9n).nhor (svA x) (x.stS a9 b9 u9n).jK (x.stS a9 b9 u9n).jO (x.stS a9 b9 u9n).jF (x.stS a9 b9 u9n).jS r = rpV PS x r := fun r => by unfold rpV; rw [np, nh]; rfl
  have run := rp_run (fN := fN) (K := x.jkept) p1 p2 p3 ⟨Nat.zero_le _, hN⟩ ia hd ⟨rfl, rfl⟩ (fun r hr => by
    obtain ⟨y1, y2, -, -, y5⟩ := g11 r (by omega)
    exact ⟨y1, y2, y5⟩) (fun r hr => by
    rw [er r]
    obtain ⟨-, y2, y3, y4, -⟩ := ho.2.1 r (by omega)
    exact ⟨y2, y3, y4⟩) (Nat.le_refl _) hz
  have js := joR_s ho hk0 hp (x0 := x.stS a9 b9 u9n) ⟨mk, mk, rfl, rfl, rfl, rfl⟩ ⟨rfl, np, nh⟩ ia ⟨Nat.zero_le _, hN⟩ hz
  rw [g2]
  obtain ⟨u1, u2, u3, ⟨⟨b1, b2, b3, b4, b5, b6, b7, b8, b9', b10, b11, b12⟩, b13⟩, u5, u6⟩ := run
  have dk := dg_k hz
  have ejK : z.jK = x.jK := (congrArg VS.jK dk).trans rfl
  have ejO : z.jO = x.jO := (congrArg VS.jO dk).trans rfl
  have ejU : z.jU = x.jU := (congrArg VS.jU dk).trans rfl
  have ejB : z.jB = x.jB := (congrArg VS.jB dk).trans rfl
  have ejF : z.jF = x.jF := (congrArg VS.jF dk).trans rfl
  have ejS : z.jS = x.jS := (congrArg VS.jS dk).trans rfl
  have fe : fgG m.recordBlocks m.units x.jkept = (a9, b9, u9n) := by
    rw [← hfg]
    exact fg_e (fun i hi => by obtain ⟨-, -, y3, y4, -⟩ := g11 i (by omega); exact ⟨y4, y3⟩)
  refine ⟨u1, u2, u3, ⟨?_, ?_, ?_, ?_, ?_, ?_, ?_, ?_, ?_, ?_, ?_⟩, js.1, b13⟩
  · rw [b7, js.2.1]; exact g2
  · rw [b8, js.2.2]; exact g2
  · rw [u5]; exact (congrArg Prod.fst fe).trans (congrArg VS.jblock dk).symm
  · rw [u6]; exact (congrArg (fun q => q.2.1) fe).trans (congrArg VS.jfill dk).symm
  · rw [b9']; exact (congrArg VS.jch dk).symm
  · rw [b10]; exact g6.trans (congrArg VS.cutLeft dk).symm
  · rw [b11]; exact g7.trans (congrArg VS.writes dk).symm
  · rw [b12]; exact g8.trans (congrArg VS.jlimit dk).symm
  · rw [js.2.1, ejU, ← fg_u x.jB x.jU, hfg]
    exact congrArg VS.junits dk
  · intro _; rw [js.2.1, js.2.2]
  · intro r hr
    rw [js.2.1] at hr
    rw [b1, b2, b3, b4, b5, b6, ejK, ejO, ejU, ejB, ejF, ejS]
    exact g11 r (by omega)
end SA
end
section
/-! A flush: both sides. -/
section FA
variable {m : MS} {x y : VS} {PS : Nat → PT} {dn bn : Nat → Nat} {SS : Nat → List LB}
/-- points, what is kept, series, journal -/
def coR (m : MS) (x : VS) (PS : Nat → PT) (dn bn : Nat → Nat) : Prop := ptR m x PS dn ∧ bsR m x bn ∧ seR m x ∧ jrR m x ∧ joR PS x ∧ x.jkept ≤ x.jsize ∧ m.catalogBlocks = x.ncat
theorem hu_of (h : ptR m x PS dn) (ho : joR PS x) (hk : x.jkept ≤ x.jsize) : ∀ q, q < m.points → m.hdd q = true → cv1 x.nsO x.nsF x.nsT x.nsc (m.pointSeries q) (m.pointTimes q) = none := by
  intro q hq e
  obtain ⟨i1, -, i3⟩ := ho
  obtain ⟨u1, -⟩ := i3 x.jsize hk (Nat.le_refl _)
  rw [i1.2.2.1, i1.2.2.2] at u1
  obtain ⟨y1, y2, y3⟩ := h.1.1.2 q hq e
  have hm : tr3 x.hO x.hT x.hV (cnt q m.hdd) ∈ hdL x := by
    unfold hdL lsF
    exact List.mem_map_of_mem (List.mem_range.mpr (by rw [h.1.1.1]; exact cnt_lt hq e))
  have c := (u1 _ hm).1
  have c : cvL (scL x) (x.hO (cnt q m.hdd)) (x.hT (cnt q m.hdd)) = false := c
  rw [y1, y2, cvL_e] at c
  exact Decidable.of_not_not (of_decide_eq_false c)
theorem sy_eq (h : jrR m x) : m.syCut = x.wjC ∧ m.syWr = x.wjW ∧ m.records = x.wjK := by
  obtain ⟨g1, g2, g3, g4, g5, g6, g7, g8, g9, g10, g11⟩ := h
  refine ⟨?_, ?_, ?_⟩
  · unfold MS.syCut VS.wjC
    rw [g5, g6]
  · unfold MS.syWr VS.wjW
    rw [g5, g7]
  · unfold VS.wjK
    cases e : x.jch with
    | true => rw [if_pos rfl]; exact g1
    | false => rw [if_neg (by decide), g10 e]; exact g1
/-- the manifest of a flush on the class's side -/
def flY (x y : VS) (nc : Nat) : Prop := (y.cutLeft = cutN x.cutLeft nc ∧ y.writes = x.writes + nc ∧ y.jlimit = x.jlimit ∧ y.hsize = 0) ∧ (y.jsize = 0 ∧ y.jkept = 0 ∧ y.junits = 0 ∧ y.jblock = 0 ∧ y.jfill = 0 ∧ y.jch = false) ∧ (y.nsO = x.nsO ∧ y.nsF = x.nsF ∧ y.nsT = x.nsT ∧ y.nsc = x.nsc ∧ y.nhor = x.nhor ∧ y.nser = x.nser ∧ y.nlast = x.nlast) ∧ (y.spc = y.npc ∧ (∀ k, k < y.npc → y.sP k = y.nP k)) ∧ (y.ssc = y.nsc ∧ (∀ j, j < y.nsc → y.ssO j = y.nsO j ∧ y.ssF j = y.nsF j ∧ y.ssT j = y.nsT j)) ∧ y.shor = y.nhor ∧ (y.sser = y.nser ∧ ∀ s, s < y.nser → y.slast s = y.nlast s) ∧ y.scat = y.ncat
theorem flu_co {PS' : Nat → PT} {nc : Nat} (h : coR m x PS dn bn) (hp : ptR m.fluS y PS' dn) (hn : m.manyN + m.catN + 1 = nc) (hy : flY x y nc) (hc : y.ncat = m.catN) : coR m.fluS y PS' dn dn := by
  obtain ⟨h1, h2, h3, h4, h5, h6, h7⟩ := h
  obtain ⟨⟨a1, a2, a3, a4⟩, ⟨b1, b2, b3, b4, b5, b6⟩, ⟨c1, c2, c3, c4, c5, c6, c7⟩, d1, ⟨d2, d3⟩, d4, ⟨d5, d6⟩, d7⟩ := hy
  obtain ⟨g1, g2, g3, g4, g5, g6, g7, g8, g9, g10, g11⟩ := h4
  -- the fields
  have f : ∀ b : Bool, (MS.fl4 (MS.fl3 (bif b then (m.fl1 (m.manyN + m.catN + 1)).fl2 m.manyN else m.fl1 (m.manyN + m.catN + 1)) m.catN)).cutLeft = cutN m.cutLeft (m.manyN + m.catN + 1) ∧ (MS.fl4 (MS.fl3 (bif b then (m.fl1 (m.manyN + m.catN + 1)).fl2 m.manyN else m.fl1 (m.manyN + m.catN + 1)) m.catN)).written = m.written + (m.manyN + m.catN + 1) ∧ (MS.fl4 (MS.fl3 (bif b then (m.fl1 (m.manyN + m.catN + 1)).fl2 m.manyN else m.fl1 (m.manyN + m.catN + 1)) m.catN)).journal = m.journal ∧ (MS.fl4 (MS.fl3 (bif b then (m.fl1 (m.manyN + m.catN + 1)).fl2 m.manyN else m.fl1 (m.manyN + m.catN + 1)) m.catN)).seriesCount = m.seriesCount ∧ (MS.fl4 (MS.fl3 (bif b then (m.fl1 (m.manyN + m.catN + 1)).fl2 m.manyN else m.fl1 (m.manyN + m.catN + 1)) m.catN)).lasts = m.lasts ∧ (MS.fl4 (MS.fl3 (bif b then (m.fl1 (m.manyN + m.catN + 1)).fl2 m.manyN else m.fl1 (m.manyN + m.catN + 1)) m.catN)).baseLasts = mapT m.seriesCount (fun _ => true) m.lasts m.baseLasts := fun b => by
    cases b with
    | true => exact ⟨rfl, rfl, rfl, rfl, rfl, rfl⟩
    | false => exact ⟨rfl, rfl, rfl, rfl, rfl, rfl⟩
  obtain ⟨f1, f2, f3, f4, f5, f6⟩ := f (decide (0 < m.heads))
  have f1 : m.fluS.cutLeft = cutN m.cutLeft nc := by rw [← hn]; exact f1
  have f2 : m.fluS.written = m.written + nc := by rw [← hn]; exact f2
  have f3 : m.fluS.journal = m.journal := f3
  have f4 : m.fluS.seriesCount = m.seriesCount := f4
  have f5 : m.fluS.lasts = m.lasts := f5
  have f6 : m.fluS.baseLasts = mapT m.seriesCount (fun _ => true) m.lasts m.baseLasts := f6
  have f7 : m.fluS.baseSeries = m.fluS.seriesCount := by unfold MS.fluS; rfl
  have se : seR m.fluS y := ⟨by rw [f4, c6]; exact h3.1, fun s hs => by rw [c6] at hs; rw [f5, c7]; exact h3.2 s hs⟩
  refine ⟨hp, bsR_n hp d1 hp ⟨d2, d3⟩ (fun q hq => ?_) ⟨rfl, d4⟩ ⟨f7, by rw [d5]; exact se.1.symm, fun s hs => ?_, d7⟩, se, ⟨?_, ?_, ?_, ?_, ?_, ?_, ?_, ?_, ?_, ?_, ?_⟩, joR_f h5 h6 b1 ⟨d5, d6, ?_⟩ ⟨c6, c7, a4, ?_⟩, by omega, ?_⟩
  · show mapT m.fluS.points (fun _ => true) m.fluS.hidden _ q = m.fluS.hidden q
    rw [mapT_v hq, if_pos rfl]
  · have hs1 := hs
    rw [f4] at hs1
    rw [f6, f5, mapT_v hs1, if_pos rfl]
    have hs2 : s < y.nser := by rw [← se.1]; exact hs
    refine ⟨rfl, ?_⟩
    rw [d6 s hs2, ← se.2 s hs2, f5]
  · rw [b1]; rfl
  · rw [b2]; rfl
  · rw [b4]; rfl
  · rw [b5]; rfl
  · rw [b6]; rfl
  · rw [f1, a1, g6]
  · rw [f2, a2, g7]
  · rw [f3, a3]; exact g8
  · rw [b1, b3]; rfl
  · intro _; rw [b1, b2]
  · intro r hr; rw [b1] at hr; exact absurd hr (Nat.not_lt_zero r)
  · unfold scL
    rw [d2]
    exact lsF_e (fun j hj => by obtain ⟨y1, y2, y3⟩ := d3 j hj; unfold tr3; rw [y1, y2, y3])
  · unfold scL
    rw [c1, c2, c3, c4]
  · rw [hc]; unfold MS.fluS; rfl
/-- a flush with a head -/
theorem flu_1 {O : Nat → Nat} {T V : Nat → Int64} {nb mp : Nat} {pl1 : va_W} (h : coR m x PS dn bn) (tx : txR m.texts m.textLengths m.seriesCount SS) (hz : 0 < x.hsize) (hpn : m.parcelNumber < 2 ^ 29) (l1 : laid x.hO x.hsize x.hsize x.hO O) (l2 : laid x.hO x.hsize x.hsize x.hT T) (l3 : laid x.hO x.hsize x.hsize x.hV V) (hb : (mkP x.hsize O T V).bl = nb) : coR m.fluS (x.flS SS nb mp pl1) (va_up PS x.npc (mkP x.hsize O T V)) dn dn ∧ m.manyN + m.catN = nb + (ctG2 SS x.nser).1 := by
  have en := many_eq h.1 hz l1 l2 l3
  have ec := cat_eq tx
  rw [h.2.2.1.1] at ec
  refine ⟨flu_co h (flu_pt h.1 hz (hu_of h.1 h.2.2.2.2.1 h.2.2.2.2.2.1) hpn ⟨rfl, rfl, rfl, rfl, rfl, rfl, rfl⟩ l1 l2 l3) rfl ⟨⟨?_, ?_, rfl, rfl⟩, ⟨rfl, rfl, rfl, rfl, rfl, rfl⟩, ⟨rfl, rfl, rfl, rfl, rfl, rfl, rfl⟩, ⟨rfl, fun k hk => cpy_00 _ _ hk⟩, ⟨rfl, fun j hj => ⟨cpy_00 _ _ hj, cpy_00 _ _ hj, cpy_00 _ _ hj⟩⟩, rfl, ⟨rfl, fun s hs => cpy_00 _ _ hs⟩, rfl⟩ ec.symm, by rw [en, ec, hb]⟩
  · rw [en, ec, hb]; rfl
  · rw [en, ec, hb]; rfl
end FA
end
section
def VS.flZ (x : VS) (SS : Nat → List LB) : VS := VS.s_scat (VS.s_slast (VS.s_sser (VS.s_shor (VS.s_ssc (VS.s_ssT (VS.s_ssF (VS.s_ssO (VS.s_spc (VS.s_sP (VS.s_ncat (VS.s_hsize (VS.s_jch (VS.s_jfill (VS.s_jblock (VS.s_junits (VS.s_jkept (VS.s_jsize (VS.s_writes (VS.s_cutLeft x (cutN x.cutLeft ((ctG2 SS x.nser).1 + 1))) (x.writes + ((ctG2 SS x.nser).1 + 1))) 0) 0) 0) 0) 0) false) 0) ((ctG2 SS x.nser).1)) (va_cpy x.nP x.sP 0 0 x.npc)) x.npc) (va_cpy x.nsO x.ssO 0 0 x.nsc)) (va_cpy x.nsF x.ssF 0 0 x.nsc)) (va_cpy x.nsT x.ssT 0 0 x.nsc)) x.nsc) x.nhor) x.nser) (va_cpy x.nlast x.slast 0 0 x.nser)) ((ctG2 SS x.nser).1)
/-! A flush without a head; a new manifest: both sides. -/
section MN
variable {m m' : MS} {x y : VS} {PS PS' : Nat → PT} {dn bn dn' : Nat → Nat} {SS : Nat → List LB}
/-- a flush without a head -/
theorem flu_0 (h : coR m x PS dn bn) (tx : txR m.texts m.textLengths m.seriesCount SS) (hz : x.hsize = 0) : coR m.fluS (x.flZ SS) PS dn dn ∧ m.manyN + m.catN = (ctG2 SS x.nser).1 := by
  have en := many_0 h.1 hz
  have ec := cat_eq tx
  rw [h.2.2.1.1] at ec
  refine ⟨flu_co h (flu_pt0 h.1 hz ⟨rfl, rfl, rfl, rfl, rfl, rfl⟩ ⟨hz.symm, rfl, rfl, rfl⟩) rfl ⟨⟨?_, ?_, rfl, rfl⟩, ⟨rfl, rfl, rfl, rfl, rfl, rfl⟩, ⟨rfl, rfl, rfl, rfl, rfl, rfl, rfl⟩, ⟨rfl, fun k hk => cpy_00 _ _ hk⟩, ⟨rfl, fun j hj => ⟨cpy_00 _ _ hj, cpy_00 _ _ hj, cpy_00 _ _ hj⟩⟩, rfl, ⟨rfl, fun s hs => cpy_00 _ _ hs⟩, rfl⟩ ec.symm, by rw [en, ec, Nat.zero_add]⟩
  · rw [en, ec, Nat.zero_add]; rfl
  · rw [en, ec, Nat.zero_add]; rfl
/-- a new manifest keeps the scars of now, and the series that were kept -/
theorem bsR_m (h : bsR m x bn) (h' : ptR m' y PS' dn') (h1 : ∀ q', q' < m'.points → m'.pkd q' = true → ∃ q, q < m.points ∧ m.pkd q = true ∧ m'.pointSeries q' = m.pointSeries q ∧ m'.pointTimes q' = m.pointTimes q) (hp : y.spc = y.npc ∧ (∀ k, k < y.npc → y.sP k = y.nP k)) (hss : y.ssc = y.nsc ∧ (∀ j, j < y.nsc → y.ssO j = y.nsO j ∧ y.ssF j = y.nsF j ∧ y.ssT j = y.nsT j)) (hh : ∀ q, q < m'.points → m'.baseHidden q = m'.hidden q) (hho : m'.baseHorizon = m'.horizon ∧ y.shor = y.nhor) (hbs : m'.baseSeries = m.baseSeries ∧ m'.baseLasts = m.baseLasts ∧ m'.seriesCount = m.seriesCount ∧ y.sser = x.sser ∧ y.slast = x.slast ∧ y.scat = x.scat ∧ y.ncat = x.ncat) : bsR m' y dn' := by
  obtain ⟨-, ⟨i1, i2, i3, i4⟩, -⟩ := id h'
  obtain ⟨-, -, ⟨j1, j2, j3, j4, j5⟩⟩ := h
  obtain ⟨b1, b2, b3, b4, b5, b6, b7⟩ := hbs
  have cve : ∀ w t, cv1 y.ssO y.ssF y.ssT y.nsc w t = cv1 y.nsO y.nsF y.nsT y.nsc w t := fun w t => by
    have ef : ∀ i, i < y.nsc → cvS y.ssO y.ssF y.ssT w t i = cvS y.nsO y.nsF y.nsT w t i := fun i hi => by
      obtain ⟨y1, y2, y3⟩ := hss.2 i hi
      unfold cvS
      rw [y1, y2, y3]
    cases e : cv1 y.nsO y.nsF y.nsT y.nsc w t with
    | none => exact frst_mn (fun i hi => (ef i hi).trans (frst_none e i (Nat.zero_le _) (by omega)))
    | some j =>
      obtain ⟨y1, -, y3, y4⟩ := frst_some e
      exact frst_mk (by omega) ((ef j (by omega)).trans y1) (fun i hi => (ef i (by omega)).trans (y4 i (Nat.zero_le _) hi))
  refine ⟨⟨fun q hq e => ?_, ?_, fun j hj => ?_⟩, ⟨?_, hho.1, hp⟩, ⟨fun q hq e => ?_, ?_, fun s hs => ?_, ?_, ?_⟩⟩
  · rw [hh q hq, hss.1, cve]
    exact i1 q hq e
  · rw [hss.1]; exact i2
  · rw [hss.1] at hj
    obtain ⟨q, q1, q2, q3⟩ := i3 j hj
    exact ⟨q, q1, q2, by rw [hss.1, cve]; exact q3⟩
  · rw [hho.1, hho.2]; exact h'.1.2.2.1
  · obtain ⟨p, p1, p2, p3, p4⟩ := h1 q hq e
    rw [p3, p4, b1, b2]
    exact j1 p p1 p2
  · rw [b1, b4]; exact j2
  · rw [b4] at hs
    rw [b2, b5]; exact j3 s hs
  · rw [b1, b3]; exact j4
  · rw [b6, b7]; exact j5
/-- the journal of now is kept -/
theorem jrR_m (h : jrR m x) (hm : (m'.records = m.records ∧ m'.kept = m.records ∧ m'.block = m.block ∧ m'.used = m.used ∧ m'.fresh = false ∧ m'.journal = m.journal) ∧ m'.kinds = m.kinds ∧ m'.recordSeries = m.recordSeries ∧ m'.units = m.units ∧ m'.recordBlocks = m.recordBlocks ∧ m'.firsts = m.firsts ∧ m'.seconds = m.seconds) (hy : (y.jsize = x.jsize ∧ y.jkept = x.wjK ∧ y.jblock = x.jblock ∧ y.jfill = x.jfill ∧ y.jch = false ∧ y.jlimit = x.jlimit ∧ y.junits = x.junits) ∧ y.jK = x.jK ∧ y.jO = x.jO ∧ y.jU = x.jU ∧ y.jB = x.jB ∧ y.jF = x.jF ∧ y.jS = x.jS) (hc : m'.cutLeft = y.cutLeft) (hw : m'.written = y.writes) : jrR m' y ∧ y.jkept = y.jsize := by
  obtain ⟨⟨a1, a2, a3, a4, a5, a6⟩, b1, b2, b3, b4, b5, b6⟩ := hm
  obtain ⟨⟨c1, c2, c3, c4, c5, c6, c7⟩, d1, d2, d3, d4, d5, d6⟩ := hy
  have hk := (sy_eq h).2.2
  obtain ⟨g1, g2, g3, g4, g5, g6, g7, g8, g9, g10, g11⟩ := h
  have e : y.jkept = y.jsize := by rw [c1, c2, ← hk, g1]
  refine ⟨⟨by rw [a1, c1]; exact g1, by rw [a2, c2]; exact hk, by rw [a3, c3]; exact g3, by rw [a4, c4]; exact g4, by rw [a5, c5], hc, hw, by rw [a6, c6]; exact g8, by rw [c7, c1, d3]; exact g9, fun _ => e, fun r hr => ?_⟩, e⟩
  rw [c1] at hr
  rw [b1, b2, b3, b4, b5, b6, d1, d2, d3, d4, d5, d6]
  exact g11 r hr
end MN
end
section
/-! A new manifest over all of the relation. -/
section MC
variable {m m' : MS} {x y : VS} {PS PS' : Nat → PT} {dn bn dn' : Nat → Nat}
/-- packed points come from packed points -/
def pkFr (m m' : MS) : Prop := ∀ q', q' < m'.points → m'.pkd q' = true → ∃ q, q < m.points ∧ m.pkd q = true ∧ m'.pointSeries q' = m.pointSeries q ∧ m'.pointTimes q' = m.pointTimes q ∧ m'.hidden q' = m.hidden q
theorem seen_p {q : Nat} (hp : m.pkd q = true) : m.seen q = true ↔ ¬ 0 ≤ m.hidden q ∧ ¬ m.pointTimes q < m.horizon := by
  have e1 : ¬ m.places q ≤ -2 := fun z => pkd_t.mp hp (Int32.lt_of_le_of_lt z (by decide))
  unfold MS.seen
  rw [decide_eq_false e1]
  by_cases a : 0 ≤ m.hidden q
  · rw [decide_eq_true a]
    constructor
    · intro z; simp at z
    · intro z; exact absurd a z.1
  · rw [decide_eq_false a]
    by_cases b : m.pointTimes q < m.horizon
    · rw [decide_eq_true b]
      constructor
      · intro z; simp at z
      · intro z; exact absurd b z.2
    · rw [decide_eq_false b]
      exact ⟨fun _ => ⟨a, b⟩, fun _ => rfl⟩
/-- a range in which nothing was seen -/
theorem hit_t (h : ptR m x PS dn) (h' : ptR m' y PS' dn') (hq : pkFr m m') (hh : ¬ m'.horizon < m.horizon) {w : Nat} {a b : Int64} (e : hitB PS x.npc x.nhor (scL x) w a b = false) : hitB PS' y.npc y.nhor (scL y) w a b = false := by
  cases g : hitB PS' y.npc y.nhor (scL y) w a b with
  | false => rfl
  | true =>
    have g1 := (hit_e y PS' w a b).mp g
    rw [← btw_1 h' w a b] at g1
    obtain ⟨q', q1, q2⟩ := cnt_pos.mp g1
    unfold MS.btw at q2
    rw [Bool.and_eq_true] at q2
    obtain ⟨q3, q4⟩ := q2
    have pk' : m'.pkd q' = true := by
      rw [Bool.not_true, Bool.false_or] at q4
      exact q4
    obtain ⟨q, r1, r2, r3, r4, r5⟩ := hq q' q1 pk'
    have se : m.bt w a b q = true := by
      unfold MS.bt at q3 ⊢
      simp only [Bool.and_eq_true] at q3 ⊢
      rw [r3, r4] at q3
      obtain ⟨u1, u2, u3⟩ := q3
      refine ⟨u1, ?_, u3⟩
      rw [seen_p pk', r4, r5] at u2
      rw [seen_p r2]
      exact ⟨u2.1, fun z => u2.2 (Int64.lt_of_lt_of_le z (Int64.not_lt.mp hh))⟩
    have : 0 < cnt m.points (m.btw w a b true) := cnt_pos.mpr ⟨q, r1, by
      unfold MS.btw
      rw [se, Bool.true_and, Bool.not_true, Bool.false_or]
      exact r2⟩
    rw [btw_1 h w a b, ← hit_e x PS w a b, e] at this
    cases this
theorem mn_co (h : coR m x PS dn bn) (h' : ptR m' y PS' dn') (hq : pkFr m m') (hh : ¬ m'.horizon < m.horizon) (hm : (m'.records = m.records ∧ m'.kept = m.records ∧ m'.block = m.block ∧ m'.used = m.used ∧ m'.fresh = false ∧ m'.journal = m.journal) ∧ m'.kinds = m.kinds ∧ m'.recordSeries = m.recordSeries ∧ m'.units = m.units ∧ m'.recordBlocks = m.recordBlocks ∧ m'.firsts = m.firsts ∧ m'.seconds = m.seconds) (hm2 : m'.baseSeries = m.baseSeries ∧ m'.baseLasts = m.baseLasts ∧ m'.seriesCount = m.seriesCount ∧ m'.lasts = m.lasts ∧ m'.catalogBlocks = m.catalogBlocks) (hbh : ∀ q, q < m'.points → m'.baseHidden q = m'.hidden q) (hbo : m'.baseHorizon = m'.horizon)
    (hy : (y.jsize = x.jsize ∧ y.jkept = x.wjK ∧ y.jblock = x.jblock ∧ y.jfill = x.jfill ∧ y.jch = false ∧ y.jlimit = x.jlimit ∧ y.junits = x.junits) ∧ y.jK = x.jK ∧ y.jO = x.jO ∧ y.jU = x.jU ∧ y.jB = x.jB ∧ y.jF = x.jF ∧ y.jS = x.jS) (hy2 : y.sser = x.sser ∧ y.slast = x.slast ∧ y.scat = x.scat ∧ y.ncat = x.ncat ∧ y.nser = x.nser ∧ y.nlast = x.nlast ∧ y.shor = y.nhor) (hp : y.spc = y.npc ∧ (∀ k, k < y.npc → y.sP k = y.nP k)) (hss : y.ssc = y.nsc ∧ (∀ j, j < y.nsc → y.ssO j = y.nsO j ∧ y.ssF j = y.nsF j ∧ y.ssT j = y.nsT j)) (hc : m'.cutLeft = y.cutLeft) (hw : m'.written = y.writes) (hd : hdL y = (hdL x).filter (fun p => !decide (p.2.1 < y.nhor))) (hsc : ∀ c, c ∈ scL y → c ∈ scL x) : coR m' y PS' dn' dn' := by
  obtain ⟨h1, h2, h3, h4, h5, h6, h7⟩ := h
  obtain ⟨a1, a2, a3, a4, a5⟩ := hm2
  obtain ⟨b1, b2, b3, b4, b5, b6, b7⟩ := hy2
  have jr := jrR_m h4 hm hy hc hw
  obtain ⟨⟨c1, -⟩, d1, d2, d3, d4, d5, d6⟩ := hy
  refine ⟨h', bsR_m h2 h' (fun q' g1 g2 => ?_) hp hss hbh ⟨hbo, b7⟩ ⟨a1, a2, a3, b1, b2, b3, b4⟩, ⟨by rw [a3, b5]; exact h3.1, fun s hs => ?_⟩, jr.1, joR_m h5 h6 ⟨c1, jr.2.trans c1, d1, d2, d5, d6⟩ ?_ ?_ ⟨b5, b6⟩ hd hsc (fun r hr e => hit_t h1 h' hq hh ((h5.2.1 r hr).2.2.2.2 e)), by rw [jr.2]; exact Nat.le_refl _, by rw [a5, b4]; exact h7⟩
  · obtain ⟨q, r1, r2, r3, r4, -⟩ := hq q' g1 g2
    exact ⟨q, r1, r2, r3, r4⟩
  · rw [b5] at hs
    rw [a4, b6]
    exact h3.2 s hs
  · rw [← h'.1.2.2.1, ← h1.1.2.2.1]
    exact hh
  · unfold svA scL
    rw [b1, b2, hss.1, lsF_e (fun j hj => by obtain ⟨y1, y2, y3⟩ := hss.2 j hj; unfold tr3; rw [y1, y2, y3])]
    rfl
end MC
end
section
/-! Compact and retain over all of the relation. -/
section CR
variable {m m1 m' : MS} {x x1 y : VS} {PS PS' : Nat → PT} {dn bn dn' : Nat → Nat} {d : Nat}
theorem pkFr_td (hm : m'.points = cnt m1.points m1.stay ∧ m'.pointSeries = tdT m1.stay m1.pointSeries m1.points ∧ m'.pointTimes = tdT m1.stay m1.pointTimes m1.points ∧ m'.places = tdT m1.stay m1.places m1.points ∧ m'.hidden = tdT m1.stay m1.hidden m1.points) (h0 : m1.points = m.points ∧ m1.pointSeries = m.pointSeries ∧ m1.pointTimes = m.pointTimes ∧ m1.hidden = m.hidden) (hp : ∀ q, q < m.points → m1.pkd q = true → m.pkd q = true) : pkFr m m' := by
  obtain ⟨a1, a2, a3, a4, a5⟩ := hm
  obtain ⟨b1, b2, b3, b4⟩ := h0
  intro i hi e
  rw [a1] at hi
  obtain ⟨q, q1, q2, rfl⟩ := cnt_at hi
  have e2 : m1.pkd q = true := by
    unfold MS.pkd at e ⊢
    rw [a4, tdT_get q1 q2] at e
    exact e
  have q3 := q1
  rw [b1] at q3
  exact ⟨q, q3, hp q q3 e2, by rw [a2, tdT_get q1 q2, b2], by rw [a3, tdT_get q1 q2, b3], by rw [a5, tdT_get q1 q2, b4]⟩
theorem sc_sub {ke : Nat → Bool} (hsc : y.nsO = tdT ke x.nsO x.nsc ∧ y.nsF = tdT ke x.nsF x.nsc ∧ y.nsT = tdT ke x.nsT x.nsc ∧ y.nsc = cnt x.nsc ke) : ∀ c, c ∈ scL y → c ∈ scL x := by
  obtain ⟨a1, a2, a3, a4⟩ := hsc
  intro c hc
  unfold scL at hc ⊢
  rw [a1, a2, a3, a4, ← td3, lsF_td] at hc
  unfold lsF
  obtain ⟨i, i1, i2⟩ := List.mem_map.mp hc
  exact List.mem_map.mpr ⟨i, (List.mem_filter.mp i1).1, i2⟩
theorem hd_fl (h : ptR m x PS dn) (hn : y.nhor = x.nhor) (hh : y.hsize = x.hsize ∧ y.hO = x.hO ∧ y.hT = x.hT ∧ y.hV = x.hV) : hdL y = (hdL x).filter (fun p => !decide (p.2.1 < y.nhor)) := by
  obtain ⟨a1, a2, a3, a4⟩ := hh
  have e : hdL y = hdL x := by unfold hdL; rw [a1, a2, a3, a4]
  rw [e, hn]
  symm
  refine List.filter_eq_self.mpr (fun p hp => ?_)
  unfold hdL lsF at hp
  obtain ⟨i, i1, i2⟩ := List.mem_map.mp hp
  have i3 := List.mem_range.mp i1
  rw [h.1.1.1] at i3
  obtain ⟨q, q1, q2, q3⟩ := cnt_at i3
  have t := (h.2.2.2.2.1.1 q q1 q2).1
  rw [← i2, ← q3]
  show (!decide (x.hT (cnt q m.hdd) < x.nhor)) = true
  rw [(h.1.1.2 q q1 q2).2.1, ← h.1.2.2.1, decide_eq_false t]
  rfl
theorem hd_rt {a : Int64} (hn : y.nhor = a) (hh : y.hsize = cnt x.hsize (x.hAb a) ∧ y.hO = tdT (x.hAb a) x.hO x.hsize ∧ y.hT = tdT (x.hAb a) x.hT x.hsize ∧ y.hV = tdT (x.hAb a) x.hV x.hsize) : hdL y = (hdL x).filter (fun p => !decide (p.2.1 < y.nhor)) := by
  obtain ⟨a1, a2, a3, a4⟩ := hh
  unfold hdL
  rw [a1, a2, a3, a4, ← td3, hn]
  exact lsF_fl (fun i _ => rfl)
theorem cms_f (m : MS) (d : Nat) : (((m.cmS d).records = m.records ∧ (m.cmS d).kept = m.records ∧ (m.cmS d).block = m.block ∧ (m.cmS d).used = m.used ∧ (m.cmS d).fresh = false ∧ (m.cmS d).journal = m.journal) ∧ (m.cmS d).kinds = m.kinds ∧ (m.cmS d).recordSeries = m.recordSeries ∧ (m.cmS d).units = m.units ∧ (m.cmS d).recordBlocks = m.recordBlocks ∧ (m.cmS d).firsts = m.firsts ∧ (m.cmS d).seconds = m.seconds) ∧ ((m.cmS d).baseSeries = m.baseSeries ∧ (m.cmS d).baseLasts = m.baseLasts ∧ (m.cmS d).seriesCount = m.seriesCount ∧ (m.cmS d).lasts = m.lasts ∧ (m.cmS d).catalogBlocks = m.catalogBlocks) ∧ ((m.cmS d).cutLeft = cutN m.syCut (m.cmN d + 1) ∧ (m.cmS d).written = m.syWr + (m.cmN d + 1) ∧ (m.cmS d).baseHorizon = (m.cmS d).horizon ∧ (m.cmS d).horizon = m.horizon) := by
  unfold MS.cmS
  generalize decide (m.cmN d = 0) = b
  cases b with
  | true => exact ⟨⟨⟨rfl, rfl, rfl, rfl, rfl, rfl⟩, rfl, rfl, rfl, rfl, rfl, rfl⟩, ⟨rfl, rfl, rfl, rfl, rfl⟩, rfl, rfl, rfl, rfl⟩
  | false => exact ⟨⟨⟨rfl, rfl, rfl, rfl, rfl, rfl⟩, rfl, rfl, rfl, rfl, rfl, rfl⟩, ⟨rfl, rfl, rfl, rfl, rfl⟩, rfl, rfl, rfl, rfl⟩
theorem cms_b (m : MS) (d : Nat) : ∀ q, q < (m.cmS d).points → (m.cmS d).baseHidden q = (m.cmS d).hidden q := by
  intro q hq
  show mapT (m.cmS d).points (fun _ => true) (m.cmS d).hidden _ q = (m.cmS d).hidden q
  rw [mapT_v hq, if_pos rfl]
theorem cms_k (h : ptR m x PS dn) (hd : d + 2 ≤ x.npc) : pkFr m (m.cmS d) := by
  have pk : ∀ q, q < m.points → (m.cm1 d).pkd q = true → m.pkd q = true := fun q hq e => by
    by_cases g : (m.inpc d q || m.inpc (d + 1) q) = true
    · rw [Bool.or_eq_true] at g
      rcases g with g | g
      · exact (inP_pk h (by omega) g).1
      · exact (inP_pk h (by omega) g).1
    · unfold MS.pkd at e ⊢
      rw [show (m.cm1 d).places q = m.places q from (cms_pl d hq).trans (if_neg g)] at e
      exact e
  unfold MS.cmS
  generalize decide (m.cmN d = 0) = b
  cases b with
  | true => exact pkFr_td (m1 := (((m.cm1 d).cm2 d (m.cmN d)).rmS (d + 1)).rmS d) ⟨rfl, rfl, rfl, rfl, rfl⟩ ⟨rfl, rfl, rfl, rfl⟩ pk
  | false => exact pkFr_td (m1 := ((m.cm1 d).cm2 d (m.cmN d)).rmS (d + 1)) ⟨rfl, rfl, rfl, rfl, rfl⟩ ⟨rfl, rfl, rfl, rfl⟩ pk
/-- compact, nothing seen -/
theorem cms_co0 {ga2 go2 : Nat → Nat} {gt2 gv2 : Nat → Int64} (h : coR m x PS dn bn) (hd : d + 2 ≤ x.npc) (h64 : x.nsc ≤ 64) (hpn : m.parcelNumber < 2 ^ 29) (hz : cnt (PS d).n (x.sePc (PS d)) + cnt (PS (d + 1)).n (x.sePc (PS (d + 1))) = 0) : ∃ d', coR (m.cmS d) ((x.cp0 PS d ga2 go2 gt2 gv2).kmS (sfT PS d 2 (x.npc - (d + 2)))) (sfT PS d 2 (x.npc - (d + 2))) d' d' := by
  have h' : ptR (m.cmS d) ((x.cp0 PS d ga2 go2 gt2 gv2).kmS (sfT PS d 2 (x.npc - (d + 2)))) (sfT PS d 2 (x.npc - (d + 2))) _ := cms_pt0 (x1 := x.cp0 PS d ga2 go2 gt2 gv2) h.1 hd h64 hpn rfl ⟨rfl, rfl, rfl, rfl, rfl⟩ ⟨⟨rfl, rfl, rfl, rfl⟩, rfl⟩ ⟨rfl, rfl, rfl, rfl⟩ (fun j hj => by
    have hj : j < x.npc - 2 := hj
    unfold sfT
    by_cases g : j < d
    · rw [if_neg (by omega), if_pos g]
    · rw [if_pos (by omega), if_neg g]) hz
  obtain ⟨f1, f2, f3, f4, f5, f6⟩ := cms_f m d
  obtain ⟨s1, s2, -⟩ := sy_eq h.2.2.2.1
  have c0 := cmN_0 h.1 hd hz
  rw [c0] at f3 f4
  exact ⟨_, mn_co h h' (cms_k h.1 hd) (by rw [f6]; exact Int64.lt_irrefl) f1 f2 (cms_b m d) f5 ⟨⟨rfl, rfl, rfl, rfl, rfl, rfl, rfl⟩, rfl, rfl, rfl, rfl, rfl, rfl⟩ ⟨rfl, rfl, rfl, rfl, rfl, rfl, rfl⟩ ⟨rfl, fun k hk => cpy_00 _ _ hk⟩ ⟨rfl, fun j hj => ⟨cpy_00 _ _ hj, cpy_00 _ _ hj, cpy_00 _ _ hj⟩⟩ (by rw [f3, s1]; rfl) (by rw [f4, s2]; rfl) (hd_fl h.1 rfl ⟨rfl, rfl, rfl, rfl⟩) (sc_sub (ke := (x.cp0 PS d ga2 go2 gt2 gv2).esC (sfT PS d 2 (x.npc - (d + 2)))) ⟨rfl, rfl, rfl, rfl⟩)⟩
end CR
end
section
/-! Compact of points, retain: over all of the relation. -/
section CS
variable {m : MS} {x y : VS} {PS : Nat → PT} {dn bn : Nat → Nat} {d : Nat} {a : Int64}
theorem sf_1 {α : Type} {f : Nat → α} {v : α} {n j : Nat} (hj : j < n - 1) (hd : d + 2 ≤ n) : sfT (va_up f d v) (d + 1) 1 (n - (d + 2)) j = if j = d then v else if j < d then f j else f (j + 1) := by
  unfold sfT
  by_cases e : j = d
  · subst e
    rw [if_neg (by omega), if_pos rfl]
    exact if_pos rfl
  · rw [if_neg e]
    by_cases g : j < d
    · rw [if_neg (by omega), if_pos g]
      exact if_neg e
    · rw [if_pos (by omega), if_neg g]
      exact if_neg (by omega)
theorem cms_ptN {x1 x' : VS} {PS' : Nat → PT} {go O : Nat → Nat} {gt gv T V : Nat → Int64} {N : Nat} (hN : N = cnt (PS d).n (x.sePc (PS d)) + cnt (PS (d + 1)).n (x.sePc (PS (d + 1)))) (h : ptR m x PS dn) (hd : d + 2 ≤ x.npc) (h64 : x.nsc ≤ 64) (hpn : m.parcelNumber < 2 ^ 29) (hn : x'.npc = x.npc - 1) (hx : x'.nhor = x.nhor ∧ x'.hsize = x.hsize ∧ x'.hO = x.hO ∧ x'.hT = x.hT ∧ x'.hV = x.hV)
    (hx1 : (x1.nsO = x.nsO ∧ x1.nsF = x.nsF ∧ x1.nsT = x.nsT ∧ x1.nsc = x.nsc) ∧ x1.npc = x'.npc) (hsc : x'.nsO = tdT (x1.esC PS') x.nsO x.nsc ∧ x'.nsF = tdT (x1.esC PS') x.nsF x.nsc ∧ x'.nsT = tdT (x1.esC PS') x.nsT x.nsc ∧ x'.nsc = cnt x.nsc (x1.esC PS')) (hPS : ∀ j, j < x'.npc → PS' j = if j = d then mkP N O T V else if j < d then PS j else PS (j + 1))
    (ha : gat2 (x.sePc (PS d)) (x.sePc (PS (d + 1))) (PS d) (PS (d + 1)) go gt gv) (l1 : laid go N N go O) (l2 : laid go N N gt T) (l3 : laid go N N gv V) (hp : 0 < N) : ptR (m.cmS d) x' PS' (tdT (x1.esC PS') dn x.nsc) ∧ m.cmN d = (mkP N O T V).bl := by
  subst hN
  exact ⟨cms_pt h hd h64 hpn hn hx hx1 hsc hPS ha l1 l2 l3 hp, cmN_eq h hd ha l1 l2 l3⟩
/-- compact, points seen -/
theorem cms_co1 {ga2 go2 O : Nat → Nat} {gt2 gv2 T V : Nat → Int64} {nb mp N : Nat} {pl1 : va_W} {Q : Nat → PT} (h : coR m x PS dn bn) (hd : d + 2 ≤ x.npc) (h64 : x.nsc ≤ 64) (hpn : m.parcelNumber < 2 ^ 29) (hN : N = cnt (PS d).n (x.sePc (PS d)) + cnt (PS (d + 1)).n (x.sePc (PS (d + 1)))) (hz : 0 < N) (ha : gat2 (x.sePc (PS d)) (x.sePc (PS (d + 1))) (PS d) (PS (d + 1)) go2 gt2 gv2) (l1 : laid go2 N N go2 O) (l2 : laid go2 N N gt2 T) (l3 : laid go2 N N gv2 V) (hb : (mkP N O T V).bl = nb) (hQ : ∀ j, j < x.npc - 1 → Q j = if j = d then mkP N O T V else if j < d then PS j else PS (j + 1)) : ∃ d', coR (m.cmS d) ((x.cp1 PS d nb mp pl1 ga2 go2 gt2 gv2).kmS Q) Q d' d' := by
  obtain ⟨h', c0⟩ := cms_ptN (x1 := x.cp1 PS d nb mp pl1 ga2 go2 gt2 gv2) (x' := (x.cp1 PS d nb mp pl1 ga2 go2 gt2 gv2).kmS Q) (PS' := Q) hN h.1 hd h64 hpn rfl ⟨rfl, rfl, rfl, rfl, rfl⟩ ⟨⟨rfl, rfl, rfl, rfl⟩, rfl⟩ ⟨rfl, rfl, rfl, rfl⟩ hQ ha l1 l2 l3 hz
  obtain ⟨f1, f2, f3, f4, f5, f6⟩ := cms_f m d
  obtain ⟨s1, s2, -⟩ := sy_eq h.2.2.2.1
  rw [c0, hb] at f3 f4
  exact ⟨_, mn_co h h' (cms_k h.1 hd) (by rw [f6]; exact Int64.lt_irrefl) f1 f2 (cms_b m d) f5 ⟨⟨rfl, rfl, rfl, rfl, rfl, rfl, rfl⟩, rfl, rfl, rfl, rfl, rfl, rfl⟩ ⟨rfl, rfl, rfl, rfl, rfl, rfl, rfl⟩ ⟨rfl, fun k hk => cpy_00 _ _ hk⟩ ⟨rfl, fun j hj => ⟨cpy_00 _ _ hj, cpy_00 _ _ hj, cpy_00 _ _ hj⟩⟩ (by rw [f3, s1]; rfl) (by rw [f4, s2]; rfl) (hd_fl h.1 rfl ⟨rfl, rfl, rfl, rfl⟩) (sc_sub (ke := (x.cp1 PS d nb mp pl1 ga2 go2 gt2 gv2).esC Q) ⟨rfl, rfl, rfl, rfl⟩)⟩
/-- what letting parcels go leaves -/
def rtF (m z : MS) : Prop := ((z.records = m.records ∧ z.kept = m.kept ∧ z.block = m.block ∧ z.used = m.used ∧ z.fresh = m.fresh ∧ z.journal = m.journal) ∧ z.kinds = m.kinds ∧ z.recordSeries = m.recordSeries ∧ z.units = m.units ∧ z.recordBlocks = m.recordBlocks ∧ z.firsts = m.firsts ∧ z.seconds = m.seconds) ∧ (z.baseSeries = m.baseSeries ∧ z.baseLasts = m.baseLasts ∧ z.catalogBlocks = m.catalogBlocks) ∧ z.cutLeft = m.cutLeft ∧ z.written = m.written
theorem rtJ_f (m : MS) (a : Int64) (n : Nat) : ∀ j, rtF m (m.rtJ a n j)
  | 0 => ⟨⟨⟨rfl, rfl, rfl, rfl, rfl, rfl⟩, rfl, rfl, rfl, rfl, rfl, rfl⟩, ⟨rfl, rfl, rfl⟩, rfl, rfl⟩
  | j + 1 => by
    have ih := rtJ_f m a n j
    show rtF m ((m.rtJ a n j).rtK a (n - 1 - j))
    unfold MS.rtK
    generalize allB _ _ = b
    cases b with
    | true => exact ih
    | false => exact ih
theorem rts_co (h : coR m x PS dn bn) (h0 : (-1 : Int64) < a) (hh : x.nhor < a) (h64 : x.nsc ≤ 64) : ∃ d', coR (m.rtS a) (((x.wjS.wb1).mhS PS a).kmS (tdT (mhC PS a) PS x.npc)) (tdT (mhC PS a) PS x.npc) d' d' := by
  rw [wjS_r]
  have h' := rts_pt (x1 := ((VS.wb1 (VS.s_jch (VS.s_jkept (VS.s_writes (VS.s_cutLeft x x.wjC) x.wjW) x.wjK) false)).mhS PS a)) (x' := (((VS.wb1 (VS.s_jch (VS.s_jkept (VS.s_writes (VS.s_cutLeft x x.wjC) x.wjW) x.wjK) false)).mhS PS a).kmS (tdT (mhC PS a) PS x.npc))) (PS' := tdT (mhC PS a) PS x.npc) h.1 h0 h64 rfl (fun k hk e => tdT_get hk e) rfl ⟨rfl, rfl, rfl, rfl⟩ ⟨⟨rfl, rfl, rfl, rfl⟩, rfl⟩ ⟨rfl, rfl, rfl, rfl⟩
  have pc : m.parcelCount = x.npc := h.1.1.2.1
  have es : m.rtS a = (((m.rt1 a).rtJ a x.npc x.npc).tidS).shoS := by unfold MS.rtS; rw [pc]
  obtain ⟨⟨⟨⟨f1, f2, f3, f4, f5, f6⟩, f7, f8, f9, f10, f11, f12⟩, ⟨g1, g2, g3⟩, g4, g5⟩⟩ : rtF (m.rt1 a) ((m.rt1 a).rtJ a x.npc x.npc) ∧ True := ⟨rtJ_f (m.rt1 a) a x.npc x.npc, trivial⟩
  obtain ⟨⟨b1, b2, b3, b4, b5, b6, b7, b8, b9, b10⟩, -, p3⟩ := rjI_all h.1 h0 rfl (Nat.le_refl x.npc)
  obtain ⟨s1, s2, -⟩ := sy_eq h.2.2.2.1
  have hho : m.horizon = x.nhor := h.1.1.2.2.1
  rw [es] at h' ⊢
  refine ⟨_, mn_co h h' (pkFr_td (m1 := (m.rt1 a).rtJ a x.npc x.npc) ⟨rfl, rfl, rfl, rfl, rfl⟩ ⟨b1, b2, b3, b5⟩ (fun q hq e => ?_)) ?_ ⟨⟨f1, f2, f3, f4, f5, f6⟩, f7, f8, f9, f10, f11, f12⟩ ⟨g1, g2, b7, b8, g3⟩ (fun q hq => ?_) rfl ⟨⟨rfl, rfl, rfl, rfl, rfl, rfl, rfl⟩, rfl, rfl, rfl, rfl, rfl, rfl⟩ ⟨rfl, rfl, rfl, rfl, rfl, rfl, rfl⟩ ⟨rfl, fun k hk => cpy_00 _ _ hk⟩ ⟨rfl, fun j hj => ⟨cpy_00 _ _ hj, cpy_00 _ _ hj, cpy_00 _ _ hj⟩⟩ ?_ ?_ (hd_rt (a := a) rfl ⟨rfl, rfl, rfl, rfl⟩) (sc_sub (ke := ((VS.wb1 (VS.s_jch (VS.s_jkept (VS.s_writes (VS.s_cutLeft x x.wjC) x.wjW) x.wjK) false)).mhS PS a).esC (tdT (mhC PS a) PS x.npc)) ⟨rfl, rfl, rfl, rfl⟩)⟩
  · rw [pkd_t] at e ⊢
    rw [p3 q hq] at e
    split at e
    · exact absurd (by decide) e
    · exact e
  · show ¬ ((m.rt1 a).rtJ a x.npc x.npc).horizon < m.horizon
    rw [b9, hho]
    exact Int64.not_lt.mpr (Int64.le_of_lt hh)
  · have hq : q < (((m.rt1 a).rtJ a x.npc x.npc).tidS).points := hq
    show mapT (((m.rt1 a).rtJ a x.npc x.npc).tidS).points (fun _ => true) (((m.rt1 a).rtJ a x.npc x.npc).tidS).hidden _ q = (((m.rt1 a).rtJ a x.npc x.npc).tidS).hidden q
    rw [mapT_v hq, if_pos rfl]
  · show ((m.rt1 a).rtJ a x.npc x.npc).cutLeft = cutF x.wjC
    rw [g4, ← s1]; rfl
  · show ((m.rt1 a).rtJ a x.npc x.npc).written = x.wjW + 1
    rw [g5, ← s2]; rfl
end CS
end
section
/-! Packed points and last times; a start over all of the relation. -/
section PK
variable {m : MS} {x : VS} {PS : Nat → PT} {dn bn : Nat → Nat} {fN : Nat → Nat}
theorem pk_of (h : ptR m x PS dn) (hs : seR m x) : pkL PS x.npc x.nser x.nlast := by
  intro k hk i hi
  obtain ⟨e1, -, -⟩ := h.1.2.2.2 k hk
  obtain ⟨q, q1, q2, q3, q4⟩ := arr_ix e1 (W := m.seriesCount) (fun q hq hc => in_se h hk hq hc) hi
  obtain ⟨y1, y2⟩ := h.2.2.2.2.1.2.1 q q1 (inP_pk h hk q2).2.1
  rw [q3, q4]
  rw [hs.1] at y1
  rw [hs.2 _ y1] at y2
  exact ⟨y1, y2⟩
theorem pk_sv (h : ptR m x PS dn) (hb : bsR m x bn) : pkL PS x.npc x.sser x.slast := by
  intro k hk i hi
  obtain ⟨e1, -, -⟩ := h.1.2.2.2 k hk
  obtain ⟨q, q1, q2, q3, q4⟩ := arr_ix e1 (W := m.seriesCount) (fun q hq hc => in_se h hk hq hc) hi
  obtain ⟨-, -, ⟨j1, j2, j3, -, -⟩⟩ := hb
  obtain ⟨y1, y2⟩ := j1 q q1 (inP_pk h hk q2).1
  rw [q3, q4]
  rw [j2] at y1
  rw [j3 _ y1] at y2
  exact ⟨y1, y2⟩
theorem rp_cb (fN : Nat → Nat) (m : MS) : ∀ r, (m.rpS fN r).catalogBlocks = m.catalogBlocks
  | 0 => rfl
  | r + 1 => by
    rw [← rp_cb fN m r]
    show ((m.rpS fN r).rp1 fN r).catalogBlocks = _
    unfold MS.rp1
    split
    · rfl
    · split
      · split
        · rfl
        · rfl
      · rfl
theorem st_co {a9 b9 u9n : Nat} {z : VS} (h : coR m x PS dn bn) (hN : 0 < x.hN) (hd : m.deletes + x.jkept ≤ 2 ^ 29) (hfg : fgG x.jB x.jU x.jkept = (a9, b9, u9n)) (hz : dgR PS (x.stS a9 b9 u9n) x.jkept z) : (∃ d', coR (m.st2.rpS fN m.kept) z PS d' bn) ∧ (m.st2.rpS fN m.kept).deletes ≤ m.deletes + x.jkept := by
  obtain ⟨h1, h2, h3, h4, h5, h6, h7⟩ := h
  obtain ⟨⟨d', u1⟩, u2, u3, u4, u5, u6⟩ := st_all (fN := fN) h1 h2 h4 h5 h6 (pk_sv h1 h2) hN hd hfg hz
  have dk := dg_k hz
  have e1 : z.jsize = min x.jsize x.jkept := (congrArg VS.jsize dk).trans rfl
  have e2 : z.jkept = min x.jsize x.jkept := (congrArg VS.jkept dk).trans rfl
  have e3 : z.ncat = x.scat := (congrArg VS.ncat dk).trans rfl
  refine ⟨⟨d', u1, u2, u3, u4, u5, by rw [e1, e2]; exact Nat.le_refl _, ?_⟩, u6⟩
  rw [rp_cb, e3, h2.2.2.2.2.2.2]
  exact h7
end PK
end
