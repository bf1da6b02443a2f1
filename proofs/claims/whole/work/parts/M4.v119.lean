/-! The journal and the state now. -/
def svA (x : VS) : AS4 := (x.sser, x.slast, [], lsF x.ssc (tr3 x.ssO x.ssF x.ssT))
def rpV (PS : Nat → PT) (x : VS) (K : Nat) : AS4 := rpF PS x.npc x.nhor (svA x) x.jK x.jO x.jF x.jS K
/-- no head that a scar covers; scars end no later than their series' last times -/
def huA (st : AS4) : Prop := (∀ p, p ∈ st.2.2.1 → cvL st.2.2.2 p.1 p.2.1 = false ∧ p.1 < st.1 ∧ ¬ st.2.1 p.1 < p.2.1) ∧ ∀ c, c ∈ st.2.2.2 → c.1 < st.1 ∧ ¬ st.2.1 c.1 < c.2.2
/-- packed points are no later than last times -/
def pkL (PS : Nat → PT) (npc n : Nat) (la : Nat → Int64) : Prop := ∀ k, k < npc → ∀ i, i < (PS k).n → (PS k).o i < n ∧ ¬ la ((PS k).o i) < (PS k).t i
def joR (PS : Nat → PT) (x : VS) : Prop := inA (rpV PS x x.jsize) x ∧ (∀ r, r < x.jsize → x.jK r ≤ 2 ∧ (x.jK r = 0 → x.jO r = (rpV PS x r).1) ∧ (¬ x.jK r = 0 → x.jO r < (rpV PS x r).1) ∧ (x.jK r = 1 → isTm (x.jF r) = true ∧ (rpV PS x r).2.1 (x.jO r) < x.jF r) ∧ (x.jK r = 2 → hitB PS x.npc x.nhor (scL x) (x.jO r) (x.jF r) (x.jS r) = false)) ∧ ∀ K, x.jkept ≤ K → K ≤ x.jsize → huA (rpV PS x K)
theorem cvL_app (s u : List HP3) (w : Nat) (t : Int64) : cvL (s ++ u) w t = (cvL s w t || cvL u w t) := by
  unfold cvL
  rw [List.any_append]
theorem hit_m {PS : Nat → PT} {npc : Nat} {hor : Int64} {s u : List HP3} {w : Nat} {a b : Int64} (hs : ∀ o t, cvL s o t = true → cvL u o t = true) (h : hitB PS npc hor s w a b = false) : hitB PS npc hor u w a b = false := by
  cases e : hitB PS npc hor u w a b with
  | false => rfl
  | true =>
    obtain ⟨k, h1, h2⟩ := anyB_iff.mp e
    obtain ⟨i, h3, h4⟩ := anyB_iff.mp h2
    have : hitB PS npc hor s w a b = true := anyB_iff.mpr ⟨k, h1, anyB_iff.mpr ⟨i, h3, by
      rw [Bool.and_eq_true, Bool.and_eq_true, Bool.and_eq_true, Bool.and_eq_true] at h4 ⊢
      obtain ⟨g1, g2, g3, g4, g5⟩ := h4
      refine ⟨g1, g2, g3, g4, ?_⟩
      cases z : cvL s ((PS k).o i) ((PS k).t i) with
      | false => rfl
      | true => rw [hs _ _ z] at g5; cases g5⟩⟩
    rw [h] at this
    cases this
theorem nd {P : Prop} [Decidable P] : (!decide P) = true ↔ ¬ P := by
  by_cases h : P
  · rw [decide_eq_true h]; exact ⟨fun z => (by cases z), fun z => absurd h z⟩
  · rw [decide_eq_false h]; exact ⟨fun _ => h, fun _ => rfl⟩
/-- behind a delete nothing that is seen lies in its range -/
theorem hit_a {PS : Nat → PT} {npc n : Nat} {hor : Int64} {la : Nat → Int64} {s : List HP3} {w : Nat} {a b : Int64} (hp : pkL PS npc n la) : hitB PS npc hor (s ++ [(w, maxL a hor, minL b (la w))]) w a b = false := by
  cases e : hitB PS npc hor (s ++ [(w, maxL a hor, minL b (la w))]) w a b with
  | false => rfl
  | true =>
    exfalso
    obtain ⟨k, h1, h2⟩ := anyB_iff.mp e
    obtain ⟨i, h3, h4⟩ := anyB_iff.mp h2
    rw [Bool.and_eq_true, Bool.and_eq_true, Bool.and_eq_true, Bool.and_eq_true, nd, nd, nd] at h4
    obtain ⟨g1, g2, g3, g4, g5⟩ := h4
    have g1 := of_decide_eq_true g1
    have p := (hp k h1 i h3).2
    rw [cvL_app] at g5
    have c : cvL [(w, maxL a hor, minL b (la w))] ((PS k).o i) ((PS k).t i) = true := by
      unfold cvL
      rw [List.any_cons, List.any_nil, Bool.or_false, Bool.and_eq_true, Bool.and_eq_true, nd, nd]
      refine ⟨decide_eq_true g1.symm, ?_, ?_⟩
      · show ¬ (PS k).t i < maxL a hor
        unfold maxL
        split
        · exact g2
        · exact g4
      · show ¬ minL b (la w) < (PS k).t i
        unfold minL
        split
        · rw [g1] at p; exact p
        · exact g3
    rw [c, Bool.or_true] at g5
    cases g5
section JO
variable {PS : Nat → PT} {x x' : VS} {kd w : Nat} {a b : Int64}
/-- the same records, the same saved state: the same replay -/
theorem rpV_e (h : x'.npc = x.npc ∧ x'.nhor = x.nhor ∧ svA x' = svA x) {K : Nat} (hj : ∀ r, r < K → x'.jK r = x.jK r ∧ x'.jO r = x.jO r ∧ x'.jF r = x.jF r ∧ x'.jS r = x.jS r) : rpV PS x' K = rpV PS x K := by
  obtain ⟨h1, h2, h3⟩ := h
  unfold rpV
  rw [h1, h2, h3]
  exact rpF_e hj
/-- a record more, done on the state now -/
theorem joR_add (h : joR PS x) (hs : x'.npc = x.npc ∧ x'.nhor = x.nhor ∧ svA x' = svA x) (hj : x'.jsize = x.jsize + 1 ∧ x.jkept ≤ x'.jkept ∧ ∀ r, r < x.jsize → x'.jK r = x.jK r ∧ x'.jO r = x.jO r ∧ x'.jF r = x.jF r ∧ x'.jS r = x.jS r) (hn : x'.jK x.jsize = kd ∧ x'.jO x.jsize = w ∧ x'.jF x.jsize = a ∧ x'.jS x.jsize = b) (hi : inA (rpS PS x.npc x.nhor (rpV PS x x.jsize) kd w a b) x') (hp : pkL PS x.npc x.nser x.nlast)
    (hk : kd ≤ 2 ∧ (kd = 0 → w = x.nser) ∧ (¬ kd = 0 → w < x.nser) ∧ (kd = 1 → isTm a = true ∧ x.nlast w < a)) (hl : x.jkept ≤ x.jsize) : joR PS x' := by
  obtain ⟨h1, h2, h3⟩ := h
  obtain ⟨j1, j2, j3⟩ := hj
  obtain ⟨n1, n2, n3, n4⟩ := hn
  obtain ⟨c1, c2, c3⟩ := hs
  have eK : ∀ K, K ≤ x.jsize → rpV PS x' K = rpV PS x K := fun K hK => rpV_e ⟨c1, c2, c3⟩ (fun r hr => j3 r (by omega))
  have eN : rpV PS x' (x.jsize + 1) = rpS PS x.npc x.nhor (rpV PS x x.jsize) kd w a b := by
    show rpS PS x'.npc x'.nhor (rpV PS x' x.jsize) (x'.jK x.jsize) (x'.jO x.jsize) (x'.jF x.jsize) (x'.jS x.jsize) = _
    rw [eK _ (Nat.le_refl _), c1, c2, n1, n2, n3, n4]
  obtain ⟨st, est⟩ : ∃ st, st = rpV PS x x.jsize := ⟨_, rfl⟩
  rw [← est] at h1 hi eN
  have hu := h3 x.jsize hl (Nat.le_refl _)
  rw [← est] at hu
  -- scars are only more
  have grow : ∀ o t, cvL (scL x) o t = true → cvL (scL x') o t = true := fun o t e => by
    rw [← hi.2.2.2]
    rw [← h1.2.2.2] at e
    unfold rpS
    split
    · exact e
    · split
      · exact e
      · show cvL (if hitB PS x.npc x.nhor st.2.2.2 w a b = true then st.2.2.2 ++ [(w, maxL a x.nhor, minL b (st.2.1 w))] else st.2.2.2) o t = true
        split
        · rw [cvL_app, e]; rfl
        · exact e
  refine ⟨by rw [j1, eN]; exact hi, fun r hr => ?_, fun K hK1 hK2 => ?_⟩
  · rw [j1] at hr
    by_cases e : r = x.jsize
    · subst e
      rw [n1, n2, n3, n4, eK _ (Nat.le_refl _), ← est, c1, c2]
      obtain ⟨g1, g2, g3, g4⟩ := hk
      refine ⟨g1, fun z => by rw [h1.1]; exact g2 z, fun z => by rw [h1.1]; exact g3 z, fun z => ?_, fun z => ?_⟩
      · rw [h1.2.1 w (g3 (by omega))]
        exact g4 z
      · have hw := g3 (by omega)
        have ll : ∀ s, s < x.nser → st.2.1 s = x.nlast s := h1.2.1
        rw [← hi.2.2.2, z]
        show hitB PS x.npc x.nhor (if hitB PS x.npc x.nhor st.2.2.2 w a b = true then st.2.2.2 ++ [(w, maxL a x.nhor, minL b (st.2.1 w))] else st.2.2.2) w a b = false
        by_cases g : hitB PS x.npc x.nhor st.2.2.2 w a b = true
        · rw [if_pos g, ll w hw]
          exact hit_a hp
        · rw [if_neg g]
          exact Bool.eq_false_iff.mpr g
    · obtain ⟨y1, y2, y3, y4⟩ := j3 r (by omega)
      rw [y1, y2, y3, y4, eK r (by omega), c1, c2]
      obtain ⟨g1, g2, g3, g4, g5⟩ := h2 r (by omega)
      exact ⟨g1, g2, g3, g4, fun z => hit_m grow (g5 z)⟩
  · rw [j1] at hK2
    by_cases e : K = x.jsize + 1
    · rw [e, eN]
      obtain ⟨u1, u2⟩ := hu
      obtain ⟨k1, k2, k3, k4⟩ := hk
      have ll : ∀ s, s < x.nser → st.2.1 s = x.nlast s := h1.2.1
      have ns : st.1 = x.nser := h1.1
      unfold rpS
      by_cases z0 : kd = 0
      · rw [if_pos z0]
        have up : ∀ q, q < st.1 → va_up st.2.1 st.1 (-1) q = st.2.1 q := fun q hq => va_up_ne _ _ (by omega)
        refine ⟨fun p hp1 => ?_, fun c hc => ?_⟩
        · obtain ⟨f1, f2, f3⟩ := u1 p hp1
          exact ⟨f1, by show p.1 < st.1 + 1; omega, by show ¬ va_up st.2.1 st.1 (-1) p.1 < p.2.1; rw [up _ f2]; exact f3⟩
        · obtain ⟨f1, f2⟩ := u2 c hc
          exact ⟨by show c.1 < st.1 + 1; omega, by show ¬ va_up st.2.1 st.1 (-1) c.1 < c.2.2; rw [up _ f1]; exact f2⟩
      · rw [if_neg z0]
        by_cases z1 : kd = 1
        · rw [if_pos z1]
          have hw := k3 z0
          have la := (k4 z1).2
          have up : ∀ q t, ¬ st.2.1 q < t → ¬ va_up st.2.1 w a q < t := fun q t ht y => by
            by_cases g : q = w
            · rw [g, va_up_self] at y
              rw [g, ll w hw] at ht
              exact ht (Int64.lt_trans la y)
            · rw [va_up_ne _ _ g] at y
              exact ht y
          refine ⟨fun p hp1 => ?_, fun c hc => ?_⟩
          · have hp1 : p ∈ (if a < x.nhor then st.2.2.1 else st.2.2.1 ++ [(w, a, b)]) := hp1
            have old : p ∈ st.2.2.1 → cvL st.2.2.2 p.1 p.2.1 = false ∧ p.1 < st.1 ∧ ¬ va_up st.2.1 w a p.1 < p.2.1 := fun y => by
              obtain ⟨f1, f2, f3⟩ := u1 p y
              exact ⟨f1, f2, up _ _ f3⟩
            split at hp1
            · exact old hp1
            · rw [List.mem_append, List.mem_singleton] at hp1
              rcases hp1 with y | y
              · exact old y
              · subst y
                refine ⟨?_, by show w < st.1; omega, by show ¬ va_up st.2.1 w a w < a; rw [va_up_self]; exact Int64.lt_irrefl⟩
                show cvL st.2.2.2 w a = false
                cases g : cvL st.2.2.2 w a with
                | false => rfl
                | true =>
                  exfalso
                  unfold cvL at g
                  rw [List.any_eq_true] at g
                  obtain ⟨c, hc, g⟩ := g
                  rw [Bool.and_eq_true, Bool.and_eq_true, nd, nd] at g
                  have e1 : c.1 = w := of_decide_eq_true g.1
                  have f2 := (u2 c hc).2
                  rw [e1, ll w hw] at f2
                  exact g.2.2 (Int64.lt_of_le_of_lt (Int64.not_lt.mp f2) la)
          · obtain ⟨f1, f2⟩ := u2 c hc
            exact ⟨f1, up _ _ f2⟩
        · rw [if_neg z1]
          have hw := k3 z0
          have scs : ∀ c, c ∈ (if hitB PS x.npc x.nhor st.2.2.2 w a b = true then st.2.2.2 ++ [(w, maxL a x.nhor, minL b (st.2.1 w))] else st.2.2.2) → c ∈ st.2.2.2 ∨ c = (w, maxL a x.nhor, minL b (st.2.1 w)) := fun c hc => by
            split at hc
            · rw [List.mem_append, List.mem_singleton] at hc; exact hc
            · exact Or.inl hc
          refine ⟨fun p hp1 => ?_, fun c hc => ?_⟩
          · have hp1 : p ∈ st.2.2.1.filter (fun p => !wiB w a b p) := hp1
            rw [List.mem_filter] at hp1
            obtain ⟨f1, f2, f3⟩ := u1 p hp1.1
            refine ⟨?_, f2, f3⟩
            show cvL (if hitB PS x.npc x.nhor st.2.2.2 w a b = true then st.2.2.2 ++ [(w, maxL a x.nhor, minL b (st.2.1 w))] else st.2.2.2) p.1 p.2.1 = false
            split
            · rw [cvL_app, f1, Bool.false_or]
              cases g : cvL [(w, maxL a x.nhor, minL b (st.2.1 w))] p.1 p.2.1 with
              | false => rfl
              | true =>
                exfalso
                unfold cvL at g
                rw [List.any_cons, List.any_nil, Bool.or_false, Bool.and_eq_true, Bool.and_eq_true, nd, nd] at g
                obtain ⟨g1, g2, g3⟩ := g
                have g1 : w = p.1 := of_decide_eq_true g1
                have g2 : ¬ p.2.1 < maxL a x.nhor := g2
                have g3 : ¬ minL b (st.2.1 w) < p.2.1 := g3
                have wi : wiB w a b p = true := by
                  unfold wiB
                  rw [Bool.and_eq_true, Bool.and_eq_true, nd, nd]
                  refine ⟨decide_eq_true g1.symm, fun y => g2 ?_, fun y => g3 ?_⟩
                  · unfold maxL
                    split
                    · exact y
                    · next q => exact Int64.lt_of_lt_of_le y (Int64.not_lt.mp q)
                  · unfold minL
                    split
                    · next q => exact Int64.lt_trans q y
                    · exact y
                rw [wi] at hp1
                cases hp1.2
            · exact f1
          · rcases scs c hc with y | y
            · exact u2 c y
            · subst y
              refine ⟨by show w < st.1; omega, ?_⟩
              show ¬ st.2.1 w < minL b (st.2.1 w)
              unfold minL
              split
              · exact Int64.lt_irrefl
              · next q => exact q
    · rw [eK K (by omega)]
      exact h3 K (by omega) (by omega)
end JO
