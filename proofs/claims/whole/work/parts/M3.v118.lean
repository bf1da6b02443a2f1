/-! The class and the abstract state. -/
def inA (st : AS4) (x : VS) : Prop := st.1 = x.nser ∧ (∀ s, s < x.nser → st.2.1 s = x.nlast s) ∧ st.2.2.1 = hdL x ∧ st.2.2.2 = scL x
theorem haF_at (z : VS) (pa : Nat → Nat) (w : Nat) (a b : Int64) (h0 : z.hsize ≤ z.hN) (h1 : 0 < z.hN) : (∀ q, q < z.hsize → (z.haF pa w a b).hO q = z.hO q ∧ (z.haF pa w a b).hT q = z.hT q ∧ (z.haF pa w a b).hV q = z.hV q) ∧ (z.haF pa w a b).hO z.hsize = w ∧ (z.haF pa w a b).hT z.hsize = a ∧ (z.haF pa w a b).hV z.hsize = b := by
  unfold VS.haF
  split
  · next e =>
    refine ⟨fun q hq => ⟨?_, ?_, ?_⟩, ?_, ?_, ?_⟩
    · exact (va_up_ne _ _ (Nat.ne_of_lt hq)).trans (cpy_lt _ _ (by omega) (by omega))
    · exact (va_up_ne _ _ (Nat.ne_of_lt hq)).trans (cpy_lt _ _ (by omega) (by omega))
    · exact (va_up_ne _ _ (Nat.ne_of_lt hq)).trans (cpy_lt _ _ (by omega) (by omega))
    · exact va_up_self _ _ _
    · exact va_up_self _ _ _
    · exact va_up_self _ _ _
  · refine ⟨fun q hq => ⟨va_up_ne _ _ (Nat.ne_of_lt hq), va_up_ne _ _ (Nat.ne_of_lt hq), va_up_ne _ _ (Nat.ne_of_lt hq)⟩, va_up_self _ _ _, va_up_self _ _ _, va_up_self _ _ _⟩
/-- what a point that comes leaves as it was -/
theorem cmF_k (x : VS) (pa : Nat → Nat) (w : Nat) (a b : Int64) : (x.cmF pa w a b).jK = x.jK ∧ (x.cmF pa w a b).jO = x.jO ∧ (x.cmF pa w a b).jF = x.jF ∧ (x.cmF pa w a b).jS = x.jS ∧ (x.cmF pa w a b).npc = x.npc ∧ (x.cmF pa w a b).nhor = x.nhor ∧ (x.cmF pa w a b).nser = x.nser ∧ (x.cmF pa w a b).nlast = va_up x.nlast w a ∧ scL (x.cmF pa w a b) = scL x := by
  unfold VS.cmF
  split
  · exact ⟨rfl, rfl, rfl, rfl, rfl, rfl, rfl, rfl, rfl⟩
  · unfold VS.haF
    split
    · exact ⟨rfl, rfl, rfl, rfl, rfl, rfl, rfl, rfl, rfl⟩
    · exact ⟨rfl, rfl, rfl, rfl, rfl, rfl, rfl, rfl, rfl⟩
theorem hdL_cm (x : VS) (pa : Nat → Nat) (w : Nat) (a b : Int64) (h0 : x.hsize ≤ x.hN) (h1 : 0 < x.hN) : hdL (x.cmF pa w a b) = (if a < x.nhor then hdL x else hdL x ++ [(w, a, b)]) ∧ (x.cmF pa w a b).hsize ≤ (x.cmF pa w a b).hN ∧ 0 < (x.cmF pa w a b).hN := by
  unfold VS.cmF
  by_cases e : a < x.nhor
  · rw [if_pos e, if_pos e]
    exact ⟨rfl, h0, h1⟩
  · rw [if_neg e, if_neg e]
    obtain ⟨a1, a2, a3, a4⟩ := haF_at (VS.s_nlast x (va_up x.nlast w a)) pa w a b h0 h1
    obtain ⟨-, -, -, -, -, -, -, c8, c9⟩ := haF_b (VS.s_nlast x (va_up x.nlast w a)) pa w a b
    have c8 : ((VS.s_nlast x (va_up x.nlast w a)).haF pa w a b).hsize = x.hsize + 1 := c8
    have c9 : ((VS.s_nlast x (va_up x.nlast w a)).haF pa w a b).hN = x.hcap := c9
    have l2 : x.hsize + 1 ≤ x.hcap ∧ 0 < x.hcap := by unfold VS.hcap; split <;> omega
    refine ⟨?_, by omega, by omega⟩
    unfold hdL
    rw [c8, lsF_s]
    congr 1
    · exact lsF_e (fun i hi => by
        obtain ⟨y1, y2, y3⟩ := a1 i hi
        unfold tr3
        rw [y1, y2, y3])
    · have a2 : ((VS.s_nlast x (va_up x.nlast w a)).haF pa w a b).hO x.hsize = w := a2
      have a3 : ((VS.s_nlast x (va_up x.nlast w a)).haF pa w a b).hT x.hsize = a := a3
      have a4 : ((VS.s_nlast x (va_up x.nlast w a)).haF pa w a b).hV x.hsize = b := a4
      unfold tr3
      rw [a2, a3, a4]
section IA
variable {st : AS4} {x x' : VS} {PS : Nat → PT} {npc w : Nat} {hor a b : Int64}
theorem inA_0 (h : inA st x) (hx : x'.nser = x.nser + 1 ∧ x'.nlast = va_up x.nlast x.nser (-1) ∧ hdL x' = hdL x ∧ scL x' = scL x) : inA (rpS PS npc hor st 0 w a b) x' := by
  obtain ⟨h1, h2, h3, h4⟩ := h
  obtain ⟨e1, e2, e3, e4⟩ := hx
  refine ⟨by rw [e1, ← h1]; rfl, fun s hs => ?_, by rw [e3]; exact h3, by rw [e4]; exact h4⟩
  rw [e2]
  show va_up st.2.1 st.1 (-1) s = _
  rw [h1]
  by_cases z : s = x.nser
  · subst z; rw [va_up_self, va_up_self]
  · rw [va_up_ne _ _ z, va_up_ne _ _ z]; exact h2 s (by omega)
theorem inA_1 (h : inA st x) (hx : x'.nser = x.nser ∧ x'.nlast = va_up x.nlast w a ∧ hdL x' = (if a < hor then hdL x else hdL x ++ [(w, a, b)]) ∧ scL x' = scL x) : inA (rpS PS npc hor st 1 w a b) x' := by
  obtain ⟨h1, h2, h3, h4⟩ := h
  obtain ⟨e1, e2, e3, e4⟩ := hx
  refine ⟨by rw [e1]; exact h1, fun s hs => ?_, ?_, by rw [e4]; exact h4⟩
  · rw [e2]
    rw [e1] at hs
    show va_up st.2.1 w a s = _
    by_cases z : s = w
    · subst z; rw [va_up_self, va_up_self]
    · rw [va_up_ne _ _ z, va_up_ne _ _ z]; exact h2 s hs
  · rw [e3, ← h3]
    rfl
theorem inA_2 (h : inA st x) (hw : w < x.nser) (hx : x'.nser = x.nser ∧ x'.nlast = x.nlast ∧ hdL x' = (hdL x).filter (fun p => !wiB w a b p) ∧ scL x' = (if 0 < sumN x.npc (x.soN PS w a b) then scL x ++ [(w, maxL a x.nhor, minL b (x.nlast w))] else scL x)) : inA (rpS PS x.npc x.nhor st 2 w a b) x' := by
  obtain ⟨h1, h2, h3, h4⟩ := h
  obtain ⟨e1, e2, e3, e4⟩ := hx
  refine ⟨by rw [e1]; exact h1, fun s hs => ?_, ?_, ?_⟩
  · rw [e2]
    rw [e1] at hs
    exact h2 s hs
  · rw [e3, ← h3]
    rfl
  · rw [e4]
    show (if hitB PS x.npc x.nhor st.2.2.2 w a b = true then st.2.2.2 ++ [(w, maxL a x.nhor, minL b (st.2.1 w))] else st.2.2.2) = _
    rw [h4, h2 w hw]
    by_cases z : 0 < sumN x.npc (x.soN PS w a b)
    · rw [if_pos z, if_pos ((hit_e x PS w a b).mpr z)]
    · rw [if_neg z, if_neg (fun y => z ((hit_e x PS w a b).mp y))]
end IA
/-- records done again: the abstract state goes along -/
theorem dg_A {PS : Nat → PT} {x0 : VS} {st : AS4} {K : Nat} (h : inA st x0) (h0 : x0.hsize ≤ x0.hN ∧ 0 < x0.hN) (hk : ∀ r, r < K → ¬ x0.jK r = 0 → x0.jO r < (rpF PS x0.npc x0.nhor st x0.jK x0.jO x0.jF x0.jS r).1) : ∀ {r : Nat} {z : VS}, r ≤ K → dgR PS x0 r z → (z.jK = x0.jK ∧ z.jO = x0.jO ∧ z.jF = x0.jF ∧ z.jS = x0.jS ∧ z.npc = x0.npc ∧ z.nhor = x0.nhor) ∧ (z.hsize ≤ z.hN ∧ 0 < z.hN) ∧ inA (rpF PS x0.npc x0.nhor st x0.jK x0.jO x0.jF x0.jS r) z
  | 0, z, _, e => by
    rw [show z = x0 from e]
    exact ⟨⟨rfl, rfl, rfl, rfl, rfl, rfl⟩, h0, h⟩
  | r + 1, z, hr, e => by
    obtain ⟨y, e1, e2⟩ := e
    obtain ⟨⟨k1, k2, k3, k4, k5, k6⟩, ⟨s1, s2⟩, ih⟩ := dg_A h h0 hk (r := r) (z := y) (by omega) e1
    have hkr := hk r (by omega)
    obtain ⟨sr, esr⟩ : ∃ sr, sr = rpF PS x0.npc x0.nhor st x0.jK x0.jO x0.jF x0.jS r := ⟨_, rfl⟩
    have ef : rpF PS x0.npc x0.nhor st x0.jK x0.jO x0.jF x0.jS (r + 1) = rpS PS x0.npc x0.nhor sr (x0.jK r) (x0.jO r) (x0.jF r) (x0.jS r) := by rw [esr]; rfl
    rw [ef]
    rw [← esr] at ih hkr
    unfold dgS at e2
    rw [k1, k2, k3, k4] at e2
    rcases e2 with ⟨q1, q2⟩ | ⟨q1, pa, q2⟩ | ⟨q1, q3, q2⟩ | ⟨q1, q3, q2⟩
    · rw [q1]
      subst q2
      exact ⟨⟨k1, k2, k3, k4, k5, k6⟩, ⟨s1, s2⟩, inA_0 ih ⟨rfl, rfl, rfl, rfl⟩⟩
    · obtain ⟨c1, c2, c3, c4, c5, c6, c7, c8, c9⟩ := cmF_k y pa (x0.jO r) (x0.jF r) (x0.jS r)
      obtain ⟨d1, d2, d3⟩ := hdL_cm y pa (x0.jO r) (x0.jF r) (x0.jS r) s1 s2
      rw [← q2] at c1 c2 c3 c4 c5 c6 c7 c8 c9 d1 d2 d3
      rw [q1]
      refine ⟨⟨c1.trans k1, c2.trans k2, c3.trans k3, c4.trans k4, c5.trans k5, c6.trans k6⟩, ⟨d2, d3⟩, inA_1 ih ⟨c7, c8, ?_, c9⟩⟩
      rw [d1, k6]
    · have hw := hkr (by rw [q1]; decide)
      rw [ih.1] at hw
      subst q2
      refine ⟨⟨k1, k2, k3, k4, k5, k6⟩, ⟨Nat.le_trans (cnt_le _ _) s1, s2⟩, ?_⟩
      rw [q1, ← k5, ← k6]
      refine inA_2 ih hw ⟨rfl, rfl, hdL_dw y _ _ _, ?_⟩
      rw [if_neg (by omega)]
      rfl
    · have hw := hkr (by rw [q1]; decide)
      rw [ih.1] at hw
      subst q2
      refine ⟨⟨k1, k2, k3, k4, k5, k6⟩, ⟨Nat.le_trans (cnt_le _ _) s1, s2⟩, ?_⟩
      rw [q1, ← k5, ← k6]
      refine inA_2 ih hw ⟨rfl, rfl, hdL_dw y _ _ _, ?_⟩
      rw [if_pos q3, scL_as]
      rfl
