/-! A retain: what it counts. -/
theorem rp_len (PS : Nat → PT) (npc : Nat) (hor : Int64) (st : AS4) (jK jO : Nat → Nat) (jF jS : Nat → Int64) : ∀ r, (rpF PS npc hor st jK jO jF jS r).2.2.1.length ≤ st.2.2.1.length + cnt r (fun i => decide (jK i = 1))
  | 0 => Nat.le_refl _
  | r + 1 => by
    have h := rp_len PS npc hor st jK jO jF jS r
    show (rpS PS npc hor (rpF PS npc hor st jK jO jF jS r) (jK r) (jO r) (jF r) (jS r)).2.2.1.length ≤ _
    obtain ⟨u, eu⟩ : ∃ u, u = rpF PS npc hor st jK jO jF jS r := ⟨_, rfl⟩
    rw [← eu] at h ⊢
    have hc : cnt r (fun i => decide (jK i = 1)) ≤ cnt (r + 1) (fun i => decide (jK i = 1)) := cnt_mono (Nat.le_succ r)
    unfold rpS
    split
    · show u.2.2.1.length ≤ _
      omega
    · split
      · rename_i c
        rw [cnt_t (f := fun i => decide (jK i = 1)) (decide_eq_true c)]
        show (if jF r < hor then u.2.2.1 else u.2.2.1 ++ [(jO r, jF r, jS r)]).length ≤ _
        split
        · omega
        · rw [List.length_append]
          show u.2.2.1.length + 1 ≤ _
          omega
      · show (u.2.2.1.filter (fun p => !wiB (jO r) (jF r) (jS r) p)).length ≤ _
        have := List.length_filter_le (fun p => !wiB (jO r) (jF r) (jS r) p) u.2.2.1
        omega
/-- no more heads than points in the journal -/
theorem hs_le {PS : Nat → PT} {x : VS} (hj : joR PS x) : x.hsize ≤ cnt x.jsize (fun r => decide (x.jK r = 1)) := by
  obtain ⟨⟨i1, i2, i3, i4⟩, -⟩ := hj
  have h := rp_len PS x.npc x.nhor (svA x) x.jK x.jO x.jF x.jS x.jsize
  have e : (rpF PS x.npc x.nhor (svA x) x.jK x.jO x.jF x.jS x.jsize).2.2.1 = hdL x := i3
  rw [e] at h
  have e2 : (hdL x).length = x.hsize := lsF_l _ _
  have e3 : (svA x).2.2.1.length = 0 := rfl
  omega
/-- each point is packed or a head -/
theorem pt_all {m : MS} {x : VS} {PS : Nat → PT} {dn : Nat → Nat} (h : ptR m x PS dn) (h2 : ∀ q, q < m.points → ¬ m.places q = -2) : m.points = cnt m.points m.pkd + x.hsize := by
  have e : cnt m.points (fun _ => true) = cnt m.points m.pkd + cnt m.points m.hdd := cnt_add (fun q hq => by
    have e1 : (-1 : Int32) < 0 := by decide
    rcases h.2.2.1.1 q hq with e | e | ⟨k, hk, e⟩
    · exact absurd e (h2 q hq)
    · refine ⟨⟨fun _ => Or.inr (decide_eq_true e), fun _ => rfl⟩, fun z => ?_⟩
      have z1 : (!decide (m.places q < 0)) = true := z.1
      rw [e, decide_eq_true e1] at z1
      cases z1
    · have h3 := h.2.2.1.2.2.1 k hk
      have h4 := h.2.2.1.2.2.2
      have nn : ¬ nI (m.parcels k) < 0 := nI_nn (by omega)
      refine ⟨⟨fun _ => Or.inl ?_, fun _ => rfl⟩, fun z => ?_⟩
      · show (!decide (m.places q < 0)) = true
        rw [e, decide_eq_false nn]
        rfl
      · have z2 : m.places q = -1 := of_decide_eq_true z.2
        rw [e] at z2
        exact nn (by rw [z2]; exact e1))
  have e2 : cnt m.points (fun _ => true) = m.points := cnt_1 (fun _ _ => rfl)
  have e3 : x.hsize = cnt m.points m.hdd := h.1.1.1
  omega
theorem sum_td {c : Nat → Bool} {PS : Nat → PT} : ∀ n, sumN (cnt n c) (blN (tdT c PS n)) ≤ sumN n (blN PS)
  | 0 => Nat.le_refl _
  | n + 1 => by
    have h := sum_td (c := c) (PS := PS) n
    have e0 : sumN (n + 1) (blN PS) = sumN n (blN PS) + (PS n).bl := rfl
    cases e : c n with
    | true =>
      rw [cnt_t e, tdT_t e rfl]
      have e1 : sumN (cnt n c) (blN (va_up (tdT c PS n) (cnt n c) (PS n))) = sumN (cnt n c) (blN (tdT c PS n)) := sumN_ext (fun k hk => by
        show (va_up (tdT c PS n) (cnt n c) (PS n) k).bl = (tdT c PS n k).bl
        rw [va_up_ne _ _ (by omega)])
      have e2 : sumN (cnt n c + 1) (blN (va_up (tdT c PS n) (cnt n c) (PS n))) = sumN (cnt n c) (blN (va_up (tdT c PS n) (cnt n c) (PS n))) + (va_up (tdT c PS n) (cnt n c) (PS n) (cnt n c)).bl := rfl
      rw [e2, e1, va_up_self, e0]
      omega
    | false =>
      rw [cnt_f e, tdT_f e, e0]
      omega
theorem psOk_td {dA : Nat → ClassId} {nP : Nat → Option Nat} {n : Nat} {pl : va_W} {PS : Nat → PT} {c : Nat → Bool} (h : psOk dA nP n pl PS) : psOk dA (tdT c nP n) (cnt n c) pl (tdT c PS n) := by
  intro k hk
  obtain ⟨j, hj, ec, ek⟩ := cnt_at hk
  rw [← ek, tdT_get hj ec, tdT_get hj ec]
  exact h j hj
/-- what a retain leaves: before the points are tidied -/
def rtYq (M m : MS) : Prop := m.points = M.points ∧ m.pointSeries = M.pointSeries ∧ m.deletes = M.deletes ∧ m.parcelNumber = M.parcelNumber ∧ cnt m.points m.pkd ≤ cnt M.points M.pkd
theorem rtYq_m2 {M m : MS} (h : rtYq M m) (c : Nat → Bool) {m' : MS} (e : m'.points = m.points ∧ m'.pointSeries = m.pointSeries ∧ m'.deletes = m.deletes ∧ m'.parcelNumber = m.parcelNumber) (ep : m'.places = mapT m.points c m2F m.places) : rtYq M m' := by
  obtain ⟨h1, h2, h3, h4, h5⟩ := h
  obtain ⟨e1, e2, e3, e4⟩ := e
  refine ⟨e1.trans h1, e2.trans h2, e3.trans h3, e4.trans h4, Nat.le_trans ?_ h5⟩
  rw [e1]
  refine cnt_le2 (fun q hq hp => ?_)
  have hp : (!decide (m'.places q < 0)) = true := hp
  show (!decide (m.places q < 0)) = true
  rw [ep, mapT_v hq] at hp
  by_cases d : c q = true
  · rw [if_pos d] at hp
    cases hp
  · rw [if_neg d] at hp
    exact hp
theorem rtYq_K {M m : MS} (h : rtYq M m) (t : Int64) (i : Nat) : rtYq M (m.rtK t i) := by
  unfold MS.rtK
  cases allB m.points (m.rtA t i) with
  | true => exact rtYq_m2 h (m.rtP i) ⟨rfl, rfl, rfl, rfl⟩ rfl
  | false => exact h
theorem rtYq_J {M m : MS} (h : rtYq M m) (t : Int64) (n : Nat) : ∀ i, rtYq M (m.rtJ t n i)
  | 0 => h
  | i + 1 => rtYq_K (rtYq_J h t n i) t (n - 1 - i)
theorem rt_F (M : MS) (t : Int64) (hs : ∀ q, q < M.points → M.pointSeries q < 256) : (M.rtS t).points ≤ M.points ∧ (∀ q, q < (M.rtS t).points → ¬ (M.rtS t).places q = -2) ∧ (∀ q, q < (M.rtS t).points → (M.rtS t).pointSeries q < 256) ∧ (M.rtS t).deletes = M.deletes ∧ (M.rtS t).parcelNumber = M.parcelNumber ∧ cnt (M.rtS t).points (M.rtS t).pkd ≤ cnt M.points M.pkd := by
  have h0 : rtYq M (M.rt1 t) := rtYq_m2 (M := M) (m := M) ⟨rfl, rfl, rfl, rfl, Nat.le_refl _⟩ (M.rtH t) ⟨rfl, rfl, rfl, rfl⟩ rfl
  have h1 := rtYq_J h0 t M.parcelCount M.parcelCount
  show (((M.rt1 t).rtJ t M.parcelCount M.parcelCount).tidS.shoS).points ≤ M.points ∧ (∀ q, q < (((M.rt1 t).rtJ t M.parcelCount M.parcelCount).tidS.shoS).points → ¬ (((M.rt1 t).rtJ t M.parcelCount M.parcelCount).tidS.shoS).places q = -2) ∧ (∀ q, q < (((M.rt1 t).rtJ t M.parcelCount M.parcelCount).tidS.shoS).points → (((M.rt1 t).rtJ t M.parcelCount M.parcelCount).tidS.shoS).pointSeries q < 256) ∧ (((M.rt1 t).rtJ t M.parcelCount M.parcelCount).tidS.shoS).deletes = M.deletes ∧ (((M.rt1 t).rtJ t M.parcelCount M.parcelCount).tidS.shoS).parcelNumber = M.parcelNumber ∧ cnt (((M.rt1 t).rtJ t M.parcelCount M.parcelCount).tidS.shoS).points (((M.rt1 t).rtJ t M.parcelCount M.parcelCount).tidS.shoS).pkd ≤ cnt M.points M.pkd
  obtain ⟨m0, em⟩ : ∃ m0, m0 = (M.rt1 t).rtJ t M.parcelCount M.parcelCount := ⟨_, rfl⟩
  rw [← em] at h1 ⊢
  obtain ⟨e1, e2, e3, e4, e5⟩ := h1
  have f1 : m0.tidS.shoS.points = cnt m0.points m0.stay := rfl
  have f2 : m0.tidS.shoS.places = tdT m0.stay m0.places m0.points := rfl
  have f3 : m0.tidS.shoS.pointSeries = tdT m0.stay m0.pointSeries m0.points := rfl
  refine ⟨by rw [f1, ← e1]; exact cnt_le _ _, fun q hq => ?_, fun q hq => ?_, e3, e4, Nat.le_trans (Nat.le_of_eq ?_) e5⟩
  · rw [f1] at hq
    obtain ⟨j, hj, c, ej⟩ := cnt_at hq
    rw [f2, ← ej, tdT_get hj c]
    have c : (!decide (m0.places j = -2)) = true := c
    intro z
    rw [decide_eq_true z] at c
    cases c
  · rw [f1] at hq
    obtain ⟨j, hj, c, ej⟩ := cnt_at hq
    rw [f3, ← ej, tdT_get hj c, e2]
    exact hs j (by omega)
  · rw [f1]
    refine td_cnt (st := m0.stay) (c := m0.pkd) (fun q hq hp => ?_) (fun q hq hst => ?_) m0.points (Nat.le_refl _)
    · have hp : (!decide (m0.places q < 0)) = true := hp
      show (!decide (m0.places q = -2)) = true
      by_cases d : m0.places q = -2
      · rw [d] at hp
        cases hp
      · rw [decide_eq_false d]
        rfl
    · show (!decide (m0.tidS.shoS.places (cnt q m0.stay) < 0)) = !decide (m0.places q < 0)
      rw [f2, tdT_get hq hst]
section RT
variable {dA : Nat → ClassId} {ad : Nat → Nat} {e0 : Nat} {x : VS} {M : MS} {SS : Nat → List LB} {gq : LI} {rq : va_W} {la : Nat → Nat} {gk : LI} {AT : Nat → Nat → Nat} {T : Nat → TB}
theorem rtJ_keep (t : Int64) (n : Nat) (h : rlT M x ∧ rlS dA SS M x ∧ rlA dA ad e0 M x gq rq la gk AT T) : ∀ i, rlT (M.rtJ t n i) x ∧ rlS dA SS (M.rtJ t n i) x ∧ rlA dA ad e0 (M.rtJ t n i) x gq rq la gk AT T
  | 0 => h
  | i + 1 => by
    have ih := rtJ_keep t n h i
    show rlT ((M.rtJ t n i).rtK t (n - 1 - i)) x ∧ rlS dA SS ((M.rtJ t n i).rtK t (n - 1 - i)) x ∧ rlA dA ad e0 ((M.rtJ t n i).rtK t (n - 1 - i)) x gq rq la gk AT T
    obtain ⟨u, eu⟩ : ∃ u, u = M.rtJ t n i := ⟨_, rfl⟩
    rw [← eu] at ih ⊢
    unfold MS.rtK
    cases allB u.points (u.rtA t (n - 1 - i)) with
    | true => exact ih
    | false => exact ih
theorem rts_keep (t : Int64) (h : rlT M x ∧ rlS dA SS M x ∧ rlA dA ad e0 M x gq rq la gk AT T) : rlT (M.rtS t) x ∧ rlS dA SS (M.rtS t) x ∧ rlA dA ad e0 (M.rtS t) x gq rq la gk AT T := by
  have h1 : rlT (M.rt1 t) x ∧ rlS dA SS (M.rt1 t) x ∧ rlA dA ad e0 (M.rt1 t) x gq rq la gk AT T := h
  have h2 := rtJ_keep t M.parcelCount h1 M.parcelCount
  exact h2
end RT
