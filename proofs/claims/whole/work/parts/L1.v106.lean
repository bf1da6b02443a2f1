/-! Points of both sides. -/
def MS.hdd (x : MS) (q : Nat) : Bool := decide (x.places q = -1)
def MS.inpc (x : MS) (k q : Nat) : Bool := decide (x.places q = nI (x.parcels k))
/-- the points: head, parcels, scars -/
def ptR (m : MS) (x : VS) (PS : Nat → PT) (dn : Nat → Nat) : Prop :=
  (lst m.pointSeries m.pointTimes m.pointValues m.hdd m.points x.hsize x.hO x.hT x.hV ∧ m.parcelCount = x.npc ∧ m.horizon = x.nhor ∧ ∀ k, k < x.npc → arr m.pointSeries m.pointTimes m.pointValues (m.inpc k) m.points (PS k).n (PS k).o (PS k).t (PS k).v ∧ PS k = mkP (PS k).n (PS k).o (PS k).t (PS k).v ∧ m.parcelBlocks k = (PS k).bl) ∧
  (hdR m.hidden m.pkd m.pointSeries m.pointTimes m.points x.nsO x.nsF x.nsT x.nsc dn ∧ dnR x.nsc m.deletes dn ∧ scE1 m.pkd m.pointSeries m.pointTimes m.points x.nsO x.nsF x.nsT x.nsc ∧ m.deletes ≤ 2 ^ 29) ∧
  ((∀ q, q < m.points → m.places q = -2 ∨ m.places q = -1 ∨ ∃ k, k < x.npc ∧ m.places q = nI (m.parcels k)) ∧ (∀ i j, i < x.npc → j < x.npc → m.parcels i = m.parcels j → i = j) ∧ (∀ k, k < x.npc → m.parcels k < m.parcelNumber) ∧ m.parcelNumber ≤ 2 ^ 29) ∧
  ((∀ i j p r, i < j → j < x.npc → p < m.points → r < m.points → m.inpc i p = true → m.inpc j r = true → p < r) ∧ ∀ k p r, k < x.npc → p < m.points → r < m.points → m.inpc k p = true → m.hdd r = true → p < r) ∧
  ((∀ q, q < m.points → m.hdd q = true → ¬ m.pointTimes q < m.horizon ∧ m.hidden q = -1) ∧ (∀ q, q < m.points → ¬ m.places q = -2 → m.pointSeries q < m.seriesCount ∧ ¬ m.lasts (m.pointSeries q) < m.pointTimes q) ∧ ∀ p r, p < r → r < m.points → ¬ m.places p = -2 → ¬ m.places r = -2 → m.pointSeries p = m.pointSeries r → m.pointTimes p < m.pointTimes r) ∧
  ∀ q, q < m.points → ¬ m.pointTimes q < 0 ∧ ¬ 1099511627775 < m.pointTimes q
theorem arr_all {se : Nat → Nat} {ti va : Nat → Int64} {c : Nat → Bool} {N n : Nat} {o : Nat → Nat} {t v : Nat → Int64} {W : Nat} (h : arr se ti va c N n o t v) (hW : ∀ q, q < N → c q = true → se q < W) (F : Nat → Bool) : cnt n F = cnt N (fun q => c q && F (arP se c N q)) := by
  rw [h.1, ← arL_all hW, arr_cnt]
  refine cnt_ext (fun q hq => ?_)
  cases e : c q with
  | false => unfold arL; rw [e]; rfl
  | true => unfold arL; rw [e, decide_eq_true (hW q hq e)]; rfl
theorem lst_all {se : Nat → Nat} {ti va : Nat → Int64} {c : Nat → Bool} {N n : Nat} {o : Nat → Nat} {t v : Nat → Int64} (h : lst se ti va c N n o t v) (F : Nat → Bool) : cnt n F = cnt N (fun q => c q && F (cnt q c)) := by
  rw [h.1, sub_cnt]
section PR
variable {m : MS} {x : VS} {PS : Nat → PT} {dn : Nat → Nat}
theorem inP_pk (h : ptR m x PS dn) {k q : Nat} (hk : k < x.npc) (hq : m.inpc k q = true) : m.pkd q = true ∧ ¬ m.places q = -2 ∧ m.hdd q = false := by
  have hp := h.2.2.1.2.2.1 k hk
  have hb := h.2.2.1.2.2.2
  have e : m.places q = nI (m.parcels k) := of_decide_eq_true hq
  refine ⟨pkd_t.mpr (by rw [e]; exact nI_pos (by omega)), fun z => ?_, decide_eq_false (fun z => ?_)⟩
  · rw [e] at z
    exact nI_pos (n := m.parcels k) (by omega) (by rw [z]; decide)
  · rw [e] at z
    exact nI_nm (by omega) z
theorem inP_1 (h : ptR m x PS dn) {i j q : Nat} (hi : i < x.npc) (hj : j < x.npc) (h1 : m.inpc i q = true) (h2 : m.inpc j q = true) : i = j := by
  have a := h.2.2.1.2.2.1 i hi
  have b := h.2.2.1.2.2.1 j hj
  have hb := h.2.2.1.2.2.2
  have e : nI (m.parcels i) = nI (m.parcels j) := (of_decide_eq_true h1).symm.trans (of_decide_eq_true h2)
  exact h.2.2.1.2.1 i j hi hj (nI_inj (by omega) (by omega) e)
/-- a point in parcel k, seen by the class at its place -/
theorem see_eq (h : ptR m x PS dn) {k q : Nat} (hk : k < x.npc) (hq : q < m.points) (hc : m.inpc k q = true) : x.sePc (PS k) (arP m.pointSeries (m.inpc k) m.points q) = m.seen q := by
  obtain ⟨a1, a2, a3⟩ := (h.1.2.2.2 k hk).1.2 q hq hc
  obtain ⟨p1, p2, -⟩ := inP_pk h hk hc
  unfold VS.sePc MS.seen
  rw [a1, a2, ← h.1.2.2.1]
  have e1 : (m.places q ≤ -2) ↔ False := ⟨fun z => pkd_t.mp p1 (Int32.lt_of_le_of_lt z (by decide)), False.elim⟩
  have hd := h.2.1
  have e2 : 0 ≤ m.hidden q ↔ x.sc1 (m.pointSeries q) (m.pointTimes q) ≠ none := by
    rw [hd.1 q hq p1]
    exact hdV_n hd.2.1 (by have := hd.2.2.2; omega) (fun j e => cv1_lt e)
  rw [decide_eq_false (fun z => e1.mp z)]
  by_cases g : x.sc1 (m.pointSeries q) (m.pointTimes q) = none
  · rw [decide_eq_true g, decide_eq_false (fun z => e2.mp z g), Bool.and_true]
    rfl
  · rw [decide_eq_false g, decide_eq_true (e2.mpr g), Bool.and_false]
    rfl
theorem hd_seen (h : ptR m x PS dn) {q : Nat} (hq : q < m.points) (hc : m.hdd q = true) : m.seen q = true := by
  obtain ⟨a1, a2⟩ := h.2.2.2.2.1.1 q hq hc
  have e : m.places q = -1 := of_decide_eq_true hc
  unfold MS.seen
  rw [e, a2, decide_eq_false (show ¬ (-1 : Int32) ≤ -2 by decide), decide_eq_false (show ¬ (0 : Int32) ≤ -1 by decide), decide_eq_false a1]
  rfl
theorem in_se (h : ptR m x PS dn) {k q : Nat} (hk : k < x.npc) (hq : q < m.points) (hc : m.inpc k q = true) : m.pointSeries q < m.seriesCount := (h.2.2.2.2.1.2.1 q hq (inP_pk h hk hc).2.1).1
/-- all packed points, parcel by parcel -/
theorem pk_sum (h : ptR m x PS dn) (F : Nat → Bool) : cnt m.points (fun q => m.pkd q && F q) = sumN x.npc (fun k => cnt m.points (fun q => m.inpc k q && F q)) := by
  have e1 : ∀ n, n ≤ x.npc → cnt m.points (fun q => anyB n (fun k => m.inpc k q) && F q) = sumN n (fun k => cnt m.points (fun q => m.inpc k q && F q)) := fun n => by
    induction n with
    | zero => exact fun _ => cnt_0 (fun _ _ => rfl)
    | succ n ih =>
      intro hn
      show _ = sumN n _ + cnt m.points (fun q => m.inpc n q && F q)
      rw [← ih (by omega)]
      refine cnt_add (fun q hq => ?_)
      rw [Bool.and_eq_true, Bool.and_eq_true, Bool.and_eq_true, anyB_s, Bool.or_eq_true]
      refine ⟨⟨fun z => ?_, fun z => ?_⟩, fun z => ?_⟩
      · rcases z.1 with y | y
        · exact Or.inl ⟨y, z.2⟩
        · exact Or.inr ⟨y, z.2⟩
      · rcases z with y | y
        · exact ⟨Or.inl y.1, y.2⟩
        · exact ⟨Or.inr y.1, y.2⟩
      · obtain ⟨j, hj, e⟩ := anyB_iff.mp z.1.1
        have := inP_1 h (by omega) (by omega) e z.2.1
        omega
  rw [← e1 x.npc (Nat.le_refl _)]
  refine cnt_ext (fun q hq => ?_)
  congr 1
  apply Bool.eq_iff_iff.mpr
  rw [anyB_iff]
  constructor
  · intro hp
    rcases h.2.2.1.1 q hq with e | e | ⟨k, hk, e⟩
    · rw [pkd_t, e] at hp; exact absurd (by decide) hp
    · rw [pkd_t, e] at hp; exact absurd (by decide) hp
    · exact ⟨k, hk, decide_eq_true e⟩
  · rintro ⟨k, hk, e⟩
    exact (inP_pk h hk e).1
theorem sumN_ext {f g : Nat → Nat} : ∀ {n : Nat}, (∀ k, k < n → f k = g k) → sumN n f = sumN n g
  | 0, _ => rfl
  | n + 1, h => by
    show sumN n f + f n = sumN n g + g n
    rw [sumN_ext (fun k hk => h k (by omega)), h n (by omega)]
/-- seen points counted: packed and in the head -/
theorem seen_sum (h : ptR m x PS dn) (F : Nat → Bool) : cnt m.points (fun q => m.seen q && F q) = cnt m.points (fun q => m.pkd q && (m.seen q && F q)) + cnt m.points (fun q => m.hdd q && F q) := cnt_add (fun q hq => by
  rw [Bool.and_eq_true, Bool.and_eq_true, Bool.and_eq_true, Bool.and_eq_true]
  refine ⟨⟨fun z => ?_, fun z => ?_⟩, fun z => ?_⟩
  · rcases h.2.2.1.1 q hq with e | e | ⟨k, hk, e⟩
    · have := z.1
      unfold MS.seen at this
      rw [e, decide_eq_true (show (-2 : Int32) ≤ -2 by decide)] at this
      cases this
    · exact Or.inr ⟨decide_eq_true e, z.2⟩
    · exact Or.inl ⟨(inP_pk h hk (decide_eq_true e)).1, z⟩
  · rcases z with z | z
    · exact z.2
    · exact ⟨hd_seen h hq z.1, z.2⟩
  · have a := pkd_t.mp z.1.1
    have b : m.places q = -1 := of_decide_eq_true z.2.1
    rw [b] at a
    exact a (by decide))
/-- in parcel k -/
theorem pc_cnt (h : ptR m x PS dn) {k : Nat} (hk : k < x.npc) {F G : Nat → Bool} (hF : ∀ q, q < m.points → m.inpc k q = true → F (arP m.pointSeries (m.inpc k) m.points q) = G q) : cnt (PS k).n F = cnt m.points (fun q => m.inpc k q && G q) := by
  rw [arr_all (h.1.2.2.2 k hk).1 (fun q hq hc => in_se h hk hq hc) F]
  refine cnt_ext (fun q hq => ?_)
  cases e : m.inpc k q with
  | false => rfl
  | true => rw [hF q hq e]
theorem hd_cnt (h : ptR m x PS dn) {F G : Nat → Bool} (hF : ∀ q, q < m.points → m.hdd q = true → F (cnt q m.hdd) = G q) : cnt x.hsize F = cnt m.points (fun q => m.hdd q && G q) := by
  rw [lst_all h.1.1 F]
  refine cnt_ext (fun q hq => ?_)
  cases e : m.hdd q with
  | false => rfl
  | true => rw [hF q hq e]
end PR
