/-! Blocks: of the catalog, of a parcel made. -/
theorem uni_u (S : List LB) : uniN (joinT S).length = uS S := by
  unfold uniN uS
  omega
theorem cat_s {SS : Nat → List LB} {tl : Nat → Nat} {n : Nat} (h : ∀ s, s < n → tl s = (joinT (SS s)).length ∧ (joinT (SS s)).length ≤ 303) : ∀ {k : Nat}, 0 < k → k ≤ n → ctG2 SS k = catS tl 1 k
  | 0, h0, _ => absurd h0 (Nat.lt_irrefl 0)
  | k + 1, _, hk => by
    obtain ⟨e, l⟩ := h k (by omega)
    have u : uniN (tl k) = uS (SS k) := by rw [e]; exact uni_u (SS k)
    have ub : 1 ≤ uS (SS k) ∧ uS (SS k) ≤ 126 := by unfold uS; omega
    show (if uS (SS k) ≤ (ctG2 SS k).2 then ((ctG2 SS k).1, (ctG2 SS k).2 - uS (SS k)) else ((ctG2 SS k).1 + 1, 126 - uS (SS k))) = if (catS tl 1 k).2 < uniN (tl k) then ((catS tl 1 k).1 + 1, 126 - uniN (tl k)) else ((catS tl 1 k).1, (catS tl 1 k).2 - uniN (tl k))
    rw [u]
    rcases Nat.eq_zero_or_pos k with z | z
    · subst z
      show (if uS (SS 0) ≤ 0 then (0, 0 - uS (SS 0)) else (0 + 1, 126 - uS (SS 0))) = if 126 < uS (SS 0) then (1 + 1, 126 - uS (SS 0)) else (1, 126 - uS (SS 0))
      rw [if_neg (by omega), if_neg (by omega)]
    · rw [cat_s h z (by omega)]
      by_cases g : uS (SS k) ≤ (catS tl 1 k).2
      · rw [if_pos g, if_neg (by omega)]
      · rw [if_neg g, if_pos (by omega)]
theorem cat_eq {m : MS} {SS : Nat → List LB} (h : txR m.texts m.textLengths m.seriesCount SS) : m.catN = (ctG2 SS m.seriesCount).1 := by
  unfold MS.catN
  rcases Nat.eq_zero_or_pos m.seriesCount with z | z
  · rw [z]
    rfl
  · rw [if_pos z, cat_s (fun s hs => ⟨(h s hs).1, (h s hs).2.1⟩) z (Nat.le_refl _)]
theorem bl_e (n : Nat) (O : Nat → Nat) (T V : Nat → Int64) : (mkP n O T V).bl = ((mkP n O T V).bi + 32255) / 32256 := by
  show (64 * cnt n (chB O) + (bcG O T V n).1 + 32256 - 1) / 32256 = (64 * cnt n (chB O) + (bcG O T V n).1 + 32255) / 32256
  congr 1
theorem bl_0 (O : Nat → Nat) (T V : Nat → Int64) : (mkP 0 O T V).bl = 0 := by
  show (64 * 0 + 0 + 32256 - 1) / 32256 = 0
  decide
theorem bl_p {n : Nat} (O : Nat → Nat) (T V : Nat → Int64) (h : 0 < n) : 0 < (mkP n O T V).bl := by
  have c : 0 < cnt n (chB O) := cnt_pos.mpr ⟨0, h, rfl⟩
  show 0 < (64 * cnt n (chB O) + (bcG O T V n).1 + 32256 - 1) / 32256
  omega
section BL
variable {m : MS} {x : VS} {PS : Nat → PT} {dn : Nat → Nat}
theorem many_eq {O : Nat → Nat} {T V : Nat → Int64} (h : ptR m x PS dn) (hz : 0 < x.hsize) (l1 : laid x.hO x.hsize x.hsize x.hO O) (l2 : laid x.hO x.hsize x.hsize x.hT T) (l3 : laid x.hO x.hsize x.hsize x.hV V) : m.manyN = (mkP x.hsize O T V).bl := by
  unfold MS.manyN
  have a := arr_lst h.1.1 l1 l2 l3
  have c : ∀ q, q < m.points → (m.hdd q && m.seen q) = m.hdd q := fun q hq => by
    cases e : m.hdd q with
    | false => rfl
    | true => rw [hd_seen h hq e]; rfl
  have a2 := arr_congr a (c' := fun q => m.hdd q && m.seen q) (fun q _ => ⟨rfl, rfl, rfl⟩) c
  rw [heads_eq h, if_pos hz, bl_e, bt_all (o1 := -1) (o2 := -1) (sn := true) a2 (fun w q => by
    unfold MS.sel arS MS.hdd
    rw [Bool.or_self, Bool.not_true, Bool.false_or]
    exact Bool.and_comm _ _) (W := m.seriesCount) (fun q hq e => by
    rw [Bool.and_eq_true] at e
    exact (h.2.2.2.2.1.2.1 q hq (fun z => by rw [show m.places q = -1 from of_decide_eq_true e.1] at z; exact absurd z (by decide))).1)]
theorem many_0 (h : ptR m x PS dn) (hz : x.hsize = 0) : m.manyN = 0 := by
  unfold MS.manyN
  rw [heads_eq h, hz, if_neg (Nat.lt_irrefl 0)]
theorem cmN_eq {d : Nat} {go O : Nat → Nat} {gt gv T V : Nat → Int64} (h : ptR m x PS dn) (hd : d + 2 ≤ x.npc) (ha : gat2 (x.sePc (PS d)) (x.sePc (PS (d + 1))) (PS d) (PS (d + 1)) go gt gv) (l1 : laid go (cnt (PS d).n (x.sePc (PS d)) + cnt (PS (d + 1)).n (x.sePc (PS (d + 1)))) (cnt (PS d).n (x.sePc (PS d)) + cnt (PS (d + 1)).n (x.sePc (PS (d + 1)))) go O) (l2 : laid go (cnt (PS d).n (x.sePc (PS d)) + cnt (PS (d + 1)).n (x.sePc (PS (d + 1)))) (cnt (PS d).n (x.sePc (PS d)) + cnt (PS (d + 1)).n (x.sePc (PS (d + 1)))) gt T) (l3 : laid go (cnt (PS d).n (x.sePc (PS d)) + cnt (PS (d + 1)).n (x.sePc (PS (d + 1)))) (cnt (PS d).n (x.sePc (PS d)) + cnt (PS (d + 1)).n (x.sePc (PS (d + 1)))) gv V) : m.cmN d = (mkP (cnt (PS d).n (x.sePc (PS d)) + cnt (PS (d + 1)).n (x.sePc (PS (d + 1)))) O T V).bl := by
  have a := arr_cp (sn := m.seen) (W := m.seriesCount) (h.1.2.2.2 d (by omega)).1 (h.1.2.2.2 (d + 1) (by omega)).1 (fun q hq e => in_se h (by omega) hq e) (fun q hq e => in_se h (by omega) hq e) (fun q hq e => see_eq h (by omega) hq e) (fun q hq e => see_eq h (by omega) hq e) (fun p r hp hr e1 e2 => h.2.2.2.1.1 d (d + 1) p r (by omega) (by omega) hp hr e1 e2) ha l1 l2 l3
  unfold MS.cmN
  rw [bl_e, bt_all (o1 := nI (m.parcels d)) (o2 := nI (m.parcels (d + 1))) (sn := true) a (fun w q => by
    show (decide (m.pointSeries q = w) && ((decide (m.places q = nI (m.parcels d)) || decide (m.places q = nI (m.parcels (d + 1)))) && (!true || m.seen q))) = (((m.inpc d q || m.inpc (d + 1) q) && m.seen q) && decide (m.pointSeries q = w))
    rw [Bool.not_true, Bool.false_or]
    exact Bool.and_comm _ _) (W := m.seriesCount) (fun q hq e => by
    rw [Bool.and_eq_true, Bool.or_eq_true] at e
    rcases e.1 with z | z
    · exact in_se h (by omega) hq z
    · exact in_se h (by omega) hq z)]
/-- nothing seen: no blocks -/
theorem cmN_0 {d : Nat} (h : ptR m x PS dn) (hd : d + 2 ≤ x.npc) (hz : cnt (PS d).n (x.sePc (PS d)) + cnt (PS (d + 1)).n (x.sePc (PS (d + 1))) = 0) : m.cmN d = 0 := by
  have e := cmN_eq (go := fun _ => 0) (gt := fun _ => 0) (gv := fun _ => 0) (O := fun _ => 0) (T := fun _ => 0) (V := fun _ => 0) h hd ⟨fun j hj e => absurd e (by rw [cnt_z (n := (PS d).n) (f := x.sePc (PS d)) (by omega) hj]; decide), fun j hj e => absurd e (by rw [cnt_z (n := (PS (d + 1)).n) (f := x.sePc (PS (d + 1))) (by omega) hj]; decide)⟩ (by rw [hz]; exact fun j hj => absurd hj (Nat.not_lt_zero j)) (by rw [hz]; exact fun j hj => absurd hj (Nat.not_lt_zero j)) (by rw [hz]; exact fun j hj => absurd hj (Nat.not_lt_zero j))
  rw [e, hz, bl_0]
end BL
