/-! Series grouped by their values: the two ways. -/
section GQ
variable (tb nc nm : Nat) (NL : Nat → List Int32) (KD : Nat → Int32) (MN MT : Nat → List Int32) (SS : Nat → List LB)
def grQ (i : Nat) (G : grT) (g : PKS) : Prop := (g.1.rc = G.1 ∧ g.1.nc = nc ∧ G.1 ≤ i) ∧ (∀ q, q < G.1 → G.2.1 (256 * tb + q) < i ∧ g.2.1 q = SS (G.2.1 (256 * tb + q))) ∧ srtR NL nc G.1 g.2.1 ∧ (∀ s, s < i → (pkT nm KD MN MT SS s = false → G.2.2.1 s = -1 ∧ g.2.2.1 s = -1) ∧ (pkT nm KD MN MT SS s = true → ∃ r, r < G.1 ∧ G.2.2.1 s = nI r ∧ eqK NL nc (g.2.1 r) (SS s) ∧ g.2.2.1 s = 0)) ∧ ∀ s, s < i → G.2.2.2.1 s = false ∧ g.2.2.2 s = false
end GQ
section GR
variable {x : MS} {tb p nc nm : Nat} {NL : Nat → List Int32} {KD : Nat → Int32} {MN MT : Nat → List Int32} {SS : Nat → List LB} {kn : Nat → Option Nat} {g0 : PKS}
theorem gr_Q (hn : nmRe x tb nc NL) (hx : txR x.texts x.textLengths x.seriesCount SS) (hg : ∀ q, q < x.seriesCount → serG (SS q)) (h256 : x.seriesCount ≤ 256) (hm : ∀ s, s < x.seriesCount → ∀ v, ((MS.s_valueLength x v).mt s p).1 = pkT nm KD MN MT SS s) (h0 : g0.1.rc = 0 ∧ g0.1.nc = nc) : ∀ i, i ≤ x.seriesCount → grQ tb nc nm NL KD MN MT SS i (x.grG tb p i) (pkG NL nm KD MN MT SS kn g0 i)
  | 0, _ => ⟨⟨h0.1, h0.2, Nat.le_refl 0⟩, fun q hq => absurd hq (Nat.not_lt_zero q), fun a b _ hb => absurd hb (Nat.not_lt_zero b), fun s hs => absurd hs (Nat.not_lt_zero s), fun s hs => absurd hs (Nat.not_lt_zero s)⟩
  | i + 1, hi => by
    have ih := gr_Q hn hx hg h256 hm h0 i (by omega)
    obtain ⟨⟨n, rs, ro, hb, v⟩, eG⟩ : ∃ G : grT, x.grG tb p i = G := ⟨_, rfl⟩
    have eP : pkG NL nm KD MN MT SS kn g0 (i + 1) = if pkT nm KD MN MT SS i = true then (adT NL (pkG NL nm KD MN MT SS kn g0 i).1 (pkG NL nm KD MN MT SS kn g0 i).2.1 (SS i) ((kn i).getD 0), adRS NL (pkG NL nm KD MN MT SS kn g0 i).1 (pkG NL nm KD MN MT SS kn g0 i).2.1 (SS i), va_up (va_up (pkG NL nm KD MN MT SS kn g0 i).2.2.1 i (-1)) i 0, va_up (pkG NL nm KD MN MT SS kn g0 i).2.2.2 i false) else ((pkG NL nm KD MN MT SS kn g0 i).1, (pkG NL nm KD MN MT SS kn g0 i).2.1, va_up (pkG NL nm KD MN MT SS kn g0 i).2.2.1 i (-1), va_up (pkG NL nm KD MN MT SS kn g0 i).2.2.2 i false) := rfl
    obtain ⟨⟨tt, RS, ar, ab⟩, eg⟩ : ∃ g : PKS, pkG NL nm KD MN MT SS kn g0 i = g := ⟨_, rfl⟩
    rw [eg] at eP
    rw [eG, eg] at ih
    obtain ⟨⟨r1, r2, r3⟩, r4, r5, r6, r7⟩ := ih
    have r1 : tt.rc = n := r1
    have r2 : tt.nc = nc := r2
    have r3 : n ≤ i := r3
    have r4 : ∀ q, q < n → rs (256 * tb + q) < i ∧ RS q = SS (rs (256 * tb + q)) := r4
    have r5 : srtR NL nc n RS := r5
    have r6 : ∀ s, s < i → (pkT nm KD MN MT SS s = false → ro s = -1 ∧ ar s = -1) ∧ (pkT nm KD MN MT SS s = true → ∃ r, r < n ∧ ro s = nI r ∧ eqK NL nc (RS r) (SS s) ∧ ar s = 0) := r6
    have r7 : ∀ s, s < i → hb s = false ∧ ab s = false := r7
    have hb7 : ∀ s, s < i + 1 → va_up hb i false s = false ∧ va_up ab i false s = false := fun s hs => by
      by_cases c : s = i
      · rw [c, va_up_self, va_up_self]; exact ⟨rfl, rfl⟩
      · rw [va_up_ne _ _ c, va_up_ne _ _ c]; exact r7 s (by omega)
    have hmi := hm i (by omega) v
    have gRS : ∀ q, q < n → serG (RS q) := fun q hq => by
      rw [(r4 q hq).2]
      exact hg _ (by have := (r4 q hq).1; omega)
    have gi : serG (SS i) := hg i (by omega)
    cases c : pkT nm KD MN MT SS i with
    | false =>
      rw [c] at hmi
      rw [gr_no eG hmi, eP, if_neg (by rw [c]; decide)]
      refine ⟨⟨r1, r2, by show n ≤ i + 1; omega⟩, fun q hq => ⟨by have := (r4 q hq).1; show rs (256 * tb + q) < i + 1; omega, (r4 q hq).2⟩, r5, fun s hs => ?_, hb7⟩
      show (_ → va_up ro i (-1) s = -1 ∧ va_up ar i (-1) s = -1) ∧ (_ → ∃ r, r < n ∧ va_up ro i (-1) s = nI r ∧ eqK NL nc (RS r) (SS s) ∧ va_up ar i (-1) s = 0)
      by_cases e : s = i
      · subst e
        rw [va_up_self, va_up_self, c]
        exact ⟨fun _ => ⟨rfl, rfl⟩, fun z => Bool.noConfusion z⟩
      · rw [va_up_ne _ _ e, va_up_ne _ _ e]
        exact r6 s (by omega)
    | true =>
      rw [c] at hmi
      obtain ⟨v2, e2⟩ : ∃ v2, (MS.s_valueLength x v).mt i p = (true, v2) := ⟨_, Prod.ext hmi rfl⟩
      have hR : ∀ q, q < n → rs (256 * tb + q) < x.seriesCount := fun q hq => by have := (r4 q hq).1; omega
      obtain ⟨p1, p2⟩ := pl_thr r5 gRS gi (by omega)
      have efr : (x.fr tb i rs n (n + 1) 0 v2).1 = plT NL nc n RS (SS i) := fr_p hn hx hg (by omega) hR p1 (fun q hq => by rw [← (r4 q hq).2]; exact p2 q hq) (n + 1) 0 v2 (Nat.zero_le _) (by omega)
      have hnew := srt_new r5 gRS gi (show n ≤ 256 by omega)
      have hrow : ∀ (q : Nat), q < n → eqK NL nc (RS q) (SS i) → plT NL nc n RS (SS i) = q := fun q hq he => (pl_row r5 gRS gi (by omega) hq he).1
      have eA : adT NL tt RS (SS i) ((kn i).getD 0) = if (plT NL nc n RS (SS i) < n ∧ cmT NL nc (RS (plT NL nc n RS (SS i))) (SS i) = 0) then tt else tt.adR (plT NL nc n RS (SS i)) ((kn i).getD 0) := by
        unfold adT
        rw [r1, r2]
        exact if_cg ⟨fun z => z.resolve_left (by omega), Or.inr⟩ rfl rfl
      have eB : adRS NL tt RS (SS i) = if (plT NL nc n RS (SS i) < n ∧ cmT NL nc (RS (plT NL nc n RS (SS i))) (SS i) = 0) then RS else fun q => if q < plT NL nc n RS (SS i) then RS q else if q = plT NL nc n RS (SS i) then SS i else RS (q - 1) := by
        unfold adRS
        rw [r1, r2]
        exact if_cg ⟨fun z => z.resolve_left (by omega), Or.inr⟩ rfl rfl
      obtain ⟨k, ek⟩ : ∃ k, k = plT NL nc n RS (SS i) := ⟨_, rfl⟩
      rw [← ek] at p1 p2 efr hnew hrow eA eB
      obtain ⟨v3, e3⟩ : ∃ v3, x.fr tb i rs n (n + 1) 0 v2 = (k, v3) := ⟨_, Prod.ext efr rfl⟩
      have nlt : ∀ h : k < n, ¬ cmT NL nc (RS k) (SS i) < 0 := fun h z => by
        have := (p2 k h).mp ((cmT_lt (gRS k h) gi).mp z)
        omega
      have egi : (x.gi tb i rs n k v3).1 = !decide (k < n ∧ cmT NL nc (RS k) (SS i) = 0) := by
        unfold MS.gi
        by_cases d : n = k
        · rw [if_pos d, decide_eq_false (by omega)]; rfl
        · rw [if_neg d]
          have e : ((MS.s_valueLength x v3).cr tb (rs (256 * tb + k)) i).1 = cmT NL nc (SS (rs (256 * tb + k))) (SS i) := cr_eq (x := MS.s_valueLength x v3) hn hx (hR k (by omega)) (by show i < x.seriesCount; omega) (hg _ (hR k (by omega))) gi
          show (!decide (((MS.s_valueLength x v3).cr tb (rs (256 * tb + k)) i).1 ≤ 0)) = _
          rw [e, ← (r4 k (by omega)).2]
          have nl := nlt (by omega)
          by_cases z : cmT NL nc (RS k) (SS i) = 0
          · rw [z, decide_eq_true (by decide), decide_eq_true ⟨by omega, rfl⟩]
          · rw [decide_eq_false (fun g => z (Int32.le_antisymm g (Int32.not_lt.mp nl))), decide_eq_false (fun g => z g.2)]
      rw [gr_y eG e2 e3, eP, if_pos c, eA, eB]
      by_cases d : k < n ∧ cmT NL nc (RS k) (SS i) = 0
      · rw [decide_eq_true d] at egi
        rw [gr_old (show x.gi tb i rs n k v3 = (false, (x.gi tb i rs n k v3).2) from Prod.ext egi rfl), if_pos d, if_pos d]
        refine ⟨⟨r1, r2, by show n ≤ i + 1; omega⟩, fun q hq => ⟨by have := (r4 q hq).1; show rs (256 * tb + q) < i + 1; omega, (r4 q hq).2⟩, r5, fun s hs => ?_, hb7⟩
        show (_ → va_up (va_up ro i (-1)) i (nI k) s = -1 ∧ va_up (va_up ar i (-1)) i 0 s = -1) ∧ (_ → ∃ r, r < n ∧ va_up (va_up ro i (-1)) i (nI k) s = nI r ∧ eqK NL nc (RS r) (SS s) ∧ va_up (va_up ar i (-1)) i 0 s = 0)
        by_cases e : s = i
        · subst e
          rw [va_up_self, va_up_self, c]
          exact ⟨fun z => Bool.noConfusion z, fun _ => ⟨k, d.1, rfl, (cmT_eq (gRS k d.1) gi).mp d.2, rfl⟩⟩
        · rw [va_up_ne _ _ e, va_up_ne _ _ e, va_up_ne _ _ e, va_up_ne _ _ e]
          exact r6 s (by omega)
      · rw [decide_eq_false d] at egi
        rw [grN_new (show x.gi tb i rs n k v3 = (true, (x.gi tb i rs n k v3).2) from Prod.ext egi rfl), if_neg d, if_neg d]
        refine ⟨⟨by show tt.rc + 1 = n + 1; rw [r1], r2, by show n + 1 ≤ i + 1; omega⟩, fun q hq => ?_, hnew d, fun s hs => ?_, hb7⟩
        · have hq : q < n + 1 := hq
          show va_up (shR rs (256 * tb) n (n - k)) (256 * tb + k) i (256 * tb + q) < i + 1 ∧ (if q < k then RS q else if q = k then SS i else RS (q - 1)) = SS (va_up (shR rs (256 * tb) n (n - k)) (256 * tb + k) i (256 * tb + q))
          by_cases c1 : q = k
          · subst c1
            rw [va_up_self, if_neg (Nat.lt_irrefl q), if_pos rfl]
            exact ⟨Nat.lt_succ_self i, rfl⟩
          · rw [va_up_ne _ _ (by omega), shR_at rs (256 * tb) n (n - k) (by omega)]
            by_cases c2 : q < k
            · rw [if_neg (by omega), if_pos c2]
              exact ⟨by have := (r4 q (by omega)).1; omega, (r4 q (by omega)).2⟩
            · rw [if_pos (by omega), if_neg c2, if_neg c1, show 256 * tb + q - 1 = 256 * tb + (q - 1) by omega]
              exact ⟨by have := (r4 (q - 1) (by omega)).1; omega, (r4 (q - 1) (by omega)).2⟩
        · show (_ → va_up (mapT i (bmF (va_up ro i (-1)) k) (bmG (va_up ro i (-1))) (va_up ro i (-1))) i (nI k) s = -1 ∧ va_up (va_up ar i (-1)) i 0 s = -1) ∧ (_ → ∃ r, r < n + 1 ∧ va_up (mapT i (bmF (va_up ro i (-1)) k) (bmG (va_up ro i (-1))) (va_up ro i (-1))) i (nI k) s = nI r ∧ eqK NL nc (if r < k then RS r else if r = k then SS i else RS (r - 1)) (SS s) ∧ va_up (va_up ar i (-1)) i 0 s = 0)
          by_cases e : s = i
          · subst e
            rw [va_up_self, va_up_self, c]
            exact ⟨fun z => Bool.noConfusion z, fun _ => ⟨k, by omega, rfl, by rw [if_neg (Nat.lt_irrefl k), if_pos rfl]; exact fun _ _ => rfl, rfl⟩⟩
          · obtain ⟨q1, q2⟩ := r6 s (by omega)
            rw [va_up_ne _ _ e, va_up_ne _ _ e, va_up_ne _ _ e, mapT_v (by omega)]
            unfold bmF bmG
            rw [va_up_ne _ _ e]
            refine ⟨fun z => ?_, fun z => ?_⟩
            · obtain ⟨w1, w2⟩ := q1 z
              rw [w1, if_neg (by
                rw [decide_eq_true (show (-1 : Int32) < nI k from by
                  rw [Int32.lt_iff_toInt_lt, nI_toInt (by omega)]
                  have : (-1 : Int32).toInt = -1 := by decide
                  omega)]
                decide)]
              exact ⟨rfl, w2⟩
            · obtain ⟨r, w1, w2, w3, w4⟩ := q2 z
              rw [w2]
              by_cases lt : r < k
              · rw [decide_eq_true ((nI_ltq (by omega) (by omega)).mpr lt), if_neg (by decide)]
                exact ⟨r, by omega, rfl, by rw [if_pos lt]; exact w3, w4⟩
              · rw [decide_eq_false (fun g => lt ((nI_ltq (by omega) (by omega)).mp g)), if_pos (show (!false) = true from rfl)]
                exact ⟨r + 1, by omega, nI_add r 1, by rw [if_neg (by omega), if_neg (by omega)]; exact w3, w4⟩
/-- the row of each series -/
theorem pkR_at {rc : Nat} {RS : Nat → List LB} {ar : Nat → Int32} : ∀ (i s : Nat), pkR NL SS nc rc RS ar i s = if s < i ∧ ¬ ar s = -1 then roT NL nc rc RS (SS s) else ar s
  | 0, s => (if_neg (fun z => absurd z.1 (Nat.not_lt_zero s))).symm
  | i + 1, s => by
    have ei : pkR NL SS nc rc RS ar i i = ar i := (pkR_at i i).trans (if_neg (fun z => absurd z.1 (Nat.lt_irrefl i)))
    show (if pkR NL SS nc rc RS ar i i = (-1) then pkR NL SS nc rc RS ar i else va_up (pkR NL SS nc rc RS ar i) i (roT NL nc rc RS (SS i))) s = _
    rw [ei]
    by_cases c : ar i = -1
    · rw [if_pos c, pkR_at i s]
      refine if_cg ⟨fun z => ⟨by omega, z.2⟩, fun z => ⟨?_, z.2⟩⟩ rfl rfl
      have : ¬ s = i := fun e => z.2 (by rw [e]; exact c)
      omega
    · rw [if_neg c]
      by_cases e : s = i
      · rw [e, va_up_self, if_pos ⟨Nat.lt_succ_self i, c⟩]
      · rw [va_up_ne _ _ e, pkR_at i s]
        exact if_cg ⟨fun z => ⟨by omega, z.2⟩, fun z => ⟨by omega, z.2⟩⟩ rfl rfl
end GR
