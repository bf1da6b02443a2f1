section
/-! Series grouped by their values: the two ways. -/
section GQ
variable (tb nc nm : Nat) (NL : Nat → List Int32) (KD : Nat → Int32) (MN MT : Nat → List Int32) (SS : Nat → List LB)
def grQ (i : Nat) (G : grT) (g : PKS) : Prop := (g.1.rc = G.1 ∧ g.1.nc = nc ∧ G.1 ≤ i) ∧ (∀ q, q < G.1 → G.2.1 (256 * tb + q) < i ∧ g.2.1 q = SS (G.2.1 (256 * tb + q))) ∧ srtR NL nc G.1 g.2.1 ∧ (∀ s, s < i → (pkT nm KD MN MT SS s = false → G.2.2.1 s = -1 ∧ g.2.2.1 s = -1) ∧ (pkT nm KD MN MT SS s = true → ∃ r, r < G.1 ∧ G.2.2.1 s = nI r ∧ eqK NL nc (g.2.1 r) (SS s) ∧ g.2.2.1 s = 0)) ∧ ∀ s, s < i → G.2.2.2.1 s = false ∧ g.2.2.2 s = false
end GQ
section GR
variable {x : MS} {tb p nc nm : Nat} {NL : Nat → List Int32} {KD : Nat → Int32} {MN MT : Nat → List Int32} {SS : Nat → List LB} {kn : Nat → Option Nat} {g0 : PKS}
theorem gr_Q (hn : nmRe x tb nc NL) (hx : txR x.texts x.textLengths x.seriesCount SS) (hg : ∀ q, q < x.seriesCount → serG (SS q)) (h256 : x.seriesCount ≤ 256) (hm : ∀ s, s < x.seriesCount → ∀ v, ((MS.s_valueLength x v).mt s p).1 = pkT nm KD MN MT SS s) (h0 : g0.1.rc = 0 ∧ g0.1.nc = nc) : ∀ i, i ≤ x.seriesCount → grQ tb nc nm NL KD MN MT SS i (x.grG tb p i) (pkG NL nm KD MN MT SS kn g0 i)
  | 0, _ => ⟨⟨h0.1, h0.2, Nat.le_refl 0⟩, fun q hq => absurd hq (Nat.not_lt_zero q), fun a b _ hb => absurd hb (Nat.not_lt_zero b), fun s hs => absurd hs (Nat.not_lt_zero s), fun s hs => absurd hs (Nat.not_lt_zero s)⟩
  | i + 1, hi => by
    have ih := gr_Q hn hx hg h256 hm h0 i (by omega)
    obtain ⟨⟨n, rs, ro, hb, v⟩, eG⟩ : ∃ G : grT, x.grG tb p i = G := ⟨_, rfl⟩
    have eP : pkG NL nm KD MN MT SS kn g0 (i + 1) = if pkT nm KD MN MT SS i = true then (adT NL (pkG NL nm KD MN MT SS kn g0 i).1 (pkG NL nm KD MN MT SS kn g0 i).2.1 (SS i) ((kn i).getD 0), adRS NL (pkG NL nm KD MN MT SS kn g0 i).1 (pkG NL nm KD MN MT SS kn g0 i).2.1 (SS i), va_up (va_up (pkG NL nm KD MN MT SS kn g0 i).2.2.1 i (-1)) i 0, va_up (pkG NL nm KD MN MT SS kn g0 i).2.2.2 i false) else ((pkG NL nm KD MN MT SS kn g0 i).1, (pkG NL nm KD MN MT SS kn g0 i).2.1, va_up (pkG NL nm KD MN MT SS kn g0 i).2.2.1 i (-1), va_up (pkG NL nm KD MN MT SS kn g0 i).2.2.2 i false) := rfl
    obtain ⟨⟨tt, RS, ar, ab⟩, eg⟩ : ∃ g : PKS, pkG NL nm KD MN MT SS kn g0 i = g := ⟨_, rfl⟩
    rw [eg] at eP
    rw [eG, eg] at ih
    obtain ⟨⟨r1, r2, r3⟩, r4, r5, r6, r7⟩ := ih
    have r1 : tt.rc = n := r1
    have r2 : tt.nc = nc := r2
    have r3 : n ≤ i := r3
    have r4 : ∀ q, q < n → rs (256 * tb + q) < i ∧ RS q = SS (rs (256 * tb + q)) := r4
    have r5 : srtR NL nc n RS := r5
    have r6 : ∀ s, s < i → (pkT nm KD MN MT SS s = false → ro s = -1 ∧ ar s = -1) ∧ (pkT nm KD MN MT SS s = true → ∃ r, r < n ∧ ro s = nI r ∧ eqK NL nc (RS r) (SS s) ∧ ar s = 0) := r6
    have r7 : ∀ s, s < i → hb s = false ∧ ab s = false := r7
    have hb7 : ∀ s, s < i + 1 → va_up hb i false s = false ∧ va_up ab i false s = false := fun s hs => by
      by_cases c : s = i
      · rw [c, va_up_self, va_up_self]; exact ⟨rfl, rfl⟩
      · rw [va_up_ne _ _ c, va_up_ne _ _ c]; exact r7 s (by omega)
    have hmi := hm i (by omega) v
    have gRS : ∀ q, q < n → serG (RS q) := fun q hq => by
      rw [(r4 q hq).2]
      exact hg _ (by have := (r4 q hq).1; omega)
    have gi : serG (SS i) := hg i (by omega)
    cases c : pkT nm KD MN MT SS i with
    | false =>
      rw [c] at hmi
      rw [gr_no eG hmi, eP, if_neg (by rw [c]; decide)]
      refine ⟨⟨r1, r2, by show n ≤ i + 1; omega⟩, fun q hq => ⟨by have := (r4 q hq).1; show rs (256 * tb + q) < i + 1; omega, (r4 q hq).2⟩, r5, fun s hs => ?_, hb7⟩
      show (_ → va_up ro i (-1) s = -1 ∧ va_up ar i (-1) s = -1) ∧ (_ → ∃ r, r < n ∧ va_up ro i (-1) s = nI r ∧ eqK NL nc (RS r) (SS s) ∧ va_up ar i (-1) s = 0)
      by_cases e : s = i
      · subst e
        rw [va_up_self, va_up_self, c]
        exact ⟨fun _ => ⟨rfl, rfl⟩, fun z => Bool.noConfusion z⟩
      · rw [va_up_ne _ _ e, va_up_ne _ _ e]
        exact r6 s (by omega)
    | true =>
      rw [c] at hmi
      obtain ⟨v2, e2⟩ : ∃ v2, (MS.s_valueLength x v).mt i p = (true, v2) := ⟨_, Prod.ext hmi rfl⟩
      have hR : ∀ q, q < n → rs (256 * tb + q) < x.seriesCount := fun q hq => by have := (r4 q hq).1; omega
      obtain ⟨p1, p2⟩ := pl_thr r5 gRS gi (by omega)
      have efr : (x.fr tb i rs n (n + 1) 0 v2).1 = plT NL nc n RS (SS i) := fr_p hn hx hg (by omega) hR p1 (fun q hq => by rw [← (r4 q hq).2]; exact p2 q hq) (n + 1) 0 v2 (Nat.zero_le _) (by omega)
      have hnew := srt_new r5 gRS gi (show n ≤ 256 by omega)
      have hrow : ∀ (q : Nat), q < n → eqK NL nc (RS q) (SS i) → plT NL nc n RS (SS i) = q := fun q hq he => (pl_row r5 gRS gi (by omega) hq he).1
      have eA : adT NL tt RS (SS i) ((kn i).getD 0) = if (plT NL nc n RS (SS i) < n ∧ cmT NL nc (RS (plT NL nc n RS (SS i))) (SS i) = 0) then tt else tt.adR (plT NL nc n RS (SS i)) ((kn i).getD 0) := by
        unfold adT
        rw [r1, r2]
        exact if_cg ⟨fun z => z.resolve_left (by omega), Or.inr⟩ rfl rfl
      have eB : adRS NL tt RS (SS i) = if (plT NL nc n RS (SS i) < n ∧ cmT NL nc (RS (plT NL nc n RS (SS i))) (SS i) = 0) then RS else fun q => if q < plT NL nc n RS (SS i) then RS q else if q = plT NL nc n RS (SS i) then SS i else RS (q - 1) := by
        unfold adRS
        rw [r1, r2]
        exact if_cg ⟨fun z => z.resolve_left (by omega), Or.inr⟩ rfl rfl
      obtain ⟨k, ek⟩ : ∃ k, k = plT NL nc n RS (SS i) := ⟨_, rfl⟩
      rw [← ek] at p1 p2 efr hnew hrow eA eB
      obtain ⟨v3, e3⟩ : ∃ v3, x.fr tb i rs n (n + 1) 0 v2 = (k, v3) := ⟨_, Prod.ext efr rfl⟩
      have nlt : ∀ h : k < n, ¬ cmT NL nc (RS k) (SS i) < 0 := fun h z => by
        have := (p2 k h).mp ((cmT_lt (gRS k h) gi).mp z)
        omega
      have egi : (x.gi tb i rs n k v3).1 = !decide (k < n ∧ cmT NL nc (RS k) (SS i) = 0) := by
        unfold MS.gi
        by_cases d : n = k
        · rw [if_pos d, decide_eq_false (by omega)]; rfl
        · rw [if_neg d]
          have e : ((MS.s_valueLength x v3).cr tb (rs (256 * tb + k)) i).1 = cmT NL nc (SS (rs (256 * tb + k))) (SS i) := cr_eq (x := MS.s_valueLength x v3) hn hx (hR k (by omega)) (by show i < x.seriesCount; omega) (hg _ (hR k (by omega))) gi
          show (!decide (((MS.s_valueLength x v3).cr tb (rs (256 * tb + k)) i).1 ≤ 0)) = _
          rw [e, ← (r4 k (by omega)).2]
          have nl := nlt (by omega)
          by_cases z : cmT NL nc (RS k) (SS i) = 0
          · rw [z, decide_eq_true (by decide), decide_eq_true ⟨by omega, rfl⟩]
          · rw [decide_eq_false (fun g => z (Int32.le_antisymm g (Int32.not_lt.mp nl))), decide_eq_false (fun g => z g.2)]
      rw [gr_y eG e2 e3, eP, if_pos c, eA, eB]
      by_cases d : k < n ∧ cmT NL nc (RS k) (SS i) = 0
      · rw [decide_eq_true d] at egi
        rw [gr_old (show x.gi tb i rs n k v3 = (false, (x.gi tb i rs n k v3).2) from Prod.ext egi rfl), if_pos d, if_pos d]
        refine ⟨⟨r1, r2, by show n ≤ i + 1; omega⟩, fun q hq => ⟨by have := (r4 q hq).1; show rs (256 * tb + q) < i + 1; omega, (r4 q hq).2⟩, r5, fun s hs => ?_, hb7⟩
        show (_ → va_up (va_up ro i (-1)) i (nI k) s = -1 ∧ va_up (va_up ar i (-1)) i 0 s = -1) ∧ (_ → ∃ r, r < n ∧ va_up (va_up ro i (-1)) i (nI k) s = nI r ∧ eqK NL nc (RS r) (SS s) ∧ va_up (va_up ar i (-1)) i 0 s = 0)
        by_cases e : s = i
        · subst e
          rw [va_up_self, va_up_self, c]
          exact ⟨fun z => Bool.noConfusion z, fun _ => ⟨k, d.1, rfl, (cmT_eq (gRS k d.1) gi).mp d.2, rfl⟩⟩
        · rw [va_up_ne _ _ e, va_up_ne _ _ e, va_up_ne _ _ e, va_up_ne _ _ e]
          exact r6 s (by omega)
      · rw [decide_eq_false d] at egi
        rw [grN_new (show x.gi tb i rs n k v3 = (true, (x.gi tb i rs n k v3).2) from Prod.ext egi rfl), if_neg d, if_neg d]
        refine ⟨⟨by show tt.rc + 1 = n + 1; rw [r1], r2, by show n + 1 ≤ i + 1; omega⟩, fun q hq => ?_, hnew d, fun s hs => ?_, hb7⟩
        · have hq : q < n + 1 := hq
          show va_up (shR rs (256 * tb) n (n - k)) (256 * tb + k) i (256 * tb + q) < i + 1 ∧ (if q < k then RS q else if q = k then SS i else RS (q - 1)) = SS (va_up (shR rs (256 * tb) n (n - k)) (256 * tb + k) i (256 * tb + q))
          by_cases c1 : q = k
          · subst c1
            rw [va_up_self, if_neg (Nat.lt_irrefl q), if_pos rfl]
            exact ⟨Nat.lt_succ_self i, rfl⟩
          · rw [va_up_ne _ _ (by omega), shR_at rs (256 * tb) n (n - k) (by omega)]
            by_cases c2 : q < k
            · rw [if_neg (by omega), if_pos c2]
              exact ⟨by have := (r4 q (by omega)).1; omega, (r4 q (by omega)).2⟩
            · rw [if_pos (by omega), if_neg c2, if_neg c1, show 256 * tb + q - 1 = 256 * tb + (q - 1) by omega]
              exact ⟨by have := (r4 (q - 1) (by omega)).1; omega, (r4 (q - 1) (by omega)).2⟩
        · show (_ → va_up (mapT i (bmF (va_up ro i (-1)) k) (bmG (va_up ro i (-1))) (va_up ro i (-1))) i (nI k) s = -1 ∧ va_up (va_up ar i (-1)) i 0 s = -1) ∧ (_ → ∃ r, r < n + 1 ∧ va_up (mapT i (bmF (va_up ro i (-1)) k) (bmG (va_up ro i (-1))) (va_up ro i (-1))) i (nI k) s = nI r ∧ eqK NL nc (if r < k then RS r else if r = k then SS i else RS (r - 1)) (SS s) ∧ va_up (va_up ar i (-1)) i 0 s = 0)
          by_cases e : s = i
          · subst e
            rw [va_up_self, va_up_self, c]
            exact ⟨fun z => Bool.noConfusion z, fun _ => ⟨k, by omega, rfl, by rw [if_neg (Nat.lt_irrefl k), if_pos rfl]; exact fun _ _ => rfl, rfl⟩⟩
          · obtain ⟨q1, q2⟩ := r6 s (by omega)
            rw [va_up_ne _ _ e, va_up_ne _ _ e, va_up_ne _ _ e, mapT_v (by omega)]
            unfold bmF bmG
            rw [va_up_ne _ _ e]
            refine ⟨fun z => ?_, fun z => ?_⟩
            · obtain ⟨w1, w2⟩ := q1 z
              rw [w1, if_neg (by
                rw [decide_eq_true (show (-1 : Int32) < nI k from by
                  rw [Int32.lt_iff_toInt_lt, nI_toInt (by omega)]
                  have : (-1 : Int32).toInt = -1 := by decide
                  omega)]
                decide)]
              exact ⟨rfl, w2⟩
            · obtain ⟨r, w1, w2, w3, w4⟩ := q2 z
              rw [w2]
              by_cases lt : r < k
              · rw [decide_eq_true ((nI_ltq (by omega) (by omega)).mpr lt), if_neg (by decide)]
                exact ⟨r, by omega, rfl, by rw [if_pos lt]; exact w3, w4⟩
              · rw [decide_eq_false (fun g => lt ((nI_ltq (by omega) (by omega)).mp g)), if_pos (show (!false) = true from rfl)]
                exact ⟨r + 1, by omega, nI_add r 1, by rw [if_neg (by omega), if_neg (by omega)]; exact w3, w4⟩
/-- the row of each series -/
theorem pkR_at {rc : Nat} {RS : Nat → List LB} {ar : Nat → Int32} : ∀ (i s : Nat), pkR NL SS nc rc RS ar i s = if s < i ∧ ¬ ar s = -1 then roT NL nc rc RS (SS s) else ar s
  | 0, s => (if_neg (fun z => absurd z.1 (Nat.not_lt_zero s))).symm
  | i + 1, s => by
    have ei : pkR NL SS nc rc RS ar i i = ar i := (pkR_at i i).trans (if_neg (fun z => absurd z.1 (Nat.lt_irrefl i)))
    show (if pkR NL SS nc rc RS ar i i = (-1) then pkR NL SS nc rc RS ar i else va_up (pkR NL SS nc rc RS ar i) i (roT NL nc rc RS (SS i))) s = _
    rw [ei]
    by_cases c : ar i = -1
    · rw [if_pos c, pkR_at i s]
      refine if_cg ⟨fun z => ⟨by omega, z.2⟩, fun z => ⟨?_, z.2⟩⟩ rfl rfl
      have : ¬ s = i := fun e => z.2 (by rw [e]; exact c)
      omega
    · rw [if_neg c]
      by_cases e : s = i
      · rw [e, va_up_self, if_pos ⟨Nat.lt_succ_self i, c⟩]
      · rw [va_up_ne _ _ e, pkR_at i s]
        exact if_cg ⟨fun z => ⟨by omega, z.2⟩, fun z => ⟨by omega, z.2⟩⟩ rfl rfl
end GR
end
section
/-! Points in two orders. -/
section TRC
variable {σ : Type} {op : σ → Nat → σ} {se : Nat → Nat}
theorem trc_mv (h : ∀ a b st, ¬ se a = se b → op (op st a) b = op (op st b) a) {a : Nat} : ∀ (A : List Nat) (st : σ), (∀ b, b ∈ A → ¬ se b = se a) → op (A.foldl op st) a = A.foldl op (op st a)
  | [], st, _ => rfl
  | b :: A, st, hA => by
    show op (A.foldl op (op st b)) a = A.foldl op (op (op st a) b)
    rw [trc_mv h A (op st b) (fun c hc => hA c (List.mem_cons_of_mem _ hc)), h b a st (hA b (List.mem_cons_self ..))]
theorem flt_cons {p : Nat → Bool} {a : Nat} {T : List Nat} : ∀ {L : List Nat}, L.filter p = a :: T → ∃ A B, L = A ++ a :: B ∧ (∀ b, b ∈ A → p b = false) ∧ p a = true ∧ T = B.filter p
  | [], h => by cases h
  | b :: L, h => by
    cases c : p b with
    | true =>
      rw [List.filter_cons_of_pos c, List.cons.injEq] at h
      obtain ⟨h1, h2⟩ := h
      subst h1
      exact ⟨[], L, rfl, (fun b hb => by cases hb), c, h2.symm⟩
    | false =>
      rw [List.filter_cons_of_neg (by rw [c]; decide)] at h
      obtain ⟨A, B, e1, e2, e3, e4⟩ := flt_cons h
      refine ⟨b :: A, B, by rw [e1]; rfl, fun d hd => ?_, e3, e4⟩
      rcases List.mem_cons.mp hd with e | e
      · rw [e]; exact c
      · exact e2 d e
/-- the order of points of other series does not matter -/
theorem trc (h : ∀ a b st, ¬ se a = se b → op (op st a) b = op (op st b) a) : ∀ (L1 L2 : List Nat) (st : σ), (∀ s, L1.filter (fun q => decide (se q = s)) = L2.filter (fun q => decide (se q = s))) → L1.foldl op st = L2.foldl op st
  | [], L2, st, hf => by
    cases L2 with
    | nil => rfl
    | cons b L2 =>
      have := hf (se b)
      rw [List.filter_cons_of_pos (p := fun q => decide (se q = se b)) (decide_eq_true rfl)] at this
      cases this
  | a :: L1, L2, st, hf => by
    have e := hf (se a)
    rw [List.filter_cons_of_pos (p := fun q => decide (se q = se a)) (decide_eq_true rfl)] at e
    obtain ⟨A, B, e1, e2, -, e4⟩ := flt_cons e.symm
    have hA : ∀ b, b ∈ A → ¬ se b = se a := fun b hb => of_decide_eq_false (e2 b hb)
    have fA : A.filter (fun q => decide (se q = se a)) = [] := List.filter_eq_nil_iff.mpr (fun b hb => by rw [e2 b hb]; decide)
    have e5 : (a :: L1).foldl op st = L1.foldl op (op st a) := rfl
    have e6 : L2.foldl op st = (A ++ B).foldl op (op st a) := by
      rw [e1, List.foldl_append, List.foldl_append, ← trc_mv h A st hA]
      rfl
    rw [e5, e6]
    refine trc h L1 (A ++ B) (op st a) (fun s => ?_)
    have es := hf s
    rw [e1, List.filter_append] at es
    rw [List.filter_append]
    by_cases c : se a = s
    · subst c
      rw [fA, List.nil_append, ← e4]
    · rw [List.filter_cons_of_neg (p := fun q => decide (se q = s)) (show ¬ decide (se a = s) = true by rw [decide_eq_false c]; decide), List.filter_cons_of_neg (p := fun q => decide (se q = s)) (show ¬ decide (se a = s) = true by rw [decide_eq_false c]; decide)] at es
      exact es
theorem fold_flt {g : Nat → Bool} (h : ∀ q st, g q = false → op st q = st) : ∀ (L : List Nat) (st : σ), L.foldl op st = (L.filter g).foldl op st
  | [], _ => rfl
  | a :: L, st => by
    show L.foldl op (op st a) = _
    cases c : g a with
    | true => rw [List.filter_cons_of_pos c]; exact fold_flt h L (op st a)
    | false => rw [List.filter_cons_of_neg (by rw [c]; decide), h a st c]; exact fold_flt h L st
end TRC
/-- two kinds of points, one before the other -/
theorem flt_or {A B : Nat → Bool} : ∀ {N : Nat}, (∀ p r, p < N → r < N → A p = true → B r = true → p < r) → (List.range N).filter A ++ (List.range N).filter B = (List.range N).filter (fun q => A q || B q)
  | 0, _ => rfl
  | N + 1, h => by
    have ih := flt_or (A := A) (B := B) (N := N) (fun p r h1 h2 => h p r (by omega) (by omega))
    rw [List.range_succ, List.filter_append, List.filter_append, List.filter_append, ← ih]
    cases a : A N with
    | true =>
      have nB : ∀ r, r < N + 1 → B r = false := fun r hr => by
        cases b : B r with
        | false => rfl
        | true =>
          have := h N r (by omega) hr a b
          omega
      have e1 : (List.range N).filter B = [] := List.filter_eq_nil_iff.mpr (fun r hr => by rw [nB r (by have := List.mem_range.mp hr; omega)]; decide)
      have e2 : [N].filter B = [] := List.filter_cons_of_neg (by rw [nB N (by omega)]; decide)
      have e3 : [N].filter A = [N] := List.filter_cons_of_pos a
      have e4 : [N].filter (fun q => A q || B q) = [N] := List.filter_cons_of_pos (by rw [a]; rfl)
      rw [e1, e2, e3, e4, List.append_nil, List.append_nil, List.append_nil]
    | false =>
      have e3 : [N].filter A = [] := List.filter_cons_of_neg (by rw [a]; decide)
      have e4 : [N].filter (fun q => A q || B q) = [N].filter B := by
        cases b : B N with
        | true => rw [List.filter_cons_of_pos (by rw [b, Bool.or_true]), List.filter_cons_of_pos b]; rfl
        | false => rw [List.filter_cons_of_neg (by rw [a, b]; decide), List.filter_cons_of_neg (by rw [b]; decide)]; rfl
      rw [e3, e4, List.append_nil, List.append_assoc]
end
section
/-! A cell: what a point makes of it, in any order of the series. -/
abbrev CS : Type := Bool × Int64 × Int64 × Nat
def clO (fn : Int32) (c : CS) (s : Nat) (t v : Int64) (h : Bool) (b : Int64) : CS :=
  if fn = 0 then (true, c.2.1 + v, c.2.2)
  else if fn = 1 then (true, c.2.1 + 1, c.2.2)
  else if fn = 2 then (true, (if c.1 = true then minL c.2.1 v else v), c.2.2)
  else if fn = 3 then (true, (if c.1 = true then maxL c.2.1 v else v), c.2.2)
  else if fn = 6 then (if h = true then (true, c.2.1 + (if v < b then v else v - b), c.2.2) else c)
  else if chsB fn c.1 t c.2.2.1 s c.2.2.2 = true then (true, v, t, s) else c
/-- which of two points is to be taken -/
def kyB (fn : Int32) (t : Int64) (s : Nat) (t' : Int64) (s' : Nat) : Bool := btB fn t t' || (decide (t = t') && decide (s < s'))
theorem kyB_t {fn : Int32} {t t' : Int64} {s s' : Nat} : kyB fn t s t' s' = true ↔ ((if fn = 4 then t.toInt < t'.toInt else t'.toInt < t.toInt) ∨ (t.toInt = t'.toInt ∧ s < s')) := by
  unfold kyB btB
  rw [Bool.or_eq_true, Bool.and_eq_true, decide_eq_true_eq, decide_eq_true_eq, ← Int64.toInt_inj]
  split
  · rw [decide_eq_true_eq, Int64.lt_iff_toInt_lt]
  · rw [decide_eq_true_eq, Int64.lt_iff_toInt_lt]
theorem kyB_n {fn : Int32} {t t' : Int64} {s s' : Nat} (h : ¬ s = s') : kyB fn t s t' s' = !kyB fn t' s' t s := by
  have a := kyB_t (fn := fn) (t := t) (t' := t') (s := s) (s' := s')
  have b := kyB_t (fn := fn) (t := t') (t' := t) (s := s') (s' := s)
  cases c : kyB fn t s t' s' with
  | true =>
    cases d : kyB fn t' s' t s with
    | false => rfl
    | true =>
      have a := a.mp c
      have b := b.mp d
      split at a
      · rename_i g
        rw [if_pos g] at b
        omega
      · rename_i g
        rw [if_neg g] at b
        omega
  | false =>
    cases d : kyB fn t' s' t s with
    | true => rfl
    | false =>
      have a : ¬ ((if fn = 4 then t.toInt < t'.toInt else t'.toInt < t.toInt) ∨ (t.toInt = t'.toInt ∧ s < s')) := fun z => Bool.false_ne_true (c.symm.trans (a.mpr z))
      have b : ¬ ((if fn = 4 then t'.toInt < t.toInt else t.toInt < t'.toInt) ∨ (t'.toInt = t.toInt ∧ s' < s)) := fun z => Bool.false_ne_true (d.symm.trans (b.mpr z))
      by_cases g : fn = 4
      · rw [if_pos g] at a b
        omega
      · rw [if_neg g] at a b
        omega
theorem kyB_tr {fn : Int32} {t t' t'' : Int64} {s s' s'' : Nat} (h1 : kyB fn t s t'' s'' = true) (h2 : kyB fn t' s' t'' s'' = false) : kyB fn t' s' t s = false := by
  cases d : kyB fn t' s' t s with
  | false => rfl
  | true =>
    have a := kyB_t.mp h1
    have b := kyB_t.mp d
    have e : ¬ kyB fn t' s' t'' s'' = true := by rw [h2]; decide
    refine absurd (kyB_t.mpr ?_) e
    by_cases g : fn = 4
    · rw [if_pos g] at a b ⊢
      omega
    · rw [if_neg g] at a b ⊢
      omega
section CC
variable {fn : Int32} {c : CS} {s1 s2 : Nat} {t1 t2 v1 v2 b1 b2 : Int64} {h1 h2 : Bool}
theorem ad_rc (a b c : Int64) : a + b + c = a + c + b := by rw [Int64.add_assoc, Int64.add_comm b c, ← Int64.add_assoc]
theorem minL_i (a b : Int64) : (minL a b).toInt = min a.toInt b.toInt := by
  unfold minL
  split
  · rename_i g
    rw [Int64.lt_iff_toInt_lt] at g
    omega
  · rename_i g
    rw [Int64.lt_iff_toInt_lt] at g
    omega
theorem maxL_i (a b : Int64) : (maxL a b).toInt = max a.toInt b.toInt := by
  unfold maxL
  split
  · rename_i g
    rw [Int64.lt_iff_toInt_lt] at g
    omega
  · rename_i g
    rw [Int64.lt_iff_toInt_lt] at g
    omega
/-- the point taken, or the one that is there -/
def selC (fn : Int32) (c : CS) (s : Nat) (t v : Int64) : CS := if chsB fn c.1 t c.2.2.1 s c.2.2.2 = true then (true, v, t, s) else c
theorem selC_t {s : Nat} {t v : Int64} (h : (!c.1 || kyB fn t s c.2.2.1 c.2.2.2) = true) : selC fn c s t v = (true, v, t, s) := if_pos h
theorem selC_f {s : Nat} {t v : Int64} (h : (!c.1 || kyB fn t s c.2.2.1 c.2.2.2) = false) : selC fn c s t v = c := if_neg (fun e => Bool.false_ne_true (h.symm.trans e))
theorem selC_1 {s s' : Nat} {t v t' v' : Int64} (h : kyB fn t s t' s' = true) : selC fn (true, v', t', s') s t v = (true, v, t, s) := selC_t (c := (true, v', t', s')) h
theorem selC_0 {s s' : Nat} {t v t' v' : Int64} (h : kyB fn t s t' s' = false) : selC fn (true, v', t', s') s t v = (true, v', t', s') := selC_f (c := (true, v', t', s')) h
theorem selC_c (hs : ¬ s1 = s2) : selC fn (selC fn c s1 t1 v1) s2 t2 v2 = selC fn (selC fn c s2 t2 v2) s1 t1 v1 := by
  cases A : (!c.1 || kyB fn t1 s1 c.2.2.1 c.2.2.2) with
  | true =>
    rw [selC_t A]
    cases B : (!c.1 || kyB fn t2 s2 c.2.2.1 c.2.2.2) with
    | true =>
      rw [selC_t B]
      have n := kyB_n (fn := fn) (t := t1) (t' := t2) hs
      cases D : kyB fn t2 s2 t1 s1 with
      | true =>
        rw [D] at n
        rw [selC_1 D, selC_0 n]
      | false =>
        rw [D] at n
        rw [selC_0 D, selC_1 n]
    | false =>
      rw [selC_f B, selC_t A]
      rw [Bool.or_eq_false_iff] at B
      have A2 : kyB fn t1 s1 c.2.2.1 c.2.2.2 = true := by
        rw [B.1, Bool.false_or] at A
        exact A
      exact selC_0 (kyB_tr A2 B.2)
  | false =>
    rw [selC_f A]
    cases B : (!c.1 || kyB fn t2 s2 c.2.2.1 c.2.2.2) with
    | true =>
      rw [selC_t B]
      rw [Bool.or_eq_false_iff] at A
      have B2 : kyB fn t2 s2 c.2.2.1 c.2.2.2 = true := by
        rw [A.1, Bool.false_or] at B
        exact B
      exact (selC_0 (kyB_tr B2 A.2)).symm
    | false => rw [selC_f B, selC_f A]
theorem clO_0 {s : Nat} {t v b : Int64} {h : Bool} (f : fn = 0) : clO fn c s t v h b = (true, c.2.1 + v, c.2.2) := if_pos f
theorem clO_1 {s : Nat} {t v b : Int64} {h : Bool} (f0 : ¬ fn = 0) (f : fn = 1) : clO fn c s t v h b = (true, c.2.1 + 1, c.2.2) := (if_neg f0).trans (if_pos f)
theorem clO_2 {s : Nat} {t v b : Int64} {h : Bool} (f0 : ¬ fn = 0) (f1 : ¬ fn = 1) (f : fn = 2) : clO fn c s t v h b = (true, (if c.1 = true then minL c.2.1 v else v), c.2.2) := (if_neg f0).trans ((if_neg f1).trans (if_pos f))
theorem clO_3 {s : Nat} {t v b : Int64} {h : Bool} (f0 : ¬ fn = 0) (f1 : ¬ fn = 1) (f2 : ¬ fn = 2) (f : fn = 3) : clO fn c s t v h b = (true, (if c.1 = true then maxL c.2.1 v else v), c.2.2) := (if_neg f0).trans ((if_neg f1).trans ((if_neg f2).trans (if_pos f)))
theorem clO_6 {s : Nat} {t v b : Int64} {h : Bool} (f0 : ¬ fn = 0) (f1 : ¬ fn = 1) (f2 : ¬ fn = 2) (f3 : ¬ fn = 3) (f : fn = 6) : clO fn c s t v h b = (if h = true then (true, c.2.1 + (if v < b then v else v - b), c.2.2) else c) := (if_neg f0).trans ((if_neg f1).trans ((if_neg f2).trans ((if_neg f3).trans (if_pos f))))
theorem clO_4 {s : Nat} {t v b : Int64} {h : Bool} (f0 : ¬ fn = 0) (f1 : ¬ fn = 1) (f2 : ¬ fn = 2) (f3 : ¬ fn = 3) (f6 : ¬ fn = 6) : clO fn c s t v h b = selC fn c s t v := (if_neg f0).trans ((if_neg f1).trans ((if_neg f2).trans ((if_neg f3).trans (if_neg f6))))
theorem min_rc (i : Bool) (u a b : Int64) : minL (if i = true then minL u a else a) b = minL (if i = true then minL u b else b) a := by
  apply Int64.toInt_inj.mp
  rw [minL_i, minL_i]
  cases i with
  | true =>
    rw [if_pos rfl, if_pos rfl, minL_i, minL_i]
    omega
  | false =>
    rw [if_neg (by decide), if_neg (by decide)]
    omega
theorem max_rc (i : Bool) (u a b : Int64) : maxL (if i = true then maxL u a else a) b = maxL (if i = true then maxL u b else b) a := by
  apply Int64.toInt_inj.mp
  rw [maxL_i, maxL_i]
  cases i with
  | true =>
    rw [if_pos rfl, if_pos rfl, maxL_i, maxL_i]
    omega
  | false =>
    rw [if_neg (by decide), if_neg (by decide)]
    omega
theorem clO_6t {s : Nat} {t v b : Int64} {h : Bool} (f0 : ¬ fn = 0) (f1 : ¬ fn = 1) (f2 : ¬ fn = 2) (f3 : ¬ fn = 3) (f : fn = 6) (e : h = true) : clO fn c s t v h b = (true, c.2.1 + (if v < b then v else v - b), c.2.2) := (clO_6 f0 f1 f2 f3 f).trans (if_pos e)
theorem clO_6f {s : Nat} {t v b : Int64} {h : Bool} (f0 : ¬ fn = 0) (f1 : ¬ fn = 1) (f2 : ¬ fn = 2) (f3 : ¬ fn = 3) (f : fn = 6) (e : ¬ h = true) : clO fn c s t v h b = c := (clO_6 f0 f1 f2 f3 f).trans (if_neg e)
theorem tup_ad (i : Bool) (k : Int64 × Nat) {a a' b b' : Int64} (h : a + b = a' + b') : ((i, a + b, k) : CS) = (i, a' + b', k) := by rw [h]
theorem clO_c (hs : ¬ s1 = s2) : clO fn (clO fn c s1 t1 v1 h1 b1) s2 t2 v2 h2 b2 = clO fn (clO fn c s2 t2 v2 h2 b2) s1 t1 v1 h1 b1 := by
  by_cases f0 : fn = 0
  · rw [clO_0 f0 (c := c), clO_0 f0 (c := c), clO_0 f0, clO_0 f0]
    dsimp only
    exact tup_ad true c.2.2 (ad_rc c.2.1 v1 v2)
  by_cases f1 : fn = 1
  · rw [clO_1 f0 f1 (c := c), clO_1 f0 f1 (c := c), clO_1 f0 f1, clO_1 f0 f1]
  by_cases f2 : fn = 2
  · rw [clO_2 f0 f1 f2 (c := c), clO_2 f0 f1 f2 (c := c), clO_2 f0 f1 f2, clO_2 f0 f1 f2]
    dsimp only
    rw [if_pos rfl, if_pos rfl, min_rc c.1 c.2.1 v1 v2]
  by_cases f3 : fn = 3
  · rw [clO_3 f0 f1 f2 f3 (c := c), clO_3 f0 f1 f2 f3 (c := c), clO_3 f0 f1 f2 f3, clO_3 f0 f1 f2 f3]
    dsimp only
    rw [if_pos rfl, if_pos rfl, max_rc c.1 c.2.1 v1 v2]
  by_cases f6 : fn = 6
  · by_cases g1 : h1 = true
    · by_cases g2 : h2 = true
      · rw [clO_6t f0 f1 f2 f3 f6 g1 (c := c), clO_6t f0 f1 f2 f3 f6 g2 (c := c), clO_6t f0 f1 f2 f3 f6 g2, clO_6t f0 f1 f2 f3 f6 g1]
        dsimp only
        exact tup_ad true c.2.2 (ad_rc c.2.1 _ _)
      · rw [clO_6f f0 f1 f2 f3 f6 g2, clO_6f f0 f1 f2 f3 f6 g2 (c := c)]
    · rw [clO_6f f0 f1 f2 f3 f6 g1 (c := c), clO_6f f0 f1 f2 f3 f6 g1]
  rw [clO_4 f0 f1 f2 f3 f6, clO_4 f0 f1 f2 f3 f6, clO_4 f0 f1 f2 f3 f6, clO_4 f0 f1 f2 f3 f6]
  exact selC_c hs
end CC
/-- a cell, and the values before -/
abbrev CT : Type := CS × (Nat → Bool) × (Nat → Int64)
/-- point q comes; g: is it looked at, w: does it fall into the cell -/
def ctO (fn : Int32) (se : Nat → Nat) (ti va : Nat → Int64) (g w : Nat → Bool) (c : CT) (q : Nat) : CT := if g q = true then ((if w q = true then clO fn c.1 (se q) (ti q) (va q) (c.2.1 (se q)) (c.2.2 (se q)) else c.1), va_up c.2.1 (se q) true, va_up c.2.2 (se q) (va q)) else c
theorem va_cm {α : Type} (f : Nat → α) {a b : Nat} (u v : α) (h : ¬ a = b) : va_up (va_up f a u) b v = va_up (va_up f b v) a u := by
  funext q
  show (if q = b then v else if q = a then u else f q) = (if q = a then u else if q = b then v else f q)
  by_cases c : q = b
  · rw [if_pos c, if_neg (by omega), if_pos c]
  · rw [if_neg c, if_neg c]
theorem ctO_c {fn : Int32} {se : Nat → Nat} {ti va : Nat → Int64} {g w : Nat → Bool} (a b : Nat) (c : CT) (h : ¬ se a = se b) : ctO fn se ti va g w (ctO fn se ti va g w c a) b = ctO fn se ti va g w (ctO fn se ti va g w c b) a := by
  have h' : ¬ se b = se a := fun e => h e.symm
  unfold ctO
  cases ga : g a with
  | false =>
    cases gb : g b with
    | false => rfl
    | true => rfl
  | true =>
    cases gb : g b with
    | false => rfl
    | true =>
      simp only [if_true]
      rw [va_cm c.2.1 true true h, va_cm c.2.2 (va a) (va b) h, va_up_ne _ _ h', va_up_ne _ _ h', va_up_ne _ _ h, va_up_ne _ _ h]
      refine Prod.ext ?_ rfl
      cases wa : w a with
      | false =>
        cases wb : w b with
        | false => rfl
        | true => rfl
      | true =>
        cases wb : w b with
        | false => rfl
        | true => exact clO_c h
end
section
/-! Bits of a row; a point met, at one cell: the two ways. -/
theorem hb_bit {z : Int64} {w : Nat} (hw : w < 64) : hasB z w = z.toBitVec.getLsbD w := by
  have hz : z = lN z.toBitVec.toNat := by
    apply Int64.toBitVec_inj.mp
    show z.toBitVec = BitVec.ofNat 64 z.toBitVec.toNat
    rw [BitVec.ofNat_toNat, BitVec.setWidth_eq]
  have e1 : ushL z (nI w) = lN (z.toBitVec.toNat / 2 ^ w) := by
    have := ushL_N (n := z.toBitVec.toNat) z.toBitVec.isLt hw
    rw [← hz] at this
    exact this
  unfold hasB
  rw [e1]
  have e2 : (lN (z.toBitVec.toNat / 2 ^ w) &&& 1 = 1) ↔ (z.toBitVec.toNat / 2 ^ w % 2 = 1) := by
    rw [← Int64.toBitVec_inj, ← BitVec.toNat_inj]
    show (BitVec.ofNat 64 (z.toBitVec.toNat / 2 ^ w) &&& 1#64).toNat = (1#64).toNat ↔ _
    rw [BitVec.toNat_and, BitVec.toNat_ofNat, show (1#64).toNat = 1 from rfl, Nat.and_one_is_mod]
    omega
  show decide (lN (z.toBitVec.toNat / 2 ^ w) &&& 1 = 1) = z.toBitVec.toNat.testBit w
  rw [Nat.testBit_eq_decide_div_mod_eq]
  exact decide_eq_decide.mpr e2
theorem bitL_b : ∀ w : Nat, w < 64 → (bitL w).toBitVec = BitVec.ofNat 64 (2 ^ w) := by decide +kernel
theorem bitL_g {w i : Nat} (hw : w < 64) (hi : i < 64) : (bitL w).toBitVec.getLsbD i = decide (w = i) := by
  rw [bitL_b w hw]
  show (BitVec.ofNat 64 (2 ^ w)).toNat.testBit i = _
  rw [BitVec.toNat_ofNat, Nat.mod_eq_of_lt (Nat.pow_lt_pow_right (by decide) hw), Nat.testBit_two_pow]
theorem hb_or {z : Int64} {w i : Nat} (hw : w < 64) (hi : i < 64) : hasB (z ||| bitL w) i = (hasB z i || decide (w = i)) := by
  rw [hb_bit hi, hb_bit hi, Int64.toBitVec_or, BitVec.getLsbD_or, bitL_g hw hi]
theorem hb_0 {w : Nat} (hw : w < 64) : hasB 0 w = false := by
  rw [hb_bit hw]
  show (0#64).getLsbD w = false
  exact BitVec.getLsbD_zero
theorem hb_z {z : Int64} (h : ∀ w, w < 64 → hasB z w = false) : z = 0 := by
  apply Int64.toBitVec_inj.mp
  apply BitVec.eq_of_getLsbD_eq
  intro i hi
  rw [← hb_bit hi, h i hi]
  show false = (0#64).getLsbD i
  exact BitVec.getLsbD_zero.symm
/-- the cell of a row and window -/
def TB.cs (t : TB) (bT : Nat → Int64) (bO : Nat → Nat) (r w : Nat) : CS := (hasB (t.th r) w, t.ce (r * t.wi + w), bT (r * t.wi + w), bO (r * t.wi + w))
theorem ix_ne {wi r w r' w' : Nat} (hw : w < wi) (hw' : w' < wi) (h : ¬ (r = r' ∧ w = w')) : ¬ r * wi + w = r' * wi + w' := by
  intro e
  have h1 : (r * wi + w) / wi = r := by rw [Nat.mul_comm, Nat.mul_add_div (by omega), Nat.div_eq_of_lt hw, Nat.add_zero]
  have h2 : (r' * wi + w') / wi = r' := by rw [Nat.mul_comm, Nat.mul_add_div (by omega), Nat.div_eq_of_lt hw', Nat.add_zero]
  have e1 : r = r' := by rw [← h1, ← h2, e]
  subst e1
  exact h ⟨rfl, by omega⟩
section MC
variable {fn : Int32} {x : VS} {M : MM} {o : Nat} {tm v : Int64} {r0 w0 : Nat}
theorem pt_cs {t : TB} {bT : Nat → Int64} {bO : Nat → Nat} {r w : Nat} {u : Int64} (h64 : t.wi ≤ 64) (hw : w < t.wi) (hw0 : w0 < t.wi) : (t.pt r w u).cs bT bO r0 w0 = if r = r0 ∧ w = w0 then (true, u, bT (r0 * t.wi + w0), bO (r0 * t.wi + w0)) else t.cs bT bO r0 w0 := by
  show (hasB (va_up t.th r (t.th r ||| bitL w) r0) w0, va_up t.ce (r * t.wi + w) u (r0 * t.wi + w0), bT (r0 * t.wi + w0), bO (r0 * t.wi + w0)) = _
  by_cases c : r = r0 ∧ w = w0
  · obtain ⟨rfl, rfl⟩ := c
    rw [if_pos ⟨rfl, rfl⟩, va_up_self, va_up_self, hb_or (by omega) (by omega), decide_eq_true rfl, Bool.or_true]
  · rw [if_neg c, va_up_ne _ _ (fun e => ix_ne hw hw0 c e.symm)]
    by_cases d : r0 = r
    · subst d
      rw [va_up_self, hb_or (by omega) (by omega), decide_eq_false (fun e => c ⟨rfl, e⟩), Bool.or_false]
      rfl
    · rw [va_up_ne _ _ d]
      rfl
/-- the class meets a point -/
theorem mm1_c (hfn : isFn fn) (hwi : M.1.wi = x.awi) (h64 : x.awi ≤ 64) (hw0 : w0 < x.awi) (hk : wOk x.afr x.awd x.awi tm) : ((mm1 fn x M o tm v).1.cs (mm1 fn x M o tm v).2.2.2.1 (mm1 fn x M o tm v).2.2.2.2 r0 w0) = (if ¬ woA x.afr x.awd x.awi tm = -1 ∧ i2n (x.aro o) = r0 ∧ i2n (woA x.afr x.awd x.awi tm) = w0 then clO fn (M.1.cs M.2.2.2.1 M.2.2.2.2 r0 w0) o tm v (M.2.1 o) (M.2.2.1 o) else M.1.cs M.2.2.2.1 M.2.2.2.2 r0 w0) ∧ (mm1 fn x M o tm v).1.wi = x.awi := by
  refine ⟨?_, (mqY_k.1).trans hwi⟩
  show (mqY fn M.1 (x.pb M) o tm v).cs (mqT fn M.1 (x.pb M) o tm) (mqO fn M.1 (x.pb M) o tm) r0 w0 = _
  unfold mqY mqT mqO
  have e0 : woA (x.pb M).afr (x.pb M).awd (x.pb M).awi tm = woA x.afr x.awd x.awi tm := rfl
  rw [e0]
  by_cases c : woA x.afr x.awd x.awi tm = -1
  · rw [if_pos c, if_pos c, if_pos c, if_neg (fun z => z.1 c)]
    rfl
  · rw [if_neg c, if_neg c, if_neg c]
    obtain ⟨w, hw, ew⟩ := hk.resolve_left c
    have ei : i2n (woA x.afr x.awd x.awi tm) = w := by rw [ew, i2n_of (by omega)]
    rw [ei]
    have er : i2n ((x.pb M).aro o) = i2n (x.aro o) := rfl
    rw [er]
    generalize i2n (x.aro o) = r
    have ec : (¬ woA x.afr x.awd x.awi tm = -1 ∧ r = r0 ∧ w = w0) ↔ (r = r0 ∧ w = w0) := ⟨fun z => z.2, fun z => ⟨c, z⟩⟩
    simp only [ec]
    have hw' : w < M.1.wi := by rw [hwi]; exact hw
    have hw0' : w0 < M.1.wi := by rw [hwi]; exact hw0
    have h64' : M.1.wi ≤ 64 := by rw [hwi]; exact h64
    have hb : (x.pb M).ahb = M.2.1 := rfl
    have bf : (x.pb M).abf = M.2.2.1 := rfl
    have bT : (x.pb M).bT = M.2.2.2.1 := rfl
    have bO : (x.pb M).bO = M.2.2.2.2 := rfl
    have aw : (x.pb M).awi = M.1.wi := hwi.symm
    by_cases f6 : fn = 6
    · have n45 : ¬ (fn = 4 ∨ fn = 5) := by rw [f6]; decide
      unfold mtT mxT mxO
      rw [if_pos f6, if_neg n45, if_neg n45, hb, bf, bT, bO]
      unfold gwT
      cases h : M.2.1 o with
      | true =>
        rw [if_pos rfl, pt_cs h64' hw' hw0']
        by_cases d : r = r0 ∧ w = w0
        · rw [if_pos d, if_pos d]
          obtain ⟨rfl, rfl⟩ := d
          subst f6
          rfl
        · rw [if_neg d, if_neg d]
      | false =>
        rw [if_neg (by decide)]
        by_cases d : r = r0 ∧ w = w0
        · rw [if_pos d]
          subst f6
          rfl
        · rw [if_neg d]
    by_cases f45 : fn = 4 ∨ fn = 5
    · unfold mtT mxT mxO ccB
      rw [if_neg f6, if_pos f45, if_pos f45, if_pos f45, bT, bO, aw]
      have cl : ∀ c : CS, clO fn c o tm v (M.2.1 o) (M.2.2.1 o) = if chsB fn c.1 tm c.2.2.1 o c.2.2.2 = true then (true, v, tm, o) else c := fun c => by
        unfold clO
        rw [if_neg (by rcases f45 with e | e <;> rw [e] <;> decide), if_neg (by rcases f45 with e | e <;> rw [e] <;> decide), if_neg (by rcases f45 with e | e <;> rw [e] <;> decide), if_neg (by rcases f45 with e | e <;> rw [e] <;> decide), if_neg f6]
      rw [cl]
      by_cases d : r = r0 ∧ w = w0
      · rw [if_pos d]
        obtain ⟨rfl, rfl⟩ := d
        show _ = if chsB fn (hasB (M.1.th r) w) tm (M.2.2.2.1 (r * M.1.wi + w)) o (M.2.2.2.2 (r * M.1.wi + w)) = true then _ else _
        cases g : chsB fn (hasB (M.1.th r) w) tm (M.2.2.2.1 (r * M.1.wi + w)) o (M.2.2.2.2 (r * M.1.wi + w)) with
        | true =>
          rw [if_pos rfl, if_pos rfl, if_pos rfl, if_pos rfl, pt_cs h64' hw' hw0', if_pos ⟨rfl, rfl⟩, va_up_self, va_up_self]
        | false =>
          rw [if_neg (by decide), if_neg (by decide), if_neg (by decide), if_neg (by decide)]
      · rw [if_neg d]
        have ne := ix_ne hw' hw0' d
        cases g : chsB fn (hasB (M.1.th r) w) tm (M.2.2.2.1 (r * M.1.wi + w)) o (M.2.2.2.2 (r * M.1.wi + w)) with
        | true =>
          rw [if_pos rfl, if_pos rfl, if_pos rfl, pt_cs h64' hw' hw0', if_neg d]
          unfold TB.cs
          rw [va_up_ne _ _ (fun e => ne e.symm), va_up_ne _ _ (fun e => ne e.symm)]
        | false =>
          rw [if_neg (by decide), if_neg (by decide), if_neg (by decide)]
    · unfold mxT mxO
      rw [mtT_0 f6 f45, if_neg f45, if_neg f45, bT, bO, pt_cs h64' hw' hw0']
      by_cases d : r = r0 ∧ w = w0
      · rw [if_pos d, if_pos d]
        obtain ⟨rfl, rfl⟩ := d
        have f03 : fn = 0 ∨ fn = 1 ∨ fn = 2 ∨ fn = 3 := by
          rcases hfn with e | e | e | e | e | e | e
          · exact Or.inl e
          · exact Or.inr (Or.inl e)
          · exact Or.inr (Or.inr (Or.inl e))
          · exact Or.inr (Or.inr (Or.inr e))
          · exact absurd (Or.inl e) f45
          · exact absurd (Or.inr e) f45
          · exact absurd e f6
        rcases f03 with e | e | e | e
        · subst e; rfl
        · subst e; rfl
        · subst e; rfl
        · subst e; rfl
      · rw [if_neg d, if_neg d]
end MC
end
section
/-! Points met by the reference, at one cell. -/
def rkC (g : rkT) (t r w : Nat) : CS := (g.1 ((t * 256 + r) * 64 + w), g.2.1 ((t * 256 + r) * 64 + w), g.2.2.1 (r * 64 + w), g.2.2.2.1 (r * 64 + w))
def gaC (g : gaT) (t r w : Nat) : CS := (g.1 ((t * 256 + r) * 64 + w), g.2.1 ((t * 256 + r) * 64 + w), g.2.2.1 (r * 64 + w), g.2.2.2 (r * 64 + w))
def MS.xC (x : MS) (t r w : Nat) : CS := (x.isCell ((t * 256 + r) * 64 + w), x.cells ((t * 256 + r) * 64 + w), x.keyTimes (r * 64 + w), x.keySeries (r * 64 + w))
theorem gLe_m (b : Bool) (v u : Int64) : gLe b v u = if b = true then minL u v else v := by
  unfold gLe minL
  cases b with
  | false => rfl
  | true =>
    rw [if_neg (by decide), if_pos rfl]
    by_cases c : u ≤ v
    · rw [if_pos c, if_neg (Int64.not_lt.mpr c)]
    · rw [if_neg c, if_pos (Int64.not_le.mp c)]
theorem gMo_m (b : Bool) (v u : Int64) : gMo b v u = if b = true then maxL u v else v := by
  unfold gMo maxL
  cases b with
  | false => rfl
  | true =>
    rw [if_neg (by decide), if_pos rfl]
    by_cases c : v < u
    · rw [if_pos (Int64.le_of_lt c), if_pos c]
    · rw [if_neg c]
      by_cases d : v ≤ u
      · rw [if_pos d]
        exact Int64.le_antisymm (Int64.not_lt.mp c) d
      · rw [if_neg d]
theorem nle_lt (a b : Nat) : (!decide (a ≤ b)) = decide (b < a) := by
  by_cases c : a ≤ b
  · rw [decide_eq_true c, decide_eq_false (by omega)]; rfl
  · rw [decide_eq_false c, decide_eq_true (by omega)]; rfl
section GA
variable {x : MS} {t q r w r0 w0 wh : Nat}
theorem ga_c (hwh : wh < 7) (hw : w < 64) (hw0 : w0 < 64) : gaC (x.ga t wh q r w) t r0 w0 = if r = r0 ∧ w = w0 then clO (nI wh) (x.xC t r0 w0) (x.pointSeries q) (x.pointTimes q) (x.pointValues q) (x.hasBefore (x.pointSeries q)) (x.befores (x.pointSeries q)) else x.xC t r0 w0 := by
  by_cases d : r = r0 ∧ w = w0
  · obtain ⟨rfl, rfl⟩ := d
    rw [if_pos ⟨rfl, rfl⟩]
    rcases (show wh = 0 ∨ wh = 1 ∨ wh = 2 ∨ wh = 3 ∨ wh = 4 ∨ wh = 5 ∨ wh = 6 by omega) with rfl | rfl | rfl | rfl | rfl | rfl | rfl
    · rw [ga_0]
      unfold gaC
      dsimp only
      rw [va_up_self, va_up_self]
      rfl
    · rw [ga_1]
      unfold gaC
      dsimp only
      rw [va_up_self, va_up_self]
      rfl
    · rw [ga_2]
      unfold gaC
      dsimp only
      rw [va_up_self, va_up_self, gLe_m]
      rfl
    · rw [ga_3]
      unfold gaC
      dsimp only
      rw [va_up_self, va_up_self, gMo_m]
      rfl
    · have e : x.gSo ((t * 256 + r) * 64 + w) (r * 64 + w) (x.pointSeries q) (x.pointTimes q) = chsB 4 (x.xC t r w).1 (x.pointTimes q) (x.xC t r w).2.2.1 (x.pointSeries q) (x.xC t r w).2.2.2 := by
        unfold MS.gSo
        rw [nle_lt]
        rfl
      show _ = if chsB 4 (x.xC t r w).1 (x.pointTimes q) (x.xC t r w).2.2.1 (x.pointSeries q) (x.xC t r w).2.2.2 = true then (true, x.pointValues q, x.pointTimes q, x.pointSeries q) else x.xC t r w
      rw [← e]
      cases g : x.gSo ((t * 256 + r) * 64 + w) (r * 64 + w) (x.pointSeries q) (x.pointTimes q) with
      | true =>
        rw [ga_4 g, if_pos rfl]
        unfold gaC
        dsimp only
        rw [va_up_self, va_up_self, va_up_self, va_up_self]
      | false =>
        rw [ga_4n g, if_neg (by decide)]
        unfold gaC MS.xC
        dsimp only
        rw [va_up_self]
        unfold MS.gSo at g
        rw [Bool.or_eq_false_iff] at g
        rw [show x.isCell ((t * 256 + r) * 64 + w) = true by
          have := g.1
          cases h : x.isCell ((t * 256 + r) * 64 + w) with
          | true => rfl
          | false => rw [h] at this; cases this]
    · have e : x.gLa ((t * 256 + r) * 64 + w) (r * 64 + w) (x.pointSeries q) (x.pointTimes q) = chsB 5 (x.xC t r w).1 (x.pointTimes q) (x.xC t r w).2.2.1 (x.pointSeries q) (x.xC t r w).2.2.2 := by
        unfold MS.gLa
        rw [nle_lt]
        rfl
      show _ = if chsB 5 (x.xC t r w).1 (x.pointTimes q) (x.xC t r w).2.2.1 (x.pointSeries q) (x.xC t r w).2.2.2 = true then (true, x.pointValues q, x.pointTimes q, x.pointSeries q) else x.xC t r w
      rw [← e]
      cases g : x.gLa ((t * 256 + r) * 64 + w) (r * 64 + w) (x.pointSeries q) (x.pointTimes q) with
      | true =>
        rw [ga_5 g, if_pos rfl]
        unfold gaC
        dsimp only
        rw [va_up_self, va_up_self, va_up_self, va_up_self]
      | false =>
        rw [ga_5n g, if_neg (by decide)]
        unfold gaC MS.xC
        dsimp only
        rw [va_up_self]
        unfold MS.gLa at g
        rw [Bool.or_eq_false_iff] at g
        rw [show x.isCell ((t * 256 + r) * 64 + w) = true by
          have := g.1
          cases h : x.isCell ((t * 256 + r) * 64 + w) with
          | true => rfl
          | false => rw [h] at this; cases this]
    · show _ = if x.hasBefore (x.pointSeries q) = true then (true, (x.xC t r w).2.1 + (if x.pointValues q < x.befores (x.pointSeries q) then x.pointValues q else x.pointValues q - x.befores (x.pointSeries q)), (x.xC t r w).2.2) else x.xC t r w
      cases g : x.hasBefore (x.pointSeries q) with
      | true =>
        rw [ga_6 g, if_pos rfl]
        unfold gaC
        dsimp only
        rw [va_up_self, va_up_self]
        have e : (if x.befores (x.pointSeries q) ≤ x.pointValues q then x.pointValues q - x.befores (x.pointSeries q) else x.pointValues q) = (if x.pointValues q < x.befores (x.pointSeries q) then x.pointValues q else x.pointValues q - x.befores (x.pointSeries q)) := by
          by_cases c : x.befores (x.pointSeries q) ≤ x.pointValues q
          · rw [if_pos c, if_neg (Int64.not_lt.mpr c)]
          · rw [if_neg c, if_pos (Int64.not_le.mp c)]
        rw [← e]
        rfl
      | false =>
        rw [ga_6n g, if_neg (by decide)]
        rfl
  · rw [if_neg d]
    have n1 : ¬ (t * 256 + r0) * 64 + w0 = (t * 256 + r) * 64 + w := fun e => ix_ne (wi := 64) hw0 hw (fun z => d ⟨by omega, z.2.symm⟩) e
    have n2 : ¬ r0 * 64 + w0 = r * 64 + w := fun e => ix_ne (wi := 64) hw0 hw (fun z => d ⟨z.1.symm, z.2.symm⟩) e
    unfold MS.ga
    repeat' split
    all_goals (unfold gaC MS.xC)
    all_goals dsimp only
    all_goals first | rfl | (rw [va_up_ne _ _ n1, va_up_ne _ _ n1, va_up_ne _ _ n2, va_up_ne _ _ n2]) | (rw [va_up_ne _ _ n1, va_up_ne _ _ n1]) | (rw [va_up_ne _ _ n1])
end GA
/-- the window of a time: the two ways -/
theorem wo_w {fr wd tm : Int64} {n : Nat} (hn : n ≤ 64) (h0 : 0 ≤ fr) (h1 : tm ≤ 1099511627775) (h2 : fr ≤ 1099511627775) (h3 : 0 ≤ tm) (hd : 1 ≤ wd) : (woA fr wd n tm = -1 ↔ ¬ ((!decide (tm - fr < 0) && !decide (lN n ≤ (tm - fr) / wd)) = true)) ∧ (¬ woA fr wd n tm = -1 → i2n (woA fr wd n tm) = wN (tm - fr) wd ∧ wN (tm - fr) wd < n) := by
  have a1 : (0 : Int) ≤ fr.toInt := by have := Int64.le_iff_toInt_le.mp h0; simpa using this
  have a2 : tm.toInt ≤ 1099511627775 := by have := Int64.le_iff_toInt_le.mp h1; simpa using this
  have a3 : fr.toInt ≤ 1099511627775 := by have := Int64.le_iff_toInt_le.mp h2; simpa using this
  have a4 : (0 : Int) ≤ tm.toInt := by have := Int64.le_iff_toInt_le.mp h3; simpa using this
  have s1 : (tm - fr).toInt = tm.toInt - fr.toInt := by
    rw [Int64.toInt_sub]
    exact Int.bmod_eq_of_le (by omega) (by omega)
  have e1 : tm - fr < 0 ↔ tm < fr := by
    rw [Int64.lt_iff_toInt_lt, Int64.lt_iff_toInt_lt, s1]
    show tm.toInt - fr.toInt < 0 ↔ _
    omega
  unfold woA
  by_cases a : tm < fr
  · rw [if_pos a, decide_eq_true (e1.mpr a), Bool.not_true, Bool.false_and]
    exact ⟨⟨fun _ => by decide, fun _ => rfl⟩, fun z => absurd rfl z⟩
  · rw [if_neg a, if_pos hd, decide_eq_false (fun z => a (e1.mp z))]
    have nn : (0 : Int64) ≤ tm - fr := Int64.not_lt.mp (fun z => a (e1.mp z))
    by_cases c : lN n ≤ (tm - fr) / wd
    · rw [if_pos c, decide_eq_true c]
      exact ⟨⟨fun _ => by decide, fun _ => rfl⟩, fun z => absurd rfl z⟩
    · rw [if_neg c, decide_eq_false c]
      have lt := wN_lt nn hd hn (Int64.not_le.mp c)
      have ew : (tm - fr) / wd = lN (wN (tm - fr) wd) := wN_eq nn hd
      have e3 : ((tm - fr) / wd).toInt32 = nI (wN (tm - fr) wd) := by
        rw [ew]
        generalize wN (tm - fr) wd = k at lt
        have : ∀ k : Nat, k < 64 → (lN k).toInt32 = nI k := by decide +kernel
        exact this k (by omega)
      rw [e3]
      have ne : ¬ nI (wN (tm - fr) wd) = -1 := nI_nm (by omega)
      exact ⟨⟨fun z => absurd z ne, fun z => absurd (by decide) z⟩, fun _ => ⟨i2n_of (by omega), lt⟩⟩
end
section
/-! All points met: the two ways, at one cell. -/
def gQ (x : MS) (q : Nat) : Bool := x.seen q && !decide (x.rowOf (x.pointSeries q) = -1)
def wQ (x : MS) (r0 w0 q : Nat) : Bool := decide (¬ woA x.windowsFrom x.width x.windows (x.pointTimes q) = -1 ∧ i2n (x.rowOf (x.pointSeries q)) = r0 ∧ i2n (woA x.windowsFrom x.width x.windows (x.pointTimes q)) = w0)
def opQ (x : MS) (wh r0 w0 : Nat) : CT → Nat → CT := ctO (nI wh) x.pointSeries x.pointTimes x.pointValues (gQ x) (wQ x r0 w0)
/-- what the windows want -/
def wiK (x : MS) : Prop := x.windows ≤ 64 ∧ 1 ≤ x.width ∧ 0 ≤ x.windowsFrom ∧ x.windowsFrom ≤ 1099511627775
section RF
variable {x : MS} {t wh r0 w0 : Nat}
theorem opQ_n {c : CT} {q : Nat} (h : gQ x q = false) : opQ x wh r0 w0 c q = c := if_neg (by rw [h]; decide)
theorem opQ_y {c : CT} {q : Nat} (h : gQ x q = true) : opQ x wh r0 w0 c q = ((if wQ x r0 w0 q = true then clO (nI wh) c.1 (x.pointSeries q) (x.pointTimes q) (x.pointValues q) (c.2.1 (x.pointSeries q)) (c.2.2 (x.pointSeries q)) else c.1), va_up c.2.1 (x.pointSeries q) true, va_up c.2.2 (x.pointSeries q) (x.pointValues q)) := if_pos h
theorem rk_f (hwh : wh < 7) (hw0 : w0 < 64) (hk : wiK x) (hro : ∀ s, s < x.seriesCount → x.rowOf s = -1 ∨ ∃ r, r < 256 ∧ x.rowOf s = nI r) (hse : ∀ q, q < x.points → x.seen q = true → x.pointSeries q < x.seriesCount) (hti : ∀ q, q < x.points → ¬ x.pointTimes q < 0 ∧ ¬ 1099511627775 < x.pointTimes q) : ∀ q, q ≤ x.points → rkC (x.rkG t wh q) t r0 w0 = ((List.range q).foldl (opQ x wh r0 w0) (x.xC t r0 w0, x.hasBefore, x.befores)).1 ∧ ∀ s, s < x.seriesCount → ¬ x.rowOf s = -1 → (x.rkG t wh q).2.2.2.2.2 s = ((List.range q).foldl (opQ x wh r0 w0) (x.xC t r0 w0, x.hasBefore, x.befores)).2.1 s ∧ (x.rkG t wh q).2.2.2.2.1 s = ((List.range q).foldl (opQ x wh r0 w0) (x.xC t r0 w0, x.hasBefore, x.befores)).2.2 s
  | 0, _ => ⟨rfl, fun s _ _ => ⟨rfl, rfl⟩⟩
  | q + 1, hq => by
    obtain ⟨i1, i2⟩ := rk_f hwh hw0 hk hro hse hti q (by omega)
    rw [List.range_succ, List.foldl_append]
    show rkC (x.rkG t wh (q + 1)) t r0 w0 = (opQ x wh r0 w0 ((List.range q).foldl (opQ x wh r0 w0) (x.xC t r0 w0, x.hasBefore, x.befores)) q).1 ∧ ∀ s, s < x.seriesCount → ¬ x.rowOf s = -1 → (x.rkG t wh (q + 1)).2.2.2.2.2 s = (opQ x wh r0 w0 ((List.range q).foldl (opQ x wh r0 w0) (x.xC t r0 w0, x.hasBefore, x.befores)) q).2.1 s ∧ (x.rkG t wh (q + 1)).2.2.2.2.1 s = (opQ x wh r0 w0 ((List.range q).foldl (opQ x wh r0 w0) (x.xC t r0 w0, x.hasBefore, x.befores)) q).2.2 s
    generalize (List.range q).foldl (opQ x wh r0 w0) (x.xC t r0 w0, x.hasBefore, x.befores) = c at i1 i2
    obtain ⟨G, eG⟩ : ∃ G, x.rkG t wh q = G := ⟨_, rfl⟩
    rw [eG] at i1 i2
    cases sn : x.seen q with
    | false =>
      rw [rk_n eG (Or.inl sn), opQ_n (by unfold gQ; rw [sn]; rfl)]
      exact ⟨i1, i2⟩
    | true =>
      have hs := hse q (by omega) sn
      obtain ⟨A, eA⟩ : ∃ A, x.rkA t wh q G = A := ⟨_, rfl⟩
      rw [rk_y eG sn (by omega) eA]
      rcases hro _ hs with e | ⟨r, hr, e⟩
      · rw [opQ_n (by unfold gQ; rw [decide_eq_true e, Bool.not_true, Bool.and_false])]
        have nw : x.inW q = false := by
          unfold MS.inW
          rw [e, decide_eq_true (show (-1 : Int32) < 0 by decide)]
          rfl
        have ea : A = (G.1, G.2.1, G.2.2.1, G.2.2.2.1) := eA.symm.trans (if_neg (by rw [nw]; decide))
        rw [ea]
        refine ⟨i1, fun s h1 h2 => ?_⟩
        have ne : ¬ s = x.pointSeries q := fun z => h2 (by rw [z]; exact e)
        show va_up G.2.2.2.2.2 (x.pointSeries q) true s = _ ∧ va_up G.2.2.2.2.1 (x.pointSeries q) (x.pointValues q) s = _
        rw [va_up_ne _ _ ne, va_up_ne _ _ ne]
        exact i2 s h1 h2
      · have nm : ¬ x.rowOf (x.pointSeries q) = -1 := by rw [e]; exact nI_nm (by omega)
        rw [opQ_y (by unfold gQ; rw [sn, decide_eq_false nm]; rfl)]
        obtain ⟨b1, b2⟩ := i2 _ hs nm
        obtain ⟨k1, k2, k3, k4⟩ := hk
        obtain ⟨t1, t2⟩ := hti q (by omega)
        obtain ⟨w1, w2⟩ := wo_w (n := x.windows) k1 k3 (Int64.not_lt.mp t2) k4 (Int64.not_lt.mp t1) k2
        refine ⟨?_, fun s h1 h2 => ?_⟩
        · show gaC A t r0 w0 = if wQ x r0 w0 q = true then _ else _
          have iw : x.inW q = (!decide (x.pointTimes q - x.windowsFrom < 0) && !decide (lN x.windows ≤ (x.pointTimes q - x.windowsFrom) / x.width)) := by
            unfold MS.inW
            rw [e, decide_eq_false (nI_nn (by omega))]
            rfl
          by_cases c1 : woA x.windowsFrom x.width x.windows (x.pointTimes q) = -1
          · have nw : x.inW q = false := by
              rw [iw]
              exact Bool.not_eq_true _ ▸ (w1.mp c1)
            have ea : A = (G.1, G.2.1, G.2.2.1, G.2.2.2.1) := eA.symm.trans (if_neg (by rw [nw]; decide))
            rw [ea, if_neg (fun z => (of_decide_eq_true z).1 c1)]
            exact i1
          · have yw : x.inW q = true := by
              rw [iw]
              exact Classical.not_not.mp (fun z => c1 (w1.mpr z))
            obtain ⟨w3, w4⟩ := w2 c1
            have ea : A = (x.pt G).ga t wh q (i2n (x.rowOf (x.pointSeries q))) (wN (x.pointTimes q - x.windowsFrom) x.width) := eA.symm.trans (if_pos yw)
            rw [ea, ga_c hwh (by omega) hw0]
            have e1 : (x.pt G).xC t r0 w0 = c.1 := i1
            have e2 : (x.pt G).hasBefore ((x.pt G).pointSeries q) = c.2.1 (x.pointSeries q) := b1
            have e3 : (x.pt G).befores ((x.pt G).pointSeries q) = c.2.2 (x.pointSeries q) := b2
            rw [e1, e2, e3]
            have ec : (i2n (x.rowOf (x.pointSeries q)) = r0 ∧ wN (x.pointTimes q - x.windowsFrom) x.width = w0) ↔ wQ x r0 w0 q = true := by
              unfold wQ
              rw [decide_eq_true_eq, w3]
              exact ⟨fun z => ⟨c1, z⟩, fun z => z.2⟩
            exact if_cg ec rfl rfl
        · show va_up G.2.2.2.2.2 (x.pointSeries q) true s = va_up c.2.1 (x.pointSeries q) true s ∧ va_up G.2.2.2.2.1 (x.pointSeries q) (x.pointValues q) s = va_up c.2.2 (x.pointSeries q) (x.pointValues q) s
          by_cases ne : s = x.pointSeries q
          · rw [ne, va_up_self, va_up_self, va_up_self, va_up_self]
            exact ⟨rfl, rfl⟩
          · rw [va_up_ne _ _ ne, va_up_ne _ _ ne, va_up_ne _ _ ne, va_up_ne _ _ ne]
            exact i2 s h1 h2
end RF
end
section
/-! All points met by the class, at one cell: in the order of the parcels. -/
def cvT (M : MM) (r0 w0 : Nat) : CT := (M.1.cs M.2.2.2.1 M.2.2.2.2 r0 w0, M.2.1, M.2.2.1)
/-- the class's windows and rows are the reference's -/
def awR (m : MS) (x : VS) : Prop := x.afr = m.windowsFrom ∧ x.awd = m.width ∧ x.awi = m.windows ∧ ∀ s, s < m.seriesCount → x.aro s = m.rowOf s
section CF2
variable {m : MS} {x : VS} {PS : Nat → PT} {dn : Nat → Nat} {wh r0 w0 : Nat}
/-- one point -/
theorem mm_1 (hfn : isFn (nI wh)) (ha : awR m x) (hk : wiK m) (hw0 : w0 < m.windows) {M : MM} (hM : M.1.wi = x.awi) {q : Nat} (hs : m.pointSeries q < m.seriesCount) (ht : ¬ 1099511627775 < m.pointTimes q) (hg : gQ m q = true) : cvT (mm1 (nI wh) x M (m.pointSeries q) (m.pointTimes q) (m.pointValues q)) r0 w0 = opQ m wh r0 w0 (cvT M r0 w0) q ∧ (mm1 (nI wh) x M (m.pointSeries q) (m.pointTimes q) (m.pointValues q)).1.wi = x.awi := by
  obtain ⟨a1, a2, a3, a4⟩ := ha
  have hk' : wOk x.afr x.awd x.awi (m.pointTimes q) := by
    rw [a1, a3]
    exact wOk_of hk.1 hk.2.2.1 (Int64.not_lt.mp ht)
  obtain ⟨c1, c2⟩ := mm1_c (fn := nI wh) (x := x) (M := M) (o := m.pointSeries q) (tm := m.pointTimes q) (v := m.pointValues q) (r0 := r0) (w0 := w0) hfn hM (by rw [a3]; exact hk.1) (by rw [a3]; exact hw0) hk'
  refine ⟨?_, c2⟩
  rw [opQ_y hg]
  unfold cvT
  rw [c1, a1, a2, a3, a4 _ hs]
  refine Prod.ext ?_ rfl
  refine if_cg ?_ rfl rfl
  unfold wQ
  rw [decide_eq_true_eq]
section PC
/-- the points of one series in a parcel -/
theorem mmP_w (hfn : isFn (nI wh)) (h : ptR m x PS dn) (ha : awR m x) (hk : wiK m) (hw0 : w0 < m.windows) {k : Nat} (hkp : k < x.npc) {M : MM} {w : Nat} : ∀ q, q ≤ m.points → (mmP (nI wh) x (PS k) M (cnt m.points (arL m.pointSeries (m.inpc k) w))).1.wi = x.awi → cvT (mmP (nI wh) x (PS k) M (cnt m.points (arL m.pointSeries (m.inpc k) w) + cnt q (arS m.pointSeries (m.inpc k) w))) r0 w0 = ((List.range q).filter (arS m.pointSeries (m.inpc k) w)).foldl (opQ m wh r0 w0) (cvT (mmP (nI wh) x (PS k) M (cnt m.points (arL m.pointSeries (m.inpc k) w))) r0 w0) ∧ (mmP (nI wh) x (PS k) M (cnt m.points (arL m.pointSeries (m.inpc k) w) + cnt q (arS m.pointSeries (m.inpc k) w))).1.wi = x.awi
  | 0, _, hM => ⟨rfl, hM⟩
  | q + 1, hq, hM => by
    obtain ⟨i1, i2⟩ := mmP_w hfn h ha hk hw0 hkp (M := M) (w := w) q (by omega) hM
    rw [List.range_succ, List.filter_append, List.foldl_append, ← i1]
    have ec : cnt (q + 1) (arS m.pointSeries (m.inpc k) w) = cnt q (arS m.pointSeries (m.inpc k) w) + (if arS m.pointSeries (m.inpc k) w q then 1 else 0) := rfl
    rw [ec]
    cases c : arS m.pointSeries (m.inpc k) w q with
    | false =>
      rw [show [q].filter (arS m.pointSeries (m.inpc k) w) = [] from List.filter_cons_of_neg (by rw [c]; decide)]
      exact ⟨rfl, i2⟩
    | true =>
      rw [show [q].filter (arS m.pointSeries (m.inpc k) w) = [q] from List.filter_cons_of_pos c]
      obtain ⟨c1, c2⟩ := arS_t.mp c
      have ep : arP m.pointSeries (m.inpc k) m.points q = cnt m.points (arL m.pointSeries (m.inpc k) w) + cnt q (arS m.pointSeries (m.inpc k) w) := by
        unfold arP
        rw [c2]
      obtain ⟨o1, o2, o3⟩ := (h.1.2.2.2 k hkp).1.2 q (by omega) c1
      have se := see_eq h hkp (show q < m.points by omega) c1
      rw [ep] at o1 o2 o3 se
      have hs := in_se h hkp (show q < m.points by omega) c1
      have ar := ha.2.2.2 _ hs
      show cvT (mmP (nI wh) x (PS k) M (cnt m.points (arL m.pointSeries (m.inpc k) w) + cnt q (arS m.pointSeries (m.inpc k) w) + 1)) r0 w0 = opQ m wh r0 w0 (cvT (mmP (nI wh) x (PS k) M (cnt m.points (arL m.pointSeries (m.inpc k) w) + cnt q (arS m.pointSeries (m.inpc k) w))) r0 w0) q ∧ (mmP (nI wh) x (PS k) M (cnt m.points (arL m.pointSeries (m.inpc k) w) + cnt q (arS m.pointSeries (m.inpc k) w) + 1)).1.wi = x.awi
      cases g : gQ m q with
      | true =>
        have g' := g
        unfold gQ at g'
        rw [Bool.and_eq_true] at g'
        have na : ¬ m.rowOf (m.pointSeries q) = -1 := fun z => by
          have := g'.2
          rw [decide_eq_true z] at this
          cases this
        rw [mmP_t (by rw [o1, ar]; exact na) (by rw [se]; exact g'.1), o1, o2, o3]
        exact mm_1 hfn ha hk hw0 i2 hs (h.2.2.2.2.2 q (by omega)).2 g
      | false =>
        rw [mmP_f (by
          unfold gQ at g
          rw [Bool.and_eq_false_iff] at g
          rcases g with g | g
          · exact Or.inr (by rw [se]; exact g)
          · refine Or.inl ?_
            rw [o1, ar]
            cases d : decide (m.rowOf (m.pointSeries q) = -1) with
            | true => exact of_decide_eq_true d
            | false => rw [d] at g; cases g), opQ_n g]
        exact ⟨rfl, i2⟩
/-- a parcel -/
theorem mmP_l (hfn : isFn (nI wh)) (h : ptR m x PS dn) (ha : awR m x) (hk : wiK m) (hw0 : w0 < m.windows) {k : Nat} (hkp : k < x.npc) {M : MM} (hM : M.1.wi = x.awi) : ∀ w, cvT (mmP (nI wh) x (PS k) M (cnt m.points (arL m.pointSeries (m.inpc k) w))) r0 w0 = ((List.range w).flatMap (fun w => (List.range m.points).filter (arS m.pointSeries (m.inpc k) w))).foldl (opQ m wh r0 w0) (cvT M r0 w0) ∧ (mmP (nI wh) x (PS k) M (cnt m.points (arL m.pointSeries (m.inpc k) w))).1.wi = x.awi
  | 0 => by
    rw [arL_0]
    exact ⟨rfl, hM⟩
  | w + 1 => by
    obtain ⟨i1, i2⟩ := mmP_l hfn h ha hk hw0 hkp hM w
    obtain ⟨j1, j2⟩ := mmP_w hfn h ha hk hw0 (r0 := r0) hkp (M := M) (w := w) m.points (Nat.le_refl _) i2
    rw [List.range_succ, List.flatMap_append, List.foldl_append, ← i1, arL_s]
    refine ⟨?_, j2⟩
    rw [j1, List.flatMap_singleton]
/-- the points of parcel k, series by series -/
theorem mmK_l (hfn : isFn (nI wh)) (h : ptR m x PS dn) (ha : awR m x) (hk : wiK m) (hw0 : w0 < m.windows) {M : MM} (hM : M.1.wi = x.awi) : ∀ k, k ≤ x.npc → cvT (mmK (nI wh) x PS M k) r0 w0 = ((List.range k).flatMap (fun k => (List.range m.seriesCount).flatMap (fun w => (List.range m.points).filter (arS m.pointSeries (m.inpc k) w)))).foldl (opQ m wh r0 w0) (cvT M r0 w0) ∧ (mmK (nI wh) x PS M k).1.wi = x.awi
  | 0, _ => ⟨rfl, hM⟩
  | k + 1, hkn => by
    obtain ⟨i1, i2⟩ := mmK_l hfn h ha hk hw0 hM k (by omega)
    obtain ⟨j1, j2⟩ := mmP_l hfn h ha hk hw0 (r0 := r0) (show k < x.npc by omega) i2 m.seriesCount
    have en : (PS k).n = cnt m.points (arL m.pointSeries (m.inpc k) m.seriesCount) := by
      rw [arL_all (fun q hq hc => in_se h (show k < x.npc by omega) hq hc)]
      exact (h.1.2.2.2 k (by omega)).1.1
    rw [List.range_succ, List.flatMap_append, List.foldl_append, ← i1]
    show cvT (mmP (nI wh) x (PS k) (mmK (nI wh) x PS M k) (PS k).n) r0 w0 = _ ∧ (mmP (nI wh) x (PS k) (mmK (nI wh) x PS M k) (PS k).n).1.wi = x.awi
    rw [en, List.flatMap_singleton]
    exact ⟨j1, j2⟩
/-- the head -/
theorem mmH_l (hfn : isFn (nI wh)) (h : ptR m x PS dn) (ha : awR m x) (hk : wiK m) (hw0 : w0 < m.windows) {M : MM} (hM : M.1.wi = x.awi) : ∀ q, q ≤ m.points → cvT (mmH (nI wh) x M (cnt q m.hdd)) r0 w0 = ((List.range q).filter m.hdd).foldl (opQ m wh r0 w0) (cvT M r0 w0) ∧ (mmH (nI wh) x M (cnt q m.hdd)).1.wi = x.awi
  | 0, _ => ⟨rfl, hM⟩
  | q + 1, hq => by
    obtain ⟨i1, i2⟩ := mmH_l hfn h ha hk hw0 hM q (by omega)
    rw [List.range_succ, List.filter_append, List.foldl_append, ← i1]
    have ec : cnt (q + 1) m.hdd = cnt q m.hdd + (if m.hdd q then 1 else 0) := rfl
    rw [ec]
    cases c : m.hdd q with
    | false =>
      rw [show [q].filter m.hdd = [] from List.filter_cons_of_neg (by rw [c]; decide)]
      exact ⟨rfl, i2⟩
    | true =>
      rw [show [q].filter m.hdd = [q] from List.filter_cons_of_pos c]
      obtain ⟨o1, o2, o3⟩ := h.1.1.2 q (by omega) c
      have sn := hd_seen h (show q < m.points by omega) c
      have np : ¬ m.places q = -2 := by
        have : m.places q = -1 := of_decide_eq_true c
        rw [this]
        decide
      have hs := (h.2.2.2.2.1.2.1 q (by omega) np).1
      have ar := ha.2.2.2 _ hs
      show cvT (mmH (nI wh) x M (cnt q m.hdd + 1)) r0 w0 = opQ m wh r0 w0 (cvT (mmH (nI wh) x M (cnt q m.hdd)) r0 w0) q ∧ (mmH (nI wh) x M (cnt q m.hdd + 1)).1.wi = x.awi
      by_cases na : m.rowOf (m.pointSeries q) = -1
      · have g : gQ m q = false := by unfold gQ; rw [decide_eq_true na, Bool.not_true, Bool.and_false]
        rw [mmH_f (by rw [o1, ar]; exact na), opQ_n g]
        exact ⟨rfl, i2⟩
      · have g : gQ m q = true := by unfold gQ; rw [sn, decide_eq_false na]; rfl
        rw [mmH_t (by rw [o1, ar]; exact na), o1, o2, o3]
        exact mm_1 hfn ha hk hw0 i2 hs (h.2.2.2.2.2 q (by omega)).2 g
end PC
end CF2
end
section
/-! All points met: the same cell by both ways. -/
section LS
variable {se : Nat → Nat} {N : Nat}
theorem fm_s {c : Nat → Bool} {s : Nat} : ∀ W, ((List.range W).flatMap (fun w => (List.range N).filter (arS se c w))).filter (fun q => decide (se q = s)) = if s < W then (List.range N).filter (arS se c s) else []
  | 0 => by rw [if_neg (Nat.not_lt_zero s)]; rfl
  | W + 1 => by
    have ih := fm_s (c := c) (s := s) W
    rw [List.range_succ, List.flatMap_append, List.filter_append, ih, List.flatMap_singleton, List.filter_filter]
    by_cases e : W = s
    · subst e
      rw [if_neg (Nat.lt_irrefl W), if_pos (Nat.lt_succ_self W), List.nil_append]
      refine List.filter_congr (fun q _ => ?_)
      unfold arS
      cases decide (se q = W) with
      | true => rw [Bool.true_and]
      | false => rw [Bool.and_false, Bool.false_and]
    · have e1 : (List.range N).filter (fun q => decide (se q = s) && arS se c W q) = [] := List.filter_eq_nil_iff.mpr (fun q _ z => by
        rw [Bool.and_eq_true, arS_t] at z
        exact e (z.2.2.symm.trans (of_decide_eq_true z.1)))
      rw [e1, List.append_nil]
      by_cases g : s < W
      · rw [if_pos g, if_pos (by omega)]
      · rw [if_neg g, if_neg (by omega)]
theorem fm_S {c : Nat → Bool} {s W : Nat} (hW : ∀ q, q < N → c q = true → se q < W) : ((List.range W).flatMap (fun w => (List.range N).filter (arS se c w))).filter (fun q => decide (se q = s)) = (List.range N).filter (fun q => c q && decide (se q = s)) := by
  rw [fm_s]
  split
  · rfl
  · rename_i g
    refine (List.filter_eq_nil_iff.mpr (fun q hq z => ?_)).symm
    rw [Bool.and_eq_true] at z
    have := hW q (List.mem_range.mp hq) z.1
    have := of_decide_eq_true z.2
    omega
end LS
section AM
variable {m : MS} {x : VS} {PS : Nat → PT} {dn : Nat → Nat}
/-- the class's order of points -/
def lvQ (m : MS) (x : VS) : List Nat := (List.range x.npc).flatMap (fun k => (List.range m.seriesCount).flatMap (fun w => (List.range m.points).filter (arS m.pointSeries (m.inpc k) w))) ++ (List.range m.points).filter m.hdd
theorem pc_U (h : ptR m x PS dn) (s : Nat) : ∀ k, k ≤ x.npc → (List.range k).flatMap (fun k => (List.range m.points).filter (fun q => m.inpc k q && decide (m.pointSeries q = s))) = (List.range m.points).filter (fun q => anyB k (fun k => m.inpc k q) && decide (m.pointSeries q = s))
  | 0, _ => (List.filter_eq_nil_iff.mpr (fun q _ z => by cases z)).symm
  | k + 1, hk => by
    rw [List.range_succ, List.flatMap_append, List.flatMap_singleton, pc_U h s k (by omega), flt_or]
    · refine List.filter_congr (fun q _ => ?_)
      rw [anyB_s, ← Bool.and_or_distrib_right]
    · intro p r hp hr a b
      rw [Bool.and_eq_true] at a b
      obtain ⟨j, j1, j2⟩ := anyB_iff.mp a.1
      exact h.2.2.2.1.1 j k p r j1 (by omega) hp hr j2 b.1
theorem seen_U (h : ptR m x PS dn) {q : Nat} (hq : q < m.points) (hs : m.seen q = true) : (anyB x.npc (fun k => m.inpc k q) || m.hdd q) = true := by
  have np : ¬ m.places q = -2 := fun e => by
    unfold MS.seen at hs
    rw [e, decide_eq_true (by decide)] at hs
    revert hs
    simp
  rcases h.2.2.1.1 q hq with e | e | ⟨k, hk, e⟩
  · exact absurd e np
  · rw [show m.hdd q = true from decide_eq_true e, Bool.or_true]
  · rw [anyB_iff.mpr ⟨k, hk, decide_eq_true e⟩, Bool.true_or]
theorem lv_s (h : ptR m x PS dn) (s : Nat) : (lvQ m x).filter (fun q => decide (m.pointSeries q = s)) = (List.range m.points).filter (fun q => (anyB x.npc (fun k => m.inpc k q) || m.hdd q) && decide (m.pointSeries q = s)) := by
  unfold lvQ
  rw [List.filter_append, List.filter_flatMap]
  have e1 : (List.range x.npc).flatMap (fun k => ((List.range m.seriesCount).flatMap (fun w => (List.range m.points).filter (arS m.pointSeries (m.inpc k) w))).filter (fun q => decide (m.pointSeries q = s))) = (List.range x.npc).flatMap (fun k => (List.range m.points).filter (fun q => m.inpc k q && decide (m.pointSeries q = s))) := by
    have : ∀ L : List Nat, (∀ k, k ∈ L → k < x.npc) → L.flatMap (fun k => ((List.range m.seriesCount).flatMap (fun w => (List.range m.points).filter (arS m.pointSeries (m.inpc k) w))).filter (fun q => decide (m.pointSeries q = s))) = L.flatMap (fun k => (List.range m.points).filter (fun q => m.inpc k q && decide (m.pointSeries q = s))) := by
      intro L
      induction L with
      | nil => intro _; rfl
      | cons a L ih =>
        intro hL
        rw [List.flatMap_cons, List.flatMap_cons, ih (fun k hk => hL k (List.mem_cons_of_mem _ hk)), fm_S (fun q hq hc => in_se h (hL a (List.mem_cons_self ..)) hq hc)]
    exact this _ (fun k hk => List.mem_range.mp hk)
  rw [e1, pc_U h s x.npc (Nat.le_refl _), List.filter_filter]
  rw [show (List.range m.points).filter (fun q => decide (m.pointSeries q = s) && m.hdd q) = (List.range m.points).filter (fun q => m.hdd q && decide (m.pointSeries q = s)) from List.filter_congr (fun q _ => Bool.and_comm _ _), flt_or]
  · refine List.filter_congr (fun q _ => ?_)
    rw [← Bool.and_or_distrib_right]
  · intro p r hp hr a b
    rw [Bool.and_eq_true] at a b
    obtain ⟨j, j1, j2⟩ := anyB_iff.mp a.1
    exact h.2.2.2.1.2 j p r j1 hp hr j2 b.1
/-- both orders give the same -/
theorem lv_f (h : ptR m x PS dn) {wh r0 w0 : Nat} (c : CT) : (lvQ m x).foldl (opQ m wh r0 w0) c = (List.range m.points).foldl (opQ m wh r0 w0) c := by
  rw [fold_flt (g := gQ m) (fun q st hq => opQ_n hq) (lvQ m x), fold_flt (g := gQ m) (fun q st hq => opQ_n hq) (List.range m.points)]
  refine trc (se := m.pointSeries) (fun a b st hab => ctO_c a b st hab) _ _ c (fun s => ?_)
  rw [List.filter_filter, List.filter_filter]
  have e1 : (lvQ m x).filter (fun q => decide (m.pointSeries q = s) && gQ m q) = ((lvQ m x).filter (fun q => decide (m.pointSeries q = s))).filter (gQ m) := by
    rw [List.filter_filter]
    exact List.filter_congr (fun q _ => Bool.and_comm _ _)
  rw [e1, lv_s h s, List.filter_filter]
  refine List.filter_congr (fun q hq => ?_)
  cases g : gQ m q with
  | false => rw [Bool.false_and, Bool.and_false]
  | true =>
    unfold gQ at g
    rw [Bool.and_eq_true] at g
    rw [seen_U h (List.mem_range.mp hq) g.1, Bool.true_and, Bool.true_and, Bool.and_true]
/-- the same cell, but for the keys of an empty one -/
def csE (fn : Int32) (c c' : CS) : Prop := c.1 = c'.1 ∧ c.2.1 = c'.2.1 ∧ ((fn = 4 ∨ fn = 5) → c.1 = true → c.2.2 = c'.2.2)
theorem clO_E {fn : Int32} (hfn : isFn fn) {c c' : CS} {s : Nat} {t v : Int64} {h h' : Bool} {b b' : Int64} (e : csE fn c c') (eh : h = h') (eb : h = true → b = b') : csE fn (clO fn c s t v h b) (clO fn c' s t v h' b') := by
  subst eh
  obtain ⟨i, u, k⟩ := c
  obtain ⟨i', u', k'⟩ := c'
  obtain ⟨e1, e2, e3⟩ := e
  have e1 : i = i' := e1
  have e2 : u = u' := e2
  have e3 : (fn = 4 ∨ fn = 5) → i = true → k = k' := e3
  subst e1
  subst e2
  have ch : fn = 4 ∨ fn = 5 → csE fn (if chsB fn i t k.1 s k.2 = true then (true, v, t, s) else (i, u, k)) (if chsB fn i t k'.1 s k'.2 = true then (true, v, t, s) else (i, u, k')) := fun f => by
    cases i with
    | false => exact ⟨rfl, rfl, fun _ _ => rfl⟩
    | true =>
      have e3 := e3 f rfl
      subst e3
      exact ⟨rfl, rfl, fun _ _ => rfl⟩
  rcases hfn with f | f | f | f | f | f | f
  · subst f; exact ⟨rfl, rfl, fun z => absurd z (by decide)⟩
  · subst f; exact ⟨rfl, rfl, fun z => absurd z (by decide)⟩
  · subst f; exact ⟨rfl, rfl, fun z => absurd z (by decide)⟩
  · subst f; exact ⟨rfl, rfl, fun z => absurd z (by decide)⟩
  · subst f; exact ch (Or.inl rfl)
  · subst f; exact ch (Or.inr rfl)
  · subst f
    cases h with
    | false => exact ⟨rfl, rfl, fun z => absurd z (by decide)⟩
    | true =>
      rw [eb rfl]
      exact ⟨rfl, rfl, fun z => absurd z (by decide)⟩
def ctE (fn : Int32) (W : Nat) (c c' : CT) : Prop := csE fn c.1 c'.1 ∧ ∀ s, s < W → c.2.1 s = c'.2.1 s ∧ (c.2.1 s = true → c.2.2 s = c'.2.2 s)
theorem op_E {wh r0 w0 : Nat} (hfn : isFn (nI wh)) (hse : ∀ q, q < m.points → m.seen q = true → m.pointSeries q < m.seriesCount) : ∀ (L : List Nat) (c c' : CT), (∀ q, q ∈ L → q < m.points) → ctE (nI wh) m.seriesCount c c' → ctE (nI wh) m.seriesCount (L.foldl (opQ m wh r0 w0) c) (L.foldl (opQ m wh r0 w0) c')
  | [], c, c', _, e => e
  | q :: L, c, c', hL, e => by
    refine op_E hfn hse L _ _ (fun p hp => hL p (List.mem_cons_of_mem _ hp)) ?_
    cases g : gQ m q with
    | false => rw [opQ_n g, opQ_n g]; exact e
    | true =>
      rw [opQ_y g, opQ_y g]
      have g' := g
      unfold gQ at g'
      rw [Bool.and_eq_true] at g'
      have hs := hse q (hL q (List.mem_cons_self ..)) g'.1
      obtain ⟨b1, b2⟩ := e.2 _ hs
      refine ⟨?_, fun s h1 => ?_⟩
      · show csE (nI wh) (if wQ m r0 w0 q = true then _ else c.1) (if wQ m r0 w0 q = true then _ else c'.1)
        cases wQ m r0 w0 q with
        | true =>
          rw [if_pos rfl, if_pos rfl]
          exact clO_E hfn e.1 b1 b2
        | false =>
          rw [if_neg (by decide), if_neg (by decide)]
          exact e.1
      · show va_up c.2.1 (m.pointSeries q) true s = va_up c'.2.1 (m.pointSeries q) true s ∧ (va_up c.2.1 (m.pointSeries q) true s = true → va_up c.2.2 (m.pointSeries q) (m.pointValues q) s = va_up c'.2.2 (m.pointSeries q) (m.pointValues q) s)
        by_cases d : s = m.pointSeries q
        · rw [d, va_up_self, va_up_self, va_up_self, va_up_self]
          exact ⟨rfl, fun _ => rfl⟩
        · rw [va_up_ne _ _ d, va_up_ne _ _ d, va_up_ne _ _ d, va_up_ne _ _ d]
          exact e.2 s h1
theorem seen_se (h : ptR m x PS dn) {q : Nat} (hq : q < m.points) (hs : m.seen q = true) : m.pointSeries q < m.seriesCount := by
  have np : ¬ m.places q = -2 := fun e => by
    unfold MS.seen at hs
    rw [e, decide_eq_true (by decide)] at hs
    revert hs
    simp
  exact (h.2.2.2.2.1.2.1 q hq np).1
/-- all points met: the cell of the reference and of the class -/
theorem met_eq {wh r0 w0 t : Nat} (hwh : wh < 7) (h : ptR m x PS dn) (ha : awR m x) (hk : wiK m) (hw0 : w0 < m.windows) (hro : ∀ s, s < m.seriesCount → m.rowOf s = -1 ∨ ∃ r, r < 256 ∧ m.rowOf s = nI r) {tt : TB} (hwi : tt.wi = x.awi) (h0 : csE (nI wh) (tt.cs x.bT x.bO r0 w0) (m.xC t r0 w0)) (hb : ∀ s, s < m.seriesCount → x.ahb s = false ∧ m.hasBefore s = false) : csE (nI wh) ((mmA (nI wh) x PS tt).1.cs (mmA (nI wh) x PS tt).2.2.2.1 (mmA (nI wh) x PS tt).2.2.2.2 r0 w0) (rkC (m.rkG t wh m.points) t r0 w0) := by
  have hfn : isFn (nI wh) := by
    rcases (show wh = 0 ∨ wh = 1 ∨ wh = 2 ∨ wh = 3 ∨ wh = 4 ∨ wh = 5 ∨ wh = 6 by omega) with rfl | rfl | rfl | rfl | rfl | rfl | rfl
    · exact Or.inl rfl
    · exact Or.inr (Or.inl rfl)
    · exact Or.inr (Or.inr (Or.inl rfl))
    · exact Or.inr (Or.inr (Or.inr (Or.inl rfl)))
    · exact Or.inr (Or.inr (Or.inr (Or.inr (Or.inl rfl))))
    · exact Or.inr (Or.inr (Or.inr (Or.inr (Or.inr (Or.inl rfl)))))
    · exact Or.inr (Or.inr (Or.inr (Or.inr (Or.inr (Or.inr rfl)))))
  have h64 := hk.1
  obtain ⟨r1, -⟩ := rk_f (t := t) (r0 := r0) hwh (show w0 < 64 by omega) hk hro (fun q hq hs => seen_se h hq hs) h.2.2.2.2.2 m.points (Nat.le_refl _)
  obtain ⟨k1, k2⟩ := mmK_l hfn h ha hk hw0 (r0 := r0) (M := x.m0 tt) hwi x.npc (Nat.le_refl _)
  obtain ⟨g1, -⟩ := mmH_l hfn h ha hk hw0 (r0 := r0) (M := mmK (nI wh) x PS (x.m0 tt) x.npc) k2 m.points (Nat.le_refl _)
  rw [← h.1.1.1, k1, ← List.foldl_append] at g1
  have g1 : cvT (mmA (nI wh) x PS tt) r0 w0 = (lvQ m x).foldl (opQ m wh r0 w0) (cvT (x.m0 tt) r0 w0) := g1
  rw [lv_f h] at g1
  have e := op_E (r0 := r0) (w0 := w0) hfn (fun q hq hs => seen_se h hq hs) (List.range m.points) (cvT (x.m0 tt) r0 w0) (m.xC t r0 w0, m.hasBefore, m.befores) (fun q hq => List.mem_range.mp hq) ⟨h0, fun s hs => by
    obtain ⟨b1, b2⟩ := hb s hs
    refine ⟨b1.trans b2.symm, fun z => ?_⟩
    have z : x.ahb s = true := z
    rw [b1] at z
    cases z⟩
  rw [← g1] at e
  rw [r1]
  exact e.1
end AM
end
section
/-! Tables: both sides; empty rows dropped. -/
/-- a row's cells -/
def rwE (ic : Nat → Bool) (ce : Nat → Int64) (tb a : Nat) (t : TB) (b : Nat) : Prop := ∀ w, w < t.wi → ic ((tb * 256 + a) * 64 + w) = hasB (t.th b) w ∧ (hasB (t.th b) w = true → ce ((tb * 256 + a) * 64 + w) = t.ce (b * t.wi + w))
/-- no bits behind the windows -/
def hiZ (t : TB) (b : Nat) : Prop := ∀ w, t.wi ≤ w → w < 64 → hasB (t.th b) w = false
/-- table tb of the reference is table t of the class -/
def tabR (m : MS) (tb : Nat) (t : TB) (NL : Nat → List Int32) (RS SS : Nat → List LB) : Prop :=
  (nmRe m tb t.nc NL ∧ t.nc ≤ 6) ∧ (m.tableRows tb = t.rc ∧ t.rc ≤ 256 ∧ t.wi = m.windows ∧ m.windows ≤ 64) ∧
  (0 < t.nc → (∀ q, q < t.rc → m.rowSeries (256 * tb + q) < m.seriesCount ∧ RS q = SS (m.rowSeries (256 * tb + q))) ∧ srtR NL t.nc t.rc RS) ∧ (t.nc = 0 → t.rc ≤ 1) ∧
  ∀ r, r < t.rc → rwE m.isCell m.cells tb r t r ∧ hiZ t r
theorem mv_same {α : Type} {f : Nat → α} {b : Nat} : ∀ k q, mvG f b b k q = f q
  | 0, q => rfl
  | k + 1, q => by
    show (if q = b + k then mvG f b b k (b + k) else mvG f b b k q) = f q
    by_cases e : q = b + k
    · rw [if_pos e, mv_same k, e]
    · rw [if_neg e, mv_same k]
theorem mv_row {α : Type} {f : Nat → α} {tb k r a w wi : Nat} (hkr : k ≤ r) (hw : w < wi) (h64 : wi ≤ 64) : mvG f (cA tb k) (cA tb r) wi ((tb * 256 + a) * 64 + w) = if a = k then f ((tb * 256 + r) * 64 + w) else f ((tb * 256 + a) * 64 + w) := by
  by_cases e : k = r
  · subst e
    rw [mv_same]
    split
    · rename_i g; rw [g]
    · rfl
  · have h : cA tb k + wi ≤ cA tb r := by unfold cA; omega
    rw [mv_at h wi (Nat.le_refl _)]
    unfold cA
    by_cases g : a = k
    · subst g
      rw [if_pos (by omega), if_pos rfl, show (tb * 256 + r) * 64 + ((tb * 256 + a) * 64 + w - (tb * 256 + a) * 64) = (tb * 256 + r) * 64 + w by omega]
    · rw [if_neg (by omega), if_neg g]
theorem cp_row {f : Nat → Int64} {k r a w wi : Nat} (hw : w < wi) : va_cpy f f (r * wi) (k * wi) wi (a * wi + w) = if a = k then f (r * wi + w) else f (a * wi + w) := by
  by_cases g : a = k
  · subst g
    rw [if_pos rfl, pk_cpy_in (by omega) (by omega), Nat.add_sub_cancel_left]
  · rw [if_neg g]
    refine pk_cpy_out ?_
    by_cases c : a < k
    · left
      have : (a + 1) * wi ≤ k * wi := Nat.mul_le_mul_right wi c
      rw [Nat.succ_mul] at this
      omega
    · right
      have : (k + 1) * wi ≤ a * wi := Nat.mul_le_mul_right wi (by omega)
      rw [Nat.succ_mul] at this
      omega
section SW
variable {ic : Nat → Bool} {ce : Nat → Int64} {rs : Nat → Nat} {tb : Nat} {t : TB}
/-- is there anything in the row -/
theorem row_any {ic' : Nat → Bool} {ce' : Nat → Int64} {t' : TB} {r : Nat} (h64 : t'.wi ≤ 64) (h : rwE ic' ce' tb r t' r) (hz : hiZ t' r) : anyB t'.wi (fun w => ic' (cA tb r + w)) = !decide (t'.th r = 0) := by
  have e1 : anyB t'.wi (fun w => ic' (cA tb r + w)) = anyB t'.wi (fun w => hasB (t'.th r) w) := anyB_ext (fun w hw => (h w hw).1)
  rw [e1]
  by_cases c : t'.th r = 0
  · rw [decide_eq_true c, c]
    cases d : anyB t'.wi (fun w => hasB 0 w) with
    | false => rfl
    | true =>
      obtain ⟨w, w1, w2⟩ := anyB_iff.mp d
      have w2 : hasB 0 w = true := w2
      rw [hb_0 (by omega)] at w2
      cases w2
  · rw [decide_eq_false c]
    cases d : anyB t'.wi (fun w => hasB (t'.th r) w) with
    | true => rfl
    | false =>
      exfalso
      refine c (hb_z (fun w hw => ?_))
      by_cases g : w < t'.wi
      · exact anyB_no d w g
      · exact hz w (by omega) hw
/-- r rows looked at -/
def swQ (ic : Nat → Bool) (ce : Nat → Int64) (rs : Nat → Nat) (tb : Nat) (t : TB) (r : Nat) (φ : Nat → Nat) : Prop :=
  (swG ic ce rs tb t.wi r).1 = (deG t r).1 ∧ (deG t r).1 ≤ r ∧ (∀ a, a < (deG t r).1 → φ a < r ∧ (deG t r).2.rs a = t.rs (φ a)) ∧ (∀ a b, a < b → b < (deG t r).1 → φ a < φ b) ∧ (∀ a, a < (deG t r).1 → (swG ic ce rs tb t.wi r).2.2.2 (256 * tb + a) = rs (256 * tb + φ a)) ∧ (∀ a, r ≤ a → (swG ic ce rs tb t.wi r).2.2.2 (256 * tb + a) = rs (256 * tb + a) ∧ (deG t r).2.rs a = t.rs a) ∧ ∀ a, (a < (deG t r).1 ∨ r ≤ a) → a < t.rc → rwE (swG ic ce rs tb t.wi r).2.1 (swG ic ce rs tb t.wi r).2.2.1 tb a (deG t r).2 a ∧ hiZ (deG t r).2 a
theorem sw_de (h64 : t.wi ≤ 64) (h0 : ∀ r, r < t.rc → rwE ic ce tb r t r ∧ hiZ t r) : ∀ r, r ≤ t.rc → ∃ φ, swQ ic ce rs tb t r φ
  | 0, _ => ⟨fun _ => 0, rfl, Nat.le_refl 0, fun a ha => absurd ha (Nat.not_lt_zero a), fun a b _ hb => absurd hb (Nat.not_lt_zero b), fun a ha => absurd ha (Nat.not_lt_zero a), fun _ _ => ⟨rfl, rfl⟩, fun a _ ha => h0 a ha⟩
  | r + 1, hr => by
    obtain ⟨φ, i1, i2, i3, i4, i5, i6, i7⟩ := sw_de h64 h0 r (by omega)
    obtain ⟨k1, k2, k3, k4, k5, k6, k7⟩ := deG_k t r
    have eD : deG t (r + 1) = if (deG t r).2.th r = 0 then deG t r else ((deG t r).1 + 1, (deG t r).2.mv r (deG t r).1) := rfl
    obtain ⟨⟨k, j2, c2, r2⟩, eS⟩ : ∃ S, swG ic ce rs tb t.wi r = S := ⟨_, rfl⟩
    obtain ⟨⟨k', t'⟩, eT⟩ : ∃ T, deG t r = T := ⟨_, rfl⟩
    rw [eS, eT] at i1 i5 i7
    rw [eS, eT] at i6
    rw [eT] at i2 i3 i4 k1 k2 eD
    have i1 : k = k' := i1
    subst i1
    have k1 : t'.wi = t.wi := k1
    have i2 : k ≤ r := i2
    have i3r : ∀ a, a < k → t'.rs a = t.rs (φ a) := fun a ha => (i3 a ha).2
    have i3 : ∀ a, a < k → φ a < r := fun a ha => (i3 a ha).1
    have i4 : ∀ a b, a < b → b < k → φ a < φ b := i4
    have i5 : ∀ a, a < k → r2 (256 * tb + a) = rs (256 * tb + φ a) := i5
    have i6r : ∀ a, r ≤ a → t'.rs a = t.rs a := fun a ha => (i6 a ha).2
    have i6 : ∀ a, r ≤ a → r2 (256 * tb + a) = rs (256 * tb + a) := fun a ha => (i6 a ha).1
    have i7 : ∀ a, (a < k ∨ r ≤ a) → a < t.rc → rwE j2 c2 tb a t' a ∧ hiZ t' a := i7
    obtain ⟨q1, q2⟩ := i7 r (Or.inr (Nat.le_refl r)) (by omega)
    have ra := row_any (by rw [k1]; exact h64) q1 q2
    rw [k1] at ra
    by_cases c : t'.th r = 0
    · rw [decide_eq_true c] at ra
      have eS' := swG_f eS ra
      have eT' : deG t (r + 1) = (k, t') := eD.trans (if_pos c)
      refine ⟨φ, ?_⟩
      unfold swQ
      rw [eS', eT']
      exact ⟨rfl, by show k ≤ r + 1; omega, fun a ha => ⟨by have := i3 a ha; omega, i3r a ha⟩, i4, i5, fun a ha => ⟨i6 a (by omega), i6r a (by omega)⟩, fun a ha hl => i7 a (ha.imp id (fun z => by omega)) hl⟩
    · rw [decide_eq_false c] at ra
      have eS' := swG_t eS ra
      have eT' : deG t (r + 1) = (k + 1, t'.mv r k) := eD.trans (if_neg c)
      refine ⟨va_up φ k r, ?_⟩
      unfold swQ
      rw [eS', eT']
      refine ⟨rfl, by show k + 1 ≤ r + 1; omega, fun a ha => ?_, fun a b hab hb => ?_, fun a ha => ?_, fun a ha => ?_, fun a ha hl => ?_⟩
      · have ha : a < k + 1 := ha
        show va_up φ k r a < r + 1 ∧ va_up t'.rs k (t'.rs r) a = t.rs (va_up φ k r a)
        by_cases e : a = k
        · rw [e, va_up_self, va_up_self]
          exact ⟨by omega, i6r r (Nat.le_refl r)⟩
        · rw [va_up_ne _ _ e, va_up_ne _ _ e]
          have := i3 a (by omega)
          exact ⟨by omega, i3r a (by omega)⟩
      · have hb : b < k + 1 := hb
        rw [va_up_ne _ _ (show ¬ a = k by omega)]
        by_cases e : b = k
        · rw [e, va_up_self]; exact i3 a (by omega)
        · rw [va_up_ne _ _ e]; exact i4 a b hab (by omega)
      · have ha : a < k + 1 := ha
        show va_up r2 (256 * tb + k) (r2 (256 * tb + r)) (256 * tb + a) = rs (256 * tb + va_up φ k r a)
        by_cases e : a = k
        · rw [e, va_up_self, va_up_self]; exact i6 r (Nat.le_refl r)
        · rw [va_up_ne _ _ e, va_up_ne _ _ (by omega)]; exact i5 a (by omega)
      · show va_up r2 (256 * tb + k) (r2 (256 * tb + r)) (256 * tb + a) = _ ∧ va_up t'.rs k (t'.rs r) a = t.rs a
        rw [va_up_ne _ _ (by omega), va_up_ne _ _ (by omega)]
        exact ⟨i6 a (by omega), i6r a (by omega)⟩
      · have ha : a < k + 1 ∨ r + 1 ≤ a := ha
        have th : (t'.mv r k).th a = if a = k then t'.th r else t'.th a := rfl
        have src : rwE j2 c2 tb (if a = k then r else a) t' (if a = k then r else a) ∧ hiZ t' (if a = k then r else a) := by
          split
          · exact ⟨q1, q2⟩
          · rename_i e
            exact i7 a (by omega) hl
        refine ⟨fun w hw => ?_, fun w h1 h2 => ?_⟩
        · have hw : w < t'.wi := hw
          have hw2 : w < t.wi := by rw [← k1]; exact hw
          have cc : (t'.mv r k).ce (a * (t'.mv r k).wi + w) = if a = k then t'.ce (r * t'.wi + w) else t'.ce (a * t'.wi + w) := cp_row hw
          show mvG j2 (cA tb k) (cA tb r) t.wi ((tb * 256 + a) * 64 + w) = hasB ((t'.mv r k).th a) w ∧ (hasB ((t'.mv r k).th a) w = true → mvG c2 (cA tb k) (cA tb r) t.wi ((tb * 256 + a) * 64 + w) = (t'.mv r k).ce (a * (t'.mv r k).wi + w))
          rw [mv_row i2 hw2 h64, mv_row i2 hw2 h64, th, cc]
          by_cases e : a = k
          · rw [if_pos e, if_pos e, if_pos e, if_pos e]
            exact q1 w hw
          · rw [if_neg e, if_neg e, if_neg e, if_neg e]
            rw [if_neg e] at src
            exact src.1 w hw
        · have h1 : t'.wi ≤ w := h1
          rw [th]
          by_cases e : a = k
          · rw [if_pos e]; exact q2 w h1 h2
          · rw [if_neg e]
            rw [if_neg e] at src
            exact src.2 w h1 h2
end SW
section SD
variable {m : MS} {tb : Nat} {t : TB} {NL : Nat → List Int32} {RS SS : Nat → List LB}
theorem sw_tab (h : tabR m tb t NL RS SS) : ∃ φ : Nat → Nat, tabR (m.swS tb) tb t.de NL (fun q => RS (φ q)) SS ∧ (∀ a, a < t.de.rc → φ a < t.rc ∧ t.de.rs a = t.rs (φ a)) := by
  obtain ⟨⟨h1, h2⟩, ⟨h3, h4, h5, h6⟩, h7, h8, h9⟩ := h
  obtain ⟨φ, i1, i2, i3, i4, i5, i6, i7⟩ := sw_de (rs := m.rowSeries) (by rw [h5]; exact h6) h9 t.rc (Nat.le_refl _)
  have i3r : ∀ a, a < (deG t t.rc).1 → (deG t t.rc).2.rs a = t.rs (φ a) := fun a ha => (i3 a ha).2
  have i3 : ∀ a, a < (deG t t.rc).1 → φ a < t.rc := fun a ha => (i3 a ha).1
  obtain ⟨k1, k2, k3, k4, k5, k6, k7⟩ := deG_k t t.rc
  have eS : swG m.isCell m.cells m.rowSeries tb m.windows (m.tableRows tb) = swG m.isCell m.cells m.rowSeries tb t.wi t.rc := by rw [h3, h5]
  have ed : t.de.rc = (deG t t.rc).1 := rfl
  have en : t.de.nc = t.nc := k6
  have ew : t.de.wi = t.wi := k1
  have er : (m.swS tb).rowSeries = (swG m.isCell m.cells m.rowSeries tb t.wi t.rc).2.2.2 := by rw [← eS]; rfl
  have ei : (m.swS tb).isCell = (swG m.isCell m.cells m.rowSeries tb t.wi t.rc).2.1 := by rw [← eS]; rfl
  have ec : (m.swS tb).cells = (swG m.isCell m.cells m.rowSeries tb t.wi t.rc).2.2.1 := by rw [← eS]; rfl
  have et : (m.swS tb).tableRows tb = (deG t t.rc).1 := by
    show va_up m.tableRows tb (swG m.isCell m.cells m.rowSeries tb m.windows (m.tableRows tb)).1 tb = _
    rw [va_up_self, eS]
    exact i1
  refine ⟨φ, ⟨⟨by rw [en]; exact h1, by rw [en]; exact h2⟩, ⟨by rw [ed]; exact et, by rw [ed]; omega, ew.trans h5, h6⟩, fun g => ?_, fun g => ?_, fun r hr => ?_⟩, fun a ha => ⟨i3 a ha, i3r a ha⟩⟩
  · rw [en] at g ⊢
    obtain ⟨g1, g2⟩ := h7 g
    rw [er, ed]
    refine ⟨fun q hq => ?_, fun a b hab hb => g2 _ _ (i4 a b hab hb) (i3 b hb)⟩
    rw [i5 q hq]
    exact g1 _ (i3 q hq)
  · rw [en] at g
    have := h8 g
    rw [ed]
    omega
  · rw [ed] at hr
    rw [ei, ec]
    exact i7 r (Or.inl hr) (by omega)
end SD
end
section
/-! A row joined with a row: the two ways. -/
theorem hb_and {a b : Int64} {w : Nat} (hw : w < 64) : hasB (a &&& b) w = (hasB a w && hasB b w) := by
  rw [hb_bit hw, hb_bit hw, hb_bit hw, Int64.toBitVec_and, BitVec.getLsbD_and]
section JR
variable {sg : Int32} {g : jT} {tw ta tb : Nat}
/-- the reference -/
theorem jr_at : ∀ {k : Nat}, (∀ w w', w' < w → w < k → ¬ ta + w = tw + w' ∧ ¬ tb + w = tw + w') → ∀ q, ((jrG sg g tw ta tb k).1 q = if tw ≤ q ∧ q < tw + k then jnB sg (g.1 (ta + (q - tw))) (g.1 (tb + (q - tw))) (g.2 (tb + (q - tw))) else g.1 q) ∧ ((jrG sg g tw ta tb k).2 q = if tw ≤ q ∧ q < tw + k then jnW sg (jnB sg (g.1 (ta + (q - tw))) (g.1 (tb + (q - tw))) (g.2 (tb + (q - tw)))) (g.2 (ta + (q - tw))) (g.2 (tb + (q - tw))) else g.2 q)
  | 0, _, q => by
    rw [if_neg (by omega), if_neg (by omega)]
    exact ⟨rfl, rfl⟩
  | k + 1, h, q => by
    have ih := jr_at (k := k) (fun w w' h1 h2 => h w w' h1 (by omega))
    have na : ¬ (tw ≤ ta + k ∧ ta + k < tw + k) := fun z => by
      have := (h k (ta + k - tw) (by omega) (Nat.lt_succ_self k)).1
      omega
    have nb : ¬ (tw ≤ tb + k ∧ tb + k < tw + k) := fun z => by
      have := (h k (tb + k - tw) (by omega) (Nat.lt_succ_self k)).2
      omega
    obtain ⟨a1, a2⟩ := ih (ta + k)
    obtain ⟨b1, b2⟩ := ih (tb + k)
    rw [if_neg na] at a1 a2
    rw [if_neg nb] at b1 b2
    rw [jrG_s (show jrG sg g tw ta tb k = ((jrG sg g tw ta tb k).1, (jrG sg g tw ta tb k).2) from rfl)]
    rw [a1, a2, b1, b2]
    obtain ⟨q1, q2⟩ := ih q
    by_cases e : q = tw + k
    · subst e
      rw [if_pos (by omega), if_pos (by omega), Nat.add_sub_cancel_left]
      exact ⟨va_up_self _ _ _, va_up_self _ _ _⟩
    · refine ⟨(va_up_ne _ _ e).trans (q1.trans (if_cg (by omega) rfl rfl)), (va_up_ne _ _ e).trans (q2.trans (if_cg (by omega) rfl rfl))⟩
end JR
section JW
variable {sg : Int32} {both : Int64} {L R f : Nat → Int64} {b : Nat}
/-- the class -/
theorem jw_at : ∀ {k : Nat}, k ≤ 64 → (∀ w, w < 64 → hasB (jrW sg both L R f b k).1 w = (decide (w < k) && jnS sg both (R w) w)) ∧ ∀ q, (jrW sg both L R f b k).2 q = if b ≤ q ∧ q < b + k ∧ jnS sg both (R (q - b)) (q - b) = true then jnVl sg (L (q - b)) (R (q - b)) else f q
  | 0, _ => ⟨fun w hw => hb_0 hw, fun q => by rw [if_neg (by omega)]; rfl⟩
  | k + 1, hk => by
    obtain ⟨i1, i2⟩ := jw_at (k := k) (by omega)
    have e : jrW sg both L R f b (k + 1) = if jnS sg both (R k) k = true then ((jrW sg both L R f b k).1 ||| bitL k, va_up (jrW sg both L R f b k).2 (b + k) (jnVl sg (L k) (R k))) else jrW sg both L R f b k := rfl
    rw [e]
    cases c : jnS sg both (R k) k with
    | true =>
      rw [if_pos rfl]
      refine ⟨fun w hw => ?_, fun q => ?_⟩
      · show hasB ((jrW sg both L R f b k).1 ||| bitL k) w = _
        rw [hb_or (by omega) hw, i1 w hw]
        by_cases d : k = w
        · subst d
          rw [c, decide_eq_true rfl, Bool.or_true, decide_eq_true (Nat.lt_succ_self k)]
          rfl
        · rw [decide_eq_false d, Bool.or_false, show decide (w < k + 1) = decide (w < k) from decide_eq_decide.mpr (by omega)]
      · show va_up (jrW sg both L R f b k).2 (b + k) (jnVl sg (L k) (R k)) q = _
        by_cases d : q = b + k
        · subst d
          rw [va_up_self, if_pos ⟨by omega, by omega, by rw [Nat.add_sub_cancel_left]; exact c⟩, Nat.add_sub_cancel_left]
        · rw [va_up_ne _ _ d, i2 q]
          exact if_cg ⟨fun z => ⟨z.1, by omega, z.2.2⟩, fun z => ⟨z.1, by omega, z.2.2⟩⟩ rfl rfl
    | false =>
      rw [if_neg (by decide)]
      refine ⟨fun w hw => ?_, fun q => ?_⟩
      · rw [i1 w hw]
        by_cases d : w = k
        · subst d
          rw [c, Bool.and_false, Bool.and_false]
        · rw [show decide (w < k + 1) = decide (w < k) from decide_eq_decide.mpr (by omega)]
      · rw [i2 q]
        refine if_cg ⟨fun z => ⟨z.1, by omega, z.2.2⟩, fun z => ⟨z.1, ?_, z.2.2⟩⟩ rfl rfl
        by_cases d : q - b = k
        · rw [d, c] at z
          exact absurd z.2.2 (by decide)
        · omega
end JW
/-- a sign on two cells -/
theorem jn_e {sg : Int32} (hs : isOp sg) {ia ib : Bool} {both u y y' : Int64} {w : Nat} (hw : w < 64) (hb : hasB both w = (ia && ib)) (hy : ib = true → y = y') : jnB sg ia ib y = jnS sg both y' w ∧ (jnB sg ia ib y = true → jnW sg true u y = jnVl sg u y) := by
  have e1 : jnS sg both y' w = (hasB both w && !((decide (sg = 47) || decide (sg = 37)) && decide (y' = 0))) := rfl
  refine ⟨?_, fun h => ?_⟩
  · rw [e1, hb]
    unfold jnB
    cases ia with
    | false => rfl
    | true =>
      cases ib with
      | false => rfl
      | true =>
        rw [hy rfl]
        cases decide (sg = 47) <;> cases decide (sg = 37) <;> cases decide (y' = 0) <;> rfl
  · unfold jnB at h
    rw [Bool.and_eq_true, Bool.and_eq_true] at h
    have h := h.2.2
    unfold jnW jnVl
    rcases hs with e | e | e | e | e
    · subst e; rfl
    · subst e; rfl
    · subst e; rfl
    · subst e
      have hy0 : ¬ y = 0 := fun z => by rw [z] at h; revert h; decide
      show u / y = if y = 0 then 0 else u / y
      rw [if_neg hy0]
    · subst e
      have hy0 : ¬ y = 0 := fun z => by rw [z] at h; revert h; decide
      show u - u / y * y = if y = 0 then 0 else u - u / y * y
      rw [if_neg hy0]
/-- a row of cells told by functions -/
def rwF (ic : Nat → Bool) (ce : Nat → Int64) (a wi : Nat) (th : Int64) (c : Nat → Int64) : Prop := ∀ w, w < wi → ic (a + w) = hasB th w ∧ (hasB th w = true → ce (a + w) = c w)
/-- joined rows are the same -/
theorem jr_E {sg : Int32} (hs : isOp sg) {g : jT} {tw ta tb wi : Nat} {thA thB : Int64} {L R f : Nat → Int64} {b : Nat} (h64 : wi ≤ 64) (hd : ∀ w w', w' < w → w < wi → ¬ ta + w = tw + w' ∧ ¬ tb + w = tw + w') (hA : rwF g.1 g.2 ta wi thA L) (hB : rwF g.1 g.2 tb wi thB R) : rwF (jrG sg g tw ta tb wi).1 (jrG sg g tw ta tb wi).2 tw wi (jrW sg (thA &&& thB) L R f b wi).1 (fun w => (jrW sg (thA &&& thB) L R f b wi).2 (b + w)) ∧ (∀ w, wi ≤ w → w < 64 → hasB (jrW sg (thA &&& thB) L R f b wi).1 w = false) := by
  obtain ⟨c1, c2⟩ := jw_at (sg := sg) (both := thA &&& thB) (L := L) (R := R) (f := f) (b := b) h64
  refine ⟨fun w hw => ?_, fun w h1 h2 => ?_⟩
  · obtain ⟨r1, r2⟩ := jr_at (sg := sg) (g := g) hd (tw + w)
    rw [if_pos (by omega), Nat.add_sub_cancel_left] at r1 r2
    obtain ⟨a1, a2⟩ := hA w hw
    obtain ⟨b1, b2⟩ := hB w hw
    rw [a1, b1] at r1 r2
    obtain ⟨j1, j2⟩ := jn_e hs (ia := hasB thA w) (ib := hasB thB w) (both := thA &&& thB) (u := L w) (y := g.2 (tb + w)) (y' := R w) (w := w) (by omega) (hb_and (by omega)) b2
    rw [r1, c1 w (by omega), decide_eq_true hw, Bool.true_and]
    refine ⟨j1, fun h => ?_⟩
    rw [← j1] at h
    have h' := h
    unfold jnB at h'
    rw [Bool.and_eq_true, Bool.and_eq_true] at h'
    show _ = (jrW sg (thA &&& thB) L R f b wi).2 (b + w)
    rw [r2, h, c2 (b + w), Nat.add_sub_cancel_left, if_pos ⟨by omega, by omega, by rw [← j1]; exact h⟩, a2 h'.1, b2 h'.2.1]
    have := j2 h
    rw [b2 h'.2.1] at this
    exact this
  · rw [c1 w h2, decide_eq_false (by omega)]
    rfl
end
section
/-! Tables joined, row by row. -/
section JT
variable {sg : Int32} {g : jT} {a b : Nat} {z : TB} {ra rb r : Nat} {thA thB : Int64} {L R : Nat → Int64}
/-- a row of table a becomes rows ra of a and rb of b joined -/
theorem jr_T (hs : isOp sg) (h64 : z.wi ≤ 64) (hab : ¬ a = b) (hl : r < 256 ∧ ra < 256 ∧ rb < 256) (hA : rwF g.1 g.2 ((a * 256 + ra) * 64) z.wi thA L) (hB : rwF g.1 g.2 ((b * 256 + rb) * 64) z.wi thB R) : (rwE (jrG sg g (cA a r) (cA a ra) (cA b rb) z.wi).1 (jrG sg g (cA a r) (cA a ra) (cA b rb) z.wi).2 a r (z.jr sg (thA &&& thB) L R r) r ∧ hiZ (z.jr sg (thA &&& thB) L R r) r) ∧ (∀ q, ¬ q = r → (rwE g.1 g.2 a q z q → rwE (jrG sg g (cA a r) (cA a ra) (cA b rb) z.wi).1 (jrG sg g (cA a r) (cA a ra) (cA b rb) z.wi).2 a q (z.jr sg (thA &&& thB) L R r) q) ∧ (hiZ z q → hiZ (z.jr sg (thA &&& thB) L R r) q)) ∧ (∀ q, (q < (a * 256 + r) * 64 ∨ (a * 256 + r) * 64 + 64 ≤ q) → (jrG sg g (cA a r) (cA a ra) (cA b rb) z.wi).1 q = g.1 q ∧ (jrG sg g (cA a r) (cA a ra) (cA b rb) z.wi).2 q = g.2 q) := by
  have hd : ∀ w w', w' < w → w < z.wi → ¬ cA a ra + w = cA a r + w' ∧ ¬ cA b rb + w = cA a r + w' := by
    intro w w' h1 h2
    unfold cA
    omega
  obtain ⟨e1, e2⟩ := jr_E hs (f := z.ce) (b := r * z.wi) h64 hd hA hB
  have out : ∀ q, (q < (a * 256 + r) * 64 ∨ (a * 256 + r) * 64 + 64 ≤ q) → (jrG sg g (cA a r) (cA a ra) (cA b rb) z.wi).1 q = g.1 q ∧ (jrG sg g (cA a r) (cA a ra) (cA b rb) z.wi).2 q = g.2 q := by
    intro q hq
    obtain ⟨o1, o2⟩ := jr_at (sg := sg) (g := g) hd q
    rw [if_neg (by unfold cA; omega)] at o1 o2
    exact ⟨o1, o2⟩
  have th : ∀ q, (z.jr sg (thA &&& thB) L R r).th q = if q = r then (jrW sg (thA &&& thB) L R z.ce (r * z.wi) z.wi).1 else z.th q := fun q => rfl
  have ce : (z.jr sg (thA &&& thB) L R r).ce = (jrW sg (thA &&& thB) L R z.ce (r * z.wi) z.wi).2 := rfl
  obtain ⟨-, c2⟩ := jw_at (sg := sg) (both := thA &&& thB) (L := L) (R := R) (f := z.ce) (b := r * z.wi) h64
  refine ⟨⟨fun w hw => ?_, fun w h1 h2 => ?_⟩, fun q hq => ⟨fun h w hw => ?_, fun h w h1 h2 => ?_⟩, out⟩
  · rw [th, if_pos rfl]
    exact e1 w hw
  · rw [th, if_pos rfl]
    exact e2 w h1 h2
  · have hw : w < z.wi := hw
    obtain ⟨h1, h2⟩ := h w hw
    obtain ⟨o1, o2⟩ := out ((a * 256 + q) * 64 + w) (by omega)
    rw [th, if_neg hq, ce, o1, o2, c2]
    have ne : ¬ (r * z.wi ≤ q * z.wi + w ∧ q * z.wi + w < r * z.wi + z.wi) := fun y => by
      have := ix_ne (wi := z.wi) (r := q) (w := w) (r' := r) (w' := q * z.wi + w - r * z.wi) hw (by omega) (fun e => hq e.1)
      omega
    refine ⟨h1, fun y => (h2 y).trans ?_⟩
    exact (if_neg (fun y => ne ⟨y.1, y.2.1⟩)).symm
  · rw [th, if_neg hq]
    exact h w h1 h2
theorem jr_k (sg : Int32) (z : TB) (both : Int64) (L R : Nat → Int64) (g : Nat) : (z.jr sg both L R g).wi = z.wi ∧ (z.jr sg both L R g).rc = z.rc ∧ (z.jr sg both L R g).nc = z.nc ∧ (z.jr sg both L R g).nm = z.nm ∧ (z.jr sg both L R g).rs = z.rs ∧ (z.jr sg both L R g).cN = z.cN ∧ (z.jr sg both L R g).cA = z.cA := ⟨rfl, rfl, rfl, rfl, rfl, rfl, rfl⟩
end JT
set_option maxRecDepth 100000 in
theorem ix_out {a r q : Nat} (hr : r < 256) (h : q < a * 256 * 64 ∨ a * 256 * 64 + 256 * 64 ≤ q) : q < (a * 256 + r) * 64 ∨ (a * 256 + r) * 64 + 64 ≤ q := by omega
section OB
variable {sg : Int32} {m : MS} {a b : Nat} {t u : TB} {NL NR : Nat → List Int32} {RS RU SS : Nat → List LB}
theorem jsLn_k (sg : Int32) (t u : TB) : ∀ r, (jsL sg t u r).wi = t.wi ∧ (jsL sg t u r).rc = t.rc ∧ (jsL sg t u r).nc = t.nc
  | 0 => ⟨rfl, rfl, rfl⟩
  | r + 1 => by
    obtain ⟨h1, h2, h3⟩ := jsLn_k sg t u r
    exact ⟨h1, h2, h3⟩
/-- the one row of the right table joined to the rows of the left -/
theorem ob_jsL (hs : isOp sg) (hab : ¬ a = b) (ht : tabR m a t NL RS SS) (hu : tabR m b u NR RU SS) (h1 : 0 < u.rc) : ∀ r, r ≤ t.rc → (∀ q, q < t.rc → rwE (obG sg (m.isCell, m.cells) a b m.windows r).1 (obG sg (m.isCell, m.cells) a b m.windows r).2 a q (jsL sg t u r) q ∧ hiZ (jsL sg t u r) q) ∧ (∀ q, (q < a * 256 * 64 ∨ a * 256 * 64 + 256 * 64 ≤ q) → (obG sg (m.isCell, m.cells) a b m.windows r).1 q = m.isCell q ∧ (obG sg (m.isCell, m.cells) a b m.windows r).2 q = m.cells q)
  | 0, _ => ⟨fun q hq => ht.2.2.2.2 q hq, fun q _ => ⟨rfl, rfl⟩⟩
  | r + 1, hr => by
    obtain ⟨i1, i2⟩ := ob_jsL hs hab ht hu h1 r (by omega)
    obtain ⟨k1, k2, k3⟩ := jsLn_k sg t u r
    have rc := ht.2.1.2.1
    have w1 : (jsL sg t u r).wi = m.windows := k1.trans ht.2.1.2.2.1
    have w2 : u.wi = m.windows := hu.2.1.2.2.1
    have A : rwF (obG sg (m.isCell, m.cells) a b m.windows r).1 (obG sg (m.isCell, m.cells) a b m.windows r).2 ((a * 256 + r) * 64) (jsL sg t u r).wi ((jsL sg t u r).th r) (fun w => (jsL sg t u r).ce (r * (jsL sg t u r).wi + w)) := (i1 r (by omega)).1
    have B : rwF (obG sg (m.isCell, m.cells) a b m.windows r).1 (obG sg (m.isCell, m.cells) a b m.windows r).2 ((b * 256 + 0) * 64) (jsL sg t u r).wi (u.th 0) (fun w => u.ce (0 * u.wi + w)) := fun w hw => by
      obtain ⟨o1, o2⟩ := i2 ((b * 256 + 0) * 64 + w) (by have := ht.2.1.2.2.2; omega)
      rw [o1, o2]
      exact (hu.2.2.2.2 0 h1).1 w (by rw [w2, ← w1]; exact hw)
    obtain ⟨j1, j2, j3⟩ := jr_T (z := jsL sg t u r) (r := r) hs (by rw [w1]; exact ht.2.1.2.2.2) hab ⟨by omega, by omega, by omega⟩ A B
    have eo : obG sg (m.isCell, m.cells) a b m.windows (r + 1) = jrG sg (obG sg (m.isCell, m.cells) a b m.windows r) (cA a r) (cA a r) (cA b 0) (jsL sg t u r).wi := by
      rw [w1]
      rfl
    rw [eo]
    refine ⟨fun q hq => ?_, fun q hq => ?_⟩
    · show rwE _ _ a q (TB.jrl sg (jsL sg t u r) u r 0 r) q ∧ hiZ (TB.jrl sg (jsL sg t u r) u r 0 r) q
      unfold TB.jrl
      by_cases e : q = r
      · rw [e]; exact j1
      · obtain ⟨x1, x2⟩ := j2 q e
        exact ⟨x1 (i1 q hq).1, x2 (i1 q hq).2⟩
    · obtain ⟨o1, o2⟩ := j3 q (ix_out (Nat.lt_of_lt_of_le hr rc) hq)
      obtain ⟨p1, p2⟩ := i2 q hq
      exact ⟨o1.trans p1, o2.trans p2⟩
theorem ob_tab (hs : isOp sg) (hab : ¬ a = b) (ht : tabR m a t NL RS SS) (hu : tabR m b u NR RU SS) : tabR (m.obS sg a b) a (if u.rc = 0 then TB.s_rc t 0 else jsL sg t u t.rc) NL RS SS := by
  have ur : m.tableRows b = u.rc := hu.2.1.1
  have tr : m.tableRows a = t.rc := ht.2.1.1
  by_cases c : u.rc = 0
  · rw [if_pos c]
    have et : (m.obS sg a b).tableRows a = 0 := by
      show va_up m.tableRows a (if 0 < m.tableRows b then m.tableRows a else 0) a = 0
      rw [va_up_self, ur, c]
      rfl
    refine ⟨ht.1, ⟨et, Nat.zero_le _, ht.2.1.2.2⟩, fun g => ⟨fun q hq => absurd hq (Nat.not_lt_zero q), fun x y _ hy => absurd hy (Nat.not_lt_zero y)⟩, fun _ => Nat.zero_le _, fun r hr => absurd hr (Nat.not_lt_zero r)⟩
  · rw [if_neg c]
    obtain ⟨j1, -⟩ := ob_jsL hs hab ht hu (by omega) t.rc (Nat.le_refl _)
    obtain ⟨k1, k2, k3⟩ := jsLn_k sg t u t.rc
    have et : (m.obS sg a b).tableRows a = t.rc := by
      show va_up m.tableRows a (if 0 < m.tableRows b then m.tableRows a else 0) a = t.rc
      rw [va_up_self, ur, if_pos (by omega), tr]
    have ei : (m.obS sg a b).isCell = (obG sg (m.isCell, m.cells) a b m.windows t.rc).1 := by
      show (if 0 < m.tableRows b then obG sg (m.isCell, m.cells) a b m.windows (m.tableRows a) else (m.isCell, m.cells)).1 = _
      rw [ur, if_pos (by omega), tr]
    have ec : (m.obS sg a b).cells = (obG sg (m.isCell, m.cells) a b m.windows t.rc).2 := by
      show (if 0 < m.tableRows b then obG sg (m.isCell, m.cells) a b m.windows (m.tableRows a) else (m.isCell, m.cells)).2 = _
      rw [ur, if_pos (by omega), tr]
    refine ⟨⟨by rw [k3]; exact ht.1.1, by rw [k3]; exact ht.1.2⟩, ⟨by rw [k2]; exact et, by rw [k2]; exact ht.2.1.2.1, k1.trans ht.2.1.2.2.1, ht.2.1.2.2.2⟩, fun g => ?_, fun g => ?_, fun r hr => ?_⟩
    · rw [k3] at g ⊢
      rw [k2]
      exact ht.2.2.1 g
    · rw [k3] at g
      rw [k2]
      exact ht.2.2.2.1 g
    · rw [k2] at hr
      rw [ei, ec]
      exact j1 r hr
end OB
end
section
/-! The one row of the left table joined to the rows of the right. -/
section SP
variable {sg : Int32} {m : MS} {a b : Nat} {t u : TB} {NL NR : Nat → List Int32} {RS RU SS : Nat → List LB}
theorem jsRn_k (sg : Int32) (t u : TB) : ∀ r, (jsR sg t u r).wi = t.wi ∧ (jsR sg t u r).rc = t.rc ∧ (jsR sg t u r).nc = t.nc
  | 0 => ⟨rfl, rfl, rfl⟩
  | r + 1 => by
    obtain ⟨h1, h2, h3⟩ := jsRn_k sg t u r
    exact ⟨h1, h2, h3⟩
/-- rows of the class's right table: behind r they are as they were; before it each is joined -/
theorem jsR_row (h64 : u.wi ≤ 64) : ∀ r, (∀ q, r ≤ q → (jsR sg u t r).th q = u.th q ∧ ∀ w, w < u.wi → (jsR sg u t r).ce (q * u.wi + w) = u.ce (q * u.wi + w)) ∧ ∀ q, q < r → (jsR sg u t r).th q = (jrW sg (t.th 0 &&& u.th q) (fun w => t.ce (0 * t.wi + w)) (fun w => u.ce (q * u.wi + w)) u.ce (q * u.wi) u.wi).1 ∧ ∀ w, w < u.wi → (jsR sg u t r).ce (q * u.wi + w) = (jrW sg (t.th 0 &&& u.th q) (fun w => t.ce (0 * t.wi + w)) (fun w => u.ce (q * u.wi + w)) u.ce (q * u.wi) u.wi).2 (q * u.wi + w)
  | 0 => ⟨fun q _ => ⟨rfl, fun w _ => rfl⟩, fun q hq => absurd hq (Nat.not_lt_zero q)⟩
  | r + 1 => by
    obtain ⟨i1, i2⟩ := jsR_row h64 r
    obtain ⟨k1, -, -⟩ := jsRn_k sg u t r
    obtain ⟨Z, eZ⟩ : ∃ Z, Z = jsR sg u t r := ⟨_, rfl⟩
    have e : jsR sg u t (r + 1) = TB.jrr sg Z t 0 r r := by rw [eZ]; rfl
    rw [e]
    rw [← eZ] at i1 i2 k1
    obtain ⟨r1, r2⟩ := i1 r (Nat.le_refl r)
    -- the row's own cells as they were
    have cg : ∀ k, k ≤ u.wi → (jrW sg (t.th 0 &&& Z.th r) (fun w => t.ce (0 * t.wi + w)) (fun w => Z.ce (r * Z.wi + w)) Z.ce (r * Z.wi) k).1 = (jrW sg (t.th 0 &&& u.th r) (fun w => t.ce (0 * t.wi + w)) (fun w => u.ce (r * u.wi + w)) u.ce (r * u.wi) k).1 := by
      intro k
      induction k with
      | zero => intro _; rfl
      | succ k ih =>
        intro hk
        have ih := ih (by omega)
        have ek : Z.ce (r * Z.wi + k) = u.ce (r * u.wi + k) := by rw [k1]; exact r2 k (by omega)
        have es : ∀ (bo : Int64) (A B C : Nat → Int64) (p : Nat), (jrW sg bo A B C p (k + 1)).1 = if jnS sg bo (B k) k = true then (jrW sg bo A B C p k).1 ||| bitL k else (jrW sg bo A B C p k).1 := fun bo A B C p => by
          show (if jnS sg bo (B k) k = true then ((jrW sg bo A B C p k).1 ||| bitL k, va_up (jrW sg bo A B C p k).2 (p + k) (jnVl sg (A k) (B k))) else jrW sg bo A B C p k).1 = _
          split <;> rfl
        rw [es, es, ih, r1]
        show (if jnS sg (t.th 0 &&& u.th r) (Z.ce (r * Z.wi + k)) k = true then _ else _) = (if jnS sg (t.th 0 &&& u.th r) (u.ce (r * u.wi + k)) k = true then _ else _)
        rw [ek]
    have th : ∀ q, (TB.jrr sg Z t 0 r r).th q = if q = r then (jrW sg (t.th 0 &&& Z.th r) (fun w => t.ce (0 * t.wi + w)) (fun w => Z.ce (r * Z.wi + w)) Z.ce (r * Z.wi) Z.wi).1 else Z.th q := fun q => rfl
    have ce : (TB.jrr sg Z t 0 r r).ce = (jrW sg (t.th 0 &&& Z.th r) (fun w => t.ce (0 * t.wi + w)) (fun w => Z.ce (r * Z.wi + w)) Z.ce (r * Z.wi) Z.wi).2 := rfl
    obtain ⟨-, c2⟩ := jw_at (sg := sg) (both := t.th 0 &&& Z.th r) (L := fun w => t.ce (0 * t.wi + w)) (R := fun w => Z.ce (r * Z.wi + w)) (f := Z.ce) (b := r * Z.wi) (k := Z.wi) (by rw [k1]; exact h64)
    obtain ⟨-, c3⟩ := jw_at (sg := sg) (both := t.th 0 &&& u.th r) (L := fun w => t.ce (0 * t.wi + w)) (R := fun w => u.ce (r * u.wi + w)) (f := u.ce) (b := r * u.wi) (k := u.wi) h64
    have oth : ∀ q, ¬ q = r → ∀ w, w < u.wi → (TB.jrr sg Z t 0 r r).ce (q * u.wi + w) = Z.ce (q * u.wi + w) := fun q hq w hw => by
      rw [ce, c2, k1]
      refine if_neg (fun y => ?_)
      have := ix_ne (wi := u.wi) (r := q) (w := w) (r' := r) (w' := q * u.wi + w - r * u.wi) hw (by omega) (fun e => hq e.1)
      omega
    refine ⟨fun q hq => ?_, fun q hq => ?_⟩
    · rw [th, if_neg (by omega)]
      obtain ⟨x1, x2⟩ := i1 q (by omega)
      exact ⟨x1, fun w hw => (oth q (by omega) w hw).trans (x2 w hw)⟩
    · rw [th]
      by_cases e2 : q = r
      · subst e2
        rw [if_pos rfl]
        refine ⟨?_, fun w hw => ?_⟩
        · have := cg u.wi (Nat.le_refl _)
          rw [← k1] at this ⊢
          exact this
        · have ew : ∀ w, w < u.wi → Z.ce (q * u.wi + w) = u.ce (q * u.wi + w) := r2
          rw [ce, c2, c3, k1, r1, Nat.add_sub_cancel_left]
          show (if q * u.wi ≤ q * u.wi + w ∧ q * u.wi + w < q * u.wi + u.wi ∧ jnS sg (t.th 0 &&& u.th q) (Z.ce (q * u.wi + w)) w = true then jnVl sg (t.ce (0 * t.wi + w)) (Z.ce (q * u.wi + w)) else Z.ce (q * u.wi + w)) = (if q * u.wi ≤ q * u.wi + w ∧ q * u.wi + w < q * u.wi + u.wi ∧ jnS sg (t.th 0 &&& u.th q) (u.ce (q * u.wi + w)) w = true then jnVl sg (t.ce (0 * t.wi + w)) (u.ce (q * u.wi + w)) else u.ce (q * u.wi + w))
          rw [ew w hw]
      · rw [if_neg e2]
        obtain ⟨x1, x2⟩ := i2 q (by omega)
        exact ⟨x1, fun w hw => (oth q e2 w hw).trans (x2 w hw)⟩
/-- the reference's rows, from the last down -/
theorem sp_row (hab : ¬ a = b) {g : jT} {n wi : Nat} (h64 : wi ≤ 64) (hn : n ≤ 256) : ∀ j, j ≤ n → (∀ q, q < (a * 256 + (n - j)) * 64 ∨ (a * 256 + n) * 64 ≤ q → (spG sg g a b n wi j).1 q = g.1 q ∧ (spG sg g a b n wi j).2 q = g.2 q) ∧ ∀ r, n - j ≤ r → r < n → ∀ w, w < wi → (spG sg g a b n wi j).1 ((a * 256 + r) * 64 + w) = jnB sg (g.1 (cA a 0 + w)) (g.1 (cA b r + w)) (g.2 (cA b r + w)) ∧ (spG sg g a b n wi j).2 ((a * 256 + r) * 64 + w) = jnW sg (jnB sg (g.1 (cA a 0 + w)) (g.1 (cA b r + w)) (g.2 (cA b r + w))) (g.2 (cA a 0 + w)) (g.2 (cA b r + w))
  | 0, _ => ⟨fun q _ => ⟨rfl, rfl⟩, fun r h1 h2 => by omega⟩
  | j + 1, hj => by
    obtain ⟨i1, i2⟩ := sp_row hab h64 hn (g := g) j (by omega)
    obtain ⟨G, eG⟩ : ∃ G, G = spG sg g a b n wi j := ⟨_, rfl⟩
    have e : spG sg g a b n wi (j + 1) = jrG sg G (cA a (n - 1 - j)) (cA a 0) (cA b (n - 1 - j)) wi := by rw [eG]; rfl
    rw [e]
    rw [← eG] at i1 i2
    have hd : ∀ w w', w' < w → w < wi → ¬ cA a 0 + w = cA a (n - 1 - j) + w' ∧ ¬ cA b (n - 1 - j) + w = cA a (n - 1 - j) + w' := by
      intro w w' h1 h2
      unfold cA
      omega
    refine ⟨fun q hq => ?_, fun r h1 h2 w hw => ?_⟩
    · obtain ⟨o1, o2⟩ := jr_at (sg := sg) (g := G) hd q
      rw [if_neg (by unfold cA; omega)] at o1 o2
      obtain ⟨p1, p2⟩ := i1 q (by omega)
      exact ⟨o1.trans p1, o2.trans p2⟩
    · obtain ⟨o1, o2⟩ := jr_at (sg := sg) (g := G) hd ((a * 256 + r) * 64 + w)
      by_cases c : r = n - 1 - j
      · subst c
        rw [if_pos (by unfold cA; omega), show (a * 256 + (n - 1 - j)) * 64 + w - cA a (n - 1 - j) = w by unfold cA; omega] at o1 o2
        have z1 := i1 (cA a 0 + w) (by unfold cA; omega)
        have z2 := i1 (cA b (n - 1 - j) + w) (by unfold cA; omega)
        rw [z1.1, z2.1, z2.2] at o1
        rw [z1.1, z1.2, z2.1, z2.2] at o2
        exact ⟨o1, o2⟩
      · rw [if_neg (by unfold cA; omega)] at o1 o2
        obtain ⟨p1, p2⟩ := i2 r (by omega) h2 w hw
        exact ⟨o1.trans p1, o2.trans p2⟩
end SP
end
