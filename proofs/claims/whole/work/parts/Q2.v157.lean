/-! Rows put in order: the two ways. -/
theorem nI_ltq {a b : Nat} (ha : a < 2 ^ 31) (hb : b < 2 ^ 31) : nI a < nI b ↔ a < b := by
  rw [Int32.lt_iff_toInt_lt, nI_toInt (by omega), nI_toInt (by omega)]
  omega
/-- a threshold -/
theorem thr {f : Nat → Bool} : ∀ {n : Nat}, (∀ a b, a < b → b < n → f b = true → f a = true) → ∃ p, p ≤ n ∧ ∀ q, q < n → (f q = true ↔ q < p)
  | 0, _ => ⟨0, Nat.le_refl 0, fun q hq => absurd hq (Nat.not_lt_zero q)⟩
  | n + 1, h => by
    obtain ⟨p, h1, h2⟩ := thr (f := f) (n := n) (fun a b h1 h2 => h a b h1 (by omega))
    cases c : f n with
    | true =>
      refine ⟨n + 1, Nat.le_refl _, fun q hq => ⟨fun _ => hq, fun _ => ?_⟩⟩
      by_cases e : q = n
      · rw [e]; exact c
      · exact h q n (by omega) (by omega) c
    | false =>
      refine ⟨p, by omega, fun q hq => ?_⟩
      by_cases e : q = n
      · subst e
        rw [c]
        exact ⟨fun z => Bool.noConfusion z, fun z => absurd z (by omega)⟩
      · exact h2 q (by omega)
/-- halving finds it -/
theorem bs_p {lt : Nat → Bool} {rc p : Nat} (hp : p ≤ rc) (h : ∀ q, q < rc → (lt q = true ↔ q < p)) : ∀ (f st b : Nat), st = 2 ^ f / 2 → b ≤ p → p < b + 2 ^ f → bsG lt rc f st b = p
  | 0, st, b, _, h1, h2 => by
    show b = p
    have h2 : p < b + 1 := h2
    omega
  | f + 1, st, b, hs, h1, h2 => by
    have e : st = 2 ^ f := by rw [hs, Nat.pow_succ, Nat.mul_div_cancel _ (by decide : 0 < 2)]
    rw [Nat.pow_succ] at h2
    have hf := Nat.two_pow_pos f
    have hs2 : st / 2 = 2 ^ f / 2 := by rw [e]
    show bsG lt rc f (st / 2) (if b + st ≤ rc ∧ lt (b + st - 1) = true then b + st else b) = p
    by_cases c : b + st ≤ rc ∧ lt (b + st - 1) = true
    · rw [if_pos c]
      have := (h (b + st - 1) (by omega)).mp c.2
      exact bs_p hp h f (st / 2) (b + st) hs2 (by omega) (by omega)
    · rw [if_neg c]
      have : p < b + st := by
        by_cases d : b + st ≤ rc
        · by_cases e2 : lt (b + st - 1) = true
          · exact absurd ⟨d, e2⟩ c
          · have : ¬ b + st - 1 < p := fun z => e2 ((h (b + st - 1) (by omega)).mpr z)
            omega
        · omega
      exact bs_p hp h f (st / 2) b hs2 h1 (by omega)
/-- rows in order -/
def srtR (NL : Nat → List Int32) (nc n : Nat) (RS : Nat → List LB) : Prop := ∀ a b, a < b → b < n → ltK NL nc (RS a) (RS b)
section RW
variable {NL : Nat → List Int32} {nc n : Nat} {RS : Nat → List LB} {S : List LB}
theorem ltT_K (hg : ∀ q, q < n → serG (RS q)) (hS : serG S) {q : Nat} (hq : q < n) : ltT NL nc RS S q = true ↔ ltK NL nc (RS q) S := by
  rw [← cmT_lt (hg q hq) hS]
  unfold ltT
  rw [Bool.not_eq_true', decide_eq_false_iff_not, Int32.not_le]
/-- where a series belongs -/
theorem pl_thr (hs : srtR NL nc n RS) (hg : ∀ q, q < n → serG (RS q)) (hS : serG S) (hn : n ≤ 256) : plT NL nc n RS S ≤ n ∧ (∀ q, q < n → (ltK NL nc (RS q) S ↔ q < plT NL nc n RS S)) := by
  obtain ⟨p, h1, h2⟩ := thr (f := ltT NL nc RS S) (n := n) (fun a b hab hb h => (ltT_K hg hS (by omega)).mpr (ltK_tr (hs a b hab hb) ((ltT_K hg hS hb).mp h)))
  have e : plT NL nc n RS S = p := bs_p h1 h2 9 256 0 (by decide) (Nat.zero_le _) (by omega)
  rw [e]
  exact ⟨h1, fun q hq => (ltT_K hg hS hq).symm.trans (h2 q hq)⟩
/-- a row with these values is found -/
theorem pl_row (hs : srtR NL nc n RS) (hg : ∀ q, q < n → serG (RS q)) (hS : serG S) (hn : n ≤ 256) {r : Nat} (hr : r < n) (he : eqK NL nc (RS r) S) : plT NL nc n RS S = r ∧ roT NL nc n RS S = nI r := by
  obtain ⟨h1, h2⟩ := pl_thr hs hg hS hn
  have e : plT NL nc n RS S = r := by
    have a1 : ¬ r < plT NL nc n RS S := fun z => ltK_irr (ltK_e2 (fun i hi => (he i hi).symm) ((h2 r hr).mpr z))
    by_cases c : plT NL nc n RS S < r
    · have := (h2 _ (by omega)).mp (ltK_e2 he (hs _ r c hr))
      omega
    · omega
  refine ⟨e, ?_⟩
  unfold roT
  rw [e, if_pos ⟨hr, (cmT_eq (hg r hr) hS).mpr he⟩]
/-- a series put among the rows -/
theorem srt_new (hs : srtR NL nc n RS) (hg : ∀ q, q < n → serG (RS q)) (hS : serG S) (hn : n ≤ 256) (hne : ¬ (plT NL nc n RS S < n ∧ cmT NL nc (RS (plT NL nc n RS S)) S = 0)) : srtR NL nc (n + 1) (fun q => if q < plT NL nc n RS S then RS q else if q = plT NL nc n RS S then S else RS (q - 1)) := by
  obtain ⟨h1, h2⟩ := pl_thr hs hg hS hn
  generalize plT NL nc n RS S = p at h1 h2 hne
  have gt : ∀ q, p ≤ q → q < n → ltK NL nc S (RS q) := by
    intro q hq hqn
    have b : ltK NL nc S (RS p) := by
      rcases cmT_3 (NL := NL) (n := nc) (hg p (by omega)) hS with c | c | c
      · have := (h2 p (by omega)).mp c
        omega
      · exact absurd ⟨by omega, (cmT_eq (hg p (by omega)) hS).mpr c⟩ hne
      · exact c
    by_cases e : p = q
    · rw [← e]; exact b
    · exact ltK_tr b (hs p q (by omega) hqn)
  intro a b hab hb
  show ltK NL nc (if a < p then RS a else if a = p then S else RS (a - 1)) (if b < p then RS b else if b = p then S else RS (b - 1))
  by_cases c1 : a < p
  · rw [if_pos c1]
    by_cases c2 : b < p
    · rw [if_pos c2]; exact hs a b hab (by omega)
    · rw [if_neg c2]
      by_cases c3 : b = p
      · rw [if_pos c3]; exact (h2 a (by omega)).mpr c1
      · rw [if_neg c3]; exact hs a (b - 1) (by omega) (by omega)
  · rw [if_neg c1, if_neg (show ¬ b < p by omega), if_neg (show ¬ b = p by omega)]
    by_cases c3 : a = p
    · rw [if_pos c3]; exact gt (b - 1) (by omega) (by omega)
    · rw [if_neg c3]; exact hs (a - 1) (b - 1) (by omega) (by omega)
end RW
section FR
variable {x : MS} {tb nc s : Nat} {NL : Nat → List Int32} {SS : Nat → List LB} {rs : Nat → Nat} {n : Nat}
/-- the reference's walk over the rows -/
theorem fr_p (hn : nmRe x tb nc NL) (hx : txR x.texts x.textLengths x.seriesCount SS) (hg : ∀ q, q < x.seriesCount → serG (SS q)) (hs : s < x.seriesCount) (hr : ∀ q, q < n → rs (256 * tb + q) < x.seriesCount) {p : Nat} (hp : p ≤ n) (h : ∀ q, q < n → (ltK NL nc (SS (rs (256 * tb + q))) (SS s) ↔ q < p)) : ∀ (w r v : Nat), r ≤ p → n + 1 ≤ w + r → (x.fr tb s rs n w r v).1 = p
  | 0, r, v, h1, h2 => by
    show r = p
    omega
  | w + 1, r, v, h1, h2 => by
    by_cases c : n ≤ r
    · rw [fr_e c]
      show r = p
      omega
    · have e : ((MS.s_valueLength x v).cr tb (rs (256 * tb + r)) s).1 = cmT NL nc (SS (rs (256 * tb + r))) (SS s) := cr_eq (x := MS.s_valueLength x v) hn hx (hr r (by omega)) hs (hg _ (hr r (by omega))) (hg s hs)
      by_cases d : r < p
      · rw [fr_l (Nat.succ_pos w) c (by rw [e, cmT_lt (hg _ (hr r (by omega))) (hg s hs)]; exact (h r (by omega)).mpr d)]
        exact fr_p hn hx hg hs hr hp h w (r + 1) _ (by omega) (by omega)
      · rw [fr_g (Nat.succ_pos w) c (by rw [e, cmT_lt (hg _ (hr r (by omega))) (hg s hs)]; exact fun z => d ((h r (by omega)).mp z))]
        show r = p
        omega
end FR
