/-! A function's table: both sides. -/
section RK
variable {z : MS} {X : VS} {PS : Nat → PT} {dn : Nat → Nat} {SS : Nat → List LB}
/-- what points met keep of a table -/
def mmK2 (x : VS) (t : TB) (M : MM) : Prop := M.1.wi = t.wi ∧ M.1.rc = t.rc ∧ M.1.nc = t.nc ∧ M.1.nm = t.nm ∧ ∀ r, r < t.rc → hiZ M.1 r
theorem pt_hi {t : TB} {r w n : Nat} {u : Int64} (hw : w < t.wi) (h64 : t.wi ≤ 64) (h : ∀ r, r < n → hiZ t r) : ∀ q, q < n → hiZ (t.pt r w u) q := by
  intro q hq i h1 h2
  have h1 : t.wi ≤ i := h1
  show hasB (va_up t.th r (t.th r ||| bitL w) q) i = false
  by_cases e : q = r
  · rw [e, va_up_self, hb_or (by omega) h2, h r (by omega) i h1 h2, decide_eq_false (by omega)]
    rfl
  · rw [va_up_ne _ _ e]
    exact h q hq i h1 h2
theorem mm1q_k {fn : Int32} {x : VS} {t : TB} {M : MM} {o : Nat} {tm v : Int64} (hwi : t.wi = x.awi) (h64 : x.awi ≤ 64) (hk : wOk x.afr x.awd x.awi tm) (h : mmK2 x t M) : mmK2 x t (mm1 fn x M o tm v) := by
  obtain ⟨h1, h2, h3, h5, h4⟩ := h
  show (mqY fn M.1 (x.pb M) o tm v).wi = t.wi ∧ (mqY fn M.1 (x.pb M) o tm v).rc = t.rc ∧ (mqY fn M.1 (x.pb M) o tm v).nc = t.nc ∧ (mqY fn M.1 (x.pb M) o tm v).nm = t.nm ∧ ∀ r, r < t.rc → hiZ (mqY fn M.1 (x.pb M) o tm v) r
  unfold mqY
  have e0 : woA (x.pb M).afr (x.pb M).awd (x.pb M).awi tm = woA x.afr x.awd x.awi tm := rfl
  rw [e0]
  split
  · exact ⟨h1, h2, h3, h5, h4⟩
  · rename_i c
    obtain ⟨w, hw, ew⟩ := hk.resolve_left c
    have ei : i2n (woA x.afr x.awd x.awi tm) = w := by rw [ew, i2n_of (by omega)]
    rw [ei]
    have hp : ∀ (r : Nat) (u : Int64), (M.1.pt r w u).wi = t.wi ∧ (M.1.pt r w u).rc = t.rc ∧ (M.1.pt r w u).nc = t.nc ∧ (M.1.pt r w u).nm = t.nm ∧ ∀ q, q < t.rc → hiZ (M.1.pt r w u) q := fun r u => ⟨h1, h2, h3, h5, pt_hi (by rw [h1, hwi]; exact hw) (by rw [h1, hwi]; exact h64) h4⟩
    unfold mtT
    split
    · unfold gwT
      split
      · exact hp _ _
      · exact ⟨h1, h2, h3, h5, h4⟩
    · split
      · split
        · exact hp _ _
        · exact ⟨h1, h2, h3, h5, h4⟩
      · exact hp _ _
theorem mmA_2 {fn : Int32} {x : VS} {t : TB} (hwi : t.wi = x.awi) (h64 : x.awi ≤ 64) (hk : ∀ k, k < x.npc → ∀ i, i < (PS k).n → wOk x.afr x.awd x.awi ((PS k).t i)) (hk2 : ∀ i, i < x.hsize → wOk x.afr x.awd x.awi (x.hT i)) (h0 : ∀ r, r < t.rc → hiZ t r) : mmK2 x t (mmA fn x PS t) := by
  have s0 : mmK2 x t (x.m0 t) := ⟨rfl, rfl, rfl, rfl, h0⟩
  have sP : ∀ k, k < x.npc → ∀ M, mmK2 x t M → ∀ i, i ≤ (PS k).n → mmK2 x t (mmP fn x (PS k) M i) := fun k hkn M hM i => by
    induction i with
    | zero => exact fun _ => hM
    | succ i ih =>
      intro hi
      unfold mmP
      split
      · exact mm1q_k hwi h64 (hk k hkn i (by omega)) (ih (by omega))
      · exact ih (by omega)
  have sK : ∀ k, k ≤ x.npc → mmK2 x t (mmK fn x PS (x.m0 t) k) := fun k => by
    induction k with
    | zero => exact fun _ => s0
    | succ k ih => exact fun hkn => sP k (by omega) _ (ih (by omega)) _ (Nat.le_refl _)
  have sH : ∀ i, i ≤ x.hsize → mmK2 x t (mmH fn x (mmK fn x PS (x.m0 t) x.npc) i) := fun i => by
    induction i with
    | zero => exact fun _ => sK x.npc (Nat.le_refl _)
    | succ i ih =>
      intro hi
      unfold mmH
      split
      · exact mm1q_k hwi h64 (hk2 i (by omega)) (ih (by omega))
      · exact ih (by omega)
  exact sH x.hsize (Nat.le_refl _)
theorem pkG_wi {NL : Nat → List Int32} {n : Nat} {KD : Nat → Int32} {MN MT : Nat → List Int32} {kn : Nat → Option Nat} {g : PKS} : ∀ i, (pkG NL n KD MN MT SS kn g i).1.wi = g.1.wi
  | 0 => rfl
  | i + 1 => by
    have ih := pkG_wi (NL := NL) (n := n) (KD := KD) (MN := MN) (MT := MT) (kn := kn) (g := g) i
    unfold pkG
    split
    · show (adT NL (pkG NL n KD MN MT SS kn g i).1 (pkG NL n KD MN MT SS kn g i).2.1 (SS i) ((kn i).getD 0)).wi = g.1.wi
      unfold adT
      split
      · exact ih
      · exact ih
    · exact ih
theorem clTz_k (t : TB) (q : Nat) : (clT t q).wi = t.wi ∧ (clT t q).rc = t.rc ∧ (clT t q).nc = t.nc ∧ (∀ r, r < t.rc → (clT t q).th r = 0) ∧ ∀ i, i < t.rc * t.wi → (clT t q).ce i = 0 := by
  unfold clT
  split
  · exact ⟨rfl, rfl, rfl, fun r hr => filG_z _ _ hr, fun i hi => filG_z _ _ hi⟩
  · exact ⟨rfl, rfl, rfl, fun r hr => filG_z _ _ hr, fun i hi => filG_z _ _ hi⟩
end RK
