/-! Bits of a row; a point met, at one cell: the two ways. -/
theorem hb_bit {z : Int64} {w : Nat} (hw : w < 64) : hasB z w = z.toBitVec.getLsbD w := by
  have hz : z = lN z.toBitVec.toNat := by
    apply Int64.toBitVec_inj.mp
    show z.toBitVec = BitVec.ofNat 64 z.toBitVec.toNat
    rw [BitVec.ofNat_toNat, BitVec.setWidth_eq]
  have e1 : ushL z (nI w) = lN (z.toBitVec.toNat / 2 ^ w) := by
    have := ushL_N (n := z.toBitVec.toNat) z.toBitVec.isLt hw
    rw [← hz] at this
    exact this
  unfold hasB
  rw [e1]
  have e2 : (lN (z.toBitVec.toNat / 2 ^ w) &&& 1 = 1) ↔ (z.toBitVec.toNat / 2 ^ w % 2 = 1) := by
    rw [← Int64.toBitVec_inj, ← BitVec.toNat_inj]
    show (BitVec.ofNat 64 (z.toBitVec.toNat / 2 ^ w) &&& 1#64).toNat = (1#64).toNat ↔ _
    rw [BitVec.toNat_and, BitVec.toNat_ofNat, show (1#64).toNat = 1 from rfl, Nat.and_one_is_mod]
    omega
  show decide (lN (z.toBitVec.toNat / 2 ^ w) &&& 1 = 1) = z.toBitVec.toNat.testBit w
  rw [Nat.testBit_eq_decide_div_mod_eq]
  exact decide_eq_decide.mpr e2
theorem bitL_b : ∀ w : Nat, w < 64 → (bitL w).toBitVec = BitVec.ofNat 64 (2 ^ w) := by decide +kernel
theorem bitL_g {w i : Nat} (hw : w < 64) (hi : i < 64) : (bitL w).toBitVec.getLsbD i = decide (w = i) := by
  rw [bitL_b w hw]
  show (BitVec.ofNat 64 (2 ^ w)).toNat.testBit i = _
  rw [BitVec.toNat_ofNat, Nat.mod_eq_of_lt (Nat.pow_lt_pow_right (by decide) hw), Nat.testBit_two_pow]
theorem hb_or {z : Int64} {w i : Nat} (hw : w < 64) (hi : i < 64) : hasB (z ||| bitL w) i = (hasB z i || decide (w = i)) := by
  rw [hb_bit hi, hb_bit hi, Int64.toBitVec_or, BitVec.getLsbD_or, bitL_g hw hi]
theorem hb_0 {w : Nat} (hw : w < 64) : hasB 0 w = false := by
  rw [hb_bit hw]
  show (0#64).getLsbD w = false
  exact BitVec.getLsbD_zero
theorem hb_z {z : Int64} (h : ∀ w, w < 64 → hasB z w = false) : z = 0 := by
  apply Int64.toBitVec_inj.mp
  apply BitVec.eq_of_getLsbD_eq
  intro i hi
  rw [← hb_bit hi, h i hi]
  show false = (0#64).getLsbD i
  exact BitVec.getLsbD_zero.symm
/-- the cell of a row and window -/
def TB.cs (t : TB) (bT : Nat → Int64) (bO : Nat → Nat) (r w : Nat) : CS := (hasB (t.th r) w, t.ce (r * t.wi + w), bT (r * t.wi + w), bO (r * t.wi + w))
theorem ix_ne {wi r w r' w' : Nat} (hw : w < wi) (hw' : w' < wi) (h : ¬ (r = r' ∧ w = w')) : ¬ r * wi + w = r' * wi + w' := by
  intro e
  have h1 : (r * wi + w) / wi = r := by rw [Nat.mul_comm, Nat.mul_add_div (by omega), Nat.div_eq_of_lt hw, Nat.add_zero]
  have h2 : (r' * wi + w') / wi = r' := by rw [Nat.mul_comm, Nat.mul_add_div (by omega), Nat.div_eq_of_lt hw', Nat.add_zero]
  have e1 : r = r' := by rw [← h1, ← h2, e]
  subst e1
  exact h ⟨rfl, by omega⟩
section MC
variable {fn : Int32} {x : VS} {M : MM} {o : Nat} {tm v : Int64} {r0 w0 : Nat}
theorem pt_cs {t : TB} {bT : Nat → Int64} {bO : Nat → Nat} {r w : Nat} {u : Int64} (h64 : t.wi ≤ 64) (hw : w < t.wi) (hw0 : w0 < t.wi) : (t.pt r w u).cs bT bO r0 w0 = if r = r0 ∧ w = w0 then (true, u, bT (r0 * t.wi + w0), bO (r0 * t.wi + w0)) else t.cs bT bO r0 w0 := by
  show (hasB (va_up t.th r (t.th r ||| bitL w) r0) w0, va_up t.ce (r * t.wi + w) u (r0 * t.wi + w0), bT (r0 * t.wi + w0), bO (r0 * t.wi + w0)) = _
  by_cases c : r = r0 ∧ w = w0
  · obtain ⟨rfl, rfl⟩ := c
    rw [if_pos ⟨rfl, rfl⟩, va_up_self, va_up_self, hb_or (by omega) (by omega), decide_eq_true rfl, Bool.or_true]
  · rw [if_neg c, va_up_ne _ _ (fun e => ix_ne hw hw0 c e.symm)]
    by_cases d : r0 = r
    · subst d
      rw [va_up_self, hb_or (by omega) (by omega), decide_eq_false (fun e => c ⟨rfl, e⟩), Bool.or_false]
      rfl
    · rw [va_up_ne _ _ d]
      rfl
/-- the class meets a point -/
theorem mm1_c (hfn : isFn fn) (hwi : M.1.wi = x.awi) (h64 : x.awi ≤ 64) (hw0 : w0 < x.awi) (hk : wOk x.afr x.awd x.awi tm) : ((mm1 fn x M o tm v).1.cs (mm1 fn x M o tm v).2.2.2.1 (mm1 fn x M o tm v).2.2.2.2 r0 w0) = (if ¬ woA x.afr x.awd x.awi tm = -1 ∧ i2n (x.aro o) = r0 ∧ i2n (woA x.afr x.awd x.awi tm) = w0 then clO fn (M.1.cs M.2.2.2.1 M.2.2.2.2 r0 w0) o tm v (M.2.1 o) (M.2.2.1 o) else M.1.cs M.2.2.2.1 M.2.2.2.2 r0 w0) ∧ (mm1 fn x M o tm v).1.wi = x.awi := by
  refine ⟨?_, (mqY_k.1).trans hwi⟩
  show (mqY fn M.1 (x.pb M) o tm v).cs (mqT fn M.1 (x.pb M) o tm) (mqO fn M.1 (x.pb M) o tm) r0 w0 = _
  unfold mqY mqT mqO
  have e0 : woA (x.pb M).afr (x.pb M).awd (x.pb M).awi tm = woA x.afr x.awd x.awi tm := rfl
  rw [e0]
  by_cases c : woA x.afr x.awd x.awi tm = -1
  · rw [if_pos c, if_pos c, if_pos c, if_neg (fun z => z.1 c)]
    rfl
  · rw [if_neg c, if_neg c, if_neg c]
    obtain ⟨w, hw, ew⟩ := hk.resolve_left c
    have ei : i2n (woA x.afr x.awd x.awi tm) = w := by rw [ew, i2n_of (by omega)]
    rw [ei]
    have er : i2n ((x.pb M).aro o) = i2n (x.aro o) := rfl
    rw [er]
    generalize i2n (x.aro o) = r
    have ec : (¬ woA x.afr x.awd x.awi tm = -1 ∧ r = r0 ∧ w = w0) ↔ (r = r0 ∧ w = w0) := ⟨fun z => z.2, fun z => ⟨c, z⟩⟩
    simp only [ec]
    have hw' : w < M.1.wi := by rw [hwi]; exact hw
    have hw0' : w0 < M.1.wi := by rw [hwi]; exact hw0
    have h64' : M.1.wi ≤ 64 := by rw [hwi]; exact h64
    have hb : (x.pb M).ahb = M.2.1 := rfl
    have bf : (x.pb M).abf = M.2.2.1 := rfl
    have bT : (x.pb M).bT = M.2.2.2.1 := rfl
    have bO : (x.pb M).bO = M.2.2.2.2 := rfl
    have aw : (x.pb M).awi = M.1.wi := hwi.symm
    by_cases f6 : fn = 6
    · have n45 : ¬ (fn = 4 ∨ fn = 5) := by rw [f6]; decide
      unfold mtT mxT mxO
      rw [if_pos f6, if_neg n45, if_neg n45, hb, bf, bT, bO]
      unfold gwT
      cases h : M.2.1 o with
      | true =>
        rw [if_pos rfl, pt_cs h64' hw' hw0']
        by_cases d : r = r0 ∧ w = w0
        · rw [if_pos d, if_pos d]
          obtain ⟨rfl, rfl⟩ := d
          subst f6
          rfl
        · rw [if_neg d, if_neg d]
      | false =>
        rw [if_neg (by decide)]
        by_cases d : r = r0 ∧ w = w0
        · rw [if_pos d]
          subst f6
          rfl
        · rw [if_neg d]
    by_cases f45 : fn = 4 ∨ fn = 5
    · unfold mtT mxT mxO ccB
      rw [if_neg f6, if_pos f45, if_pos f45, if_pos f45, bT, bO, aw]
      have cl : ∀ c : CS, clO fn c o tm v (M.2.1 o) (M.2.2.1 o) = if chsB fn c.1 tm c.2.2.1 o c.2.2.2 = true then (true, v, tm, o) else c := fun c => by
        unfold clO
        rw [if_neg (by rcases f45 with e | e <;> rw [e] <;> decide), if_neg (by rcases f45 with e | e <;> rw [e] <;> decide), if_neg (by rcases f45 with e | e <;> rw [e] <;> decide), if_neg (by rcases f45 with e | e <;> rw [e] <;> decide), if_neg f6]
      rw [cl]
      by_cases d : r = r0 ∧ w = w0
      · rw [if_pos d]
        obtain ⟨rfl, rfl⟩ := d
        show _ = if chsB fn (hasB (M.1.th r) w) tm (M.2.2.2.1 (r * M.1.wi + w)) o (M.2.2.2.2 (r * M.1.wi + w)) = true then _ else _
        cases g : chsB fn (hasB (M.1.th r) w) tm (M.2.2.2.1 (r * M.1.wi + w)) o (M.2.2.2.2 (r * M.1.wi + w)) with
        | true =>
          rw [if_pos rfl, if_pos rfl, if_pos rfl, if_pos rfl, pt_cs h64' hw' hw0', if_pos ⟨rfl, rfl⟩, va_up_self, va_up_self]
        | false =>
          rw [if_neg (by decide), if_neg (by decide), if_neg (by decide), if_neg (by decide)]
      · rw [if_neg d]
        have ne := ix_ne hw' hw0' d
        cases g : chsB fn (hasB (M.1.th r) w) tm (M.2.2.2.1 (r * M.1.wi + w)) o (M.2.2.2.2 (r * M.1.wi + w)) with
        | true =>
          rw [if_pos rfl, if_pos rfl, if_pos rfl, pt_cs h64' hw' hw0', if_neg d]
          unfold TB.cs
          rw [va_up_ne _ _ (fun e => ne e.symm), va_up_ne _ _ (fun e => ne e.symm)]
        | false =>
          rw [if_neg (by decide), if_neg (by decide), if_neg (by decide)]
    · unfold mxT mxO
      rw [mtT_0 f6 f45, if_neg f45, if_neg f45, bT, bO, pt_cs h64' hw' hw0']
      by_cases d : r = r0 ∧ w = w0
      · rw [if_pos d, if_pos d]
        obtain ⟨rfl, rfl⟩ := d
        have f03 : fn = 0 ∨ fn = 1 ∨ fn = 2 ∨ fn = 3 := by
          rcases hfn with e | e | e | e | e | e | e
          · exact Or.inl e
          · exact Or.inr (Or.inl e)
          · exact Or.inr (Or.inr (Or.inl e))
          · exact Or.inr (Or.inr (Or.inr e))
          · exact absurd (Or.inl e) f45
          · exact absurd (Or.inr e) f45
          · exact absurd e f6
        rcases f03 with e | e | e | e
        · subst e; rfl
        · subst e; rfl
        · subst e; rfl
        · subst e; rfl
      · rw [if_neg d, if_neg d]
end MC
