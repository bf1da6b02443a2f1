/-! Points met, one after the other. -/
theorem i2n_of {a : Nat} (h : a < 2 ^ 31) : i2n (nI a) = a := nI_clamp h
def wOk (fr wd : Int64) (n : Nat) (tm : Int64) : Prop := woA fr wd n tm = (-1) ∨ ∃ w, w < n ∧ woA fr wd n tm = nI w
section MQ
variable (fn : Int32) (t : TB) (x : VS) (o : Nat) (tm v : Int64)
def mqY : TB := if woA x.afr x.awd x.awi tm = (-1) then t else mtT fn t x (i2n (x.aro o)) (i2n (woA x.afr x.awd x.awi tm)) o tm v
def mqT : Nat → Int64 := if woA x.afr x.awd x.awi tm = (-1) then x.bT else mxT fn t x (i2n (x.aro o)) (i2n (woA x.afr x.awd x.awi tm)) o tm
def mqO : Nat → Nat := if woA x.afr x.awd x.awi tm = (-1) then x.bO else mxO fn t x (i2n (x.aro o)) (i2n (woA x.afr x.awd x.awi tm)) o tm
def mqX : VS := VS.s_bO (VS.s_bT (VS.s_abf (VS.s_ahb x (va_up x.ahb o true)) (va_up x.abf o v)) (mqT fn t x o tm)) (mqO fn t x o tm)
end MQ
theorem mq_n {fn : Int32} {t : TB} {x : VS} {o : Nat} {tm v : Int64} (h : woA x.afr x.awd x.awi tm = (-1)) : mqY fn t x o tm v = t ∧ mqX fn t x o tm v = VS.s_abf (VS.s_ahb x (va_up x.ahb o true)) (va_up x.abf o v) := by
  refine ⟨if_pos h, ?_⟩
  unfold mqX mqT mqO
  rw [if_pos h, if_pos h]
theorem wA_n {w : Nat} (h : w ≤ 64) : ¬ nI w = (-1 : Int32) := by
  intro e
  have := congrArg Int32.toInt e
  rw [show (-1 : Int32).toInt = -1 by decide] at this
  have h2 : (nI w).toInt = (w : Int) := nI_toInt (by omega)
  omega
theorem mq_w {fn : Int32} {t : TB} {x : VS} {o r w : Nat} {tm v : Int64} (hw : woA x.afr x.awd x.awi tm = nI w) (hw2 : w ≤ 64) (hr : x.aro o = nI r) (hr2 : r < 2 ^ 31) : mqY fn t x o tm v = mtT fn t x r w o tm v ∧ mqX fn t x o tm v = meX fn t x r w o tm v := by
  have n : ¬ woA x.afr x.awd x.awi tm = (-1) := by rw [hw]; exact wA_n hw2
  have e1 : i2n (x.aro o) = r := by rw [hr]; exact i2n_of hr2
  have e2 : i2n (woA x.afr x.awd x.awi tm) = w := by rw [hw]; exact i2n_of (by omega)
  refine ⟨?_, ?_⟩
  · unfold mqY
    rw [if_neg n, e1, e2]
  · unfold mqX mqT mqO
    rw [if_neg n, if_neg n, e1, e2, meX_e]
theorem mul_in {r c wi w n : Nat} (h1 : r < c) (h2 : w < wi) (h3 : c * wi ≤ n) : r * wi + w < n := by
  have h4 : (r + 1) * wi ≤ c * wi := Nat.mul_le_mul_right wi h1
  rw [Nat.succ_mul] at h4
  omega
theorem v_meetQ (l : Launch) (D : va_G) (dA : Nat → ClassId) (sz : Nat) (h : Nat) (ad : Nat → Nat) (ta : Nat → Nat) (t : TB) (x : VS) (fn : Int32) (o : Nat) (tm : Int64) (v : Int64) (r : Nat) (hwi : x.awi ≤ 64) (hW : wOk x.afr x.awd x.awi tm) (hro : x.aro o = nI r) (hr : r < t.rc) (hrc : t.rc ≤ 256) (hcN : t.cN ≤ 65536) (hwt : t.wi = x.awi) (h1 : t.rc * t.wi ≤ t.cN) (h3 : o < 256) (h4 : t.rc * x.awi ≤ x.bN) (h5 : x.bN ≤ 65536) (h6 : ∀ k : Nat, x.bO k < 256) (hfn : isFn fn) : Met l ⟨"SeriesVault$Answers", "meet", "(ILSeriesVault$Table;IJJ)V"⟩ [Cond.code ⟨"SeriesVault$Answers", "meet", "(ILSeriesVault$Table;IJJ)V"⟩ prog_2_method_9_code 10 none] { frames := 4, cells := 0, slots := 0, locals := 300 } (pC D dA [.ref (ad 24), .int fn, .ref (ta 0), .int (nI o), .long tm, .long v] (TbW dA ta t ++ (VW dA h ad x)) sz) (va_Qv (fun (u9 : TB) => u9 = mqY fn t x o tm v) (fun (u9 : TB) t9 => bW D (va_A (TbW dA ta t ++ (VW dA h ad x)) sz) (TbW dA ta u9 ++ (VW dA h ad (VS.s_bO (VS.s_bT (VS.s_abf (VS.s_ahb x (va_up x.ahb o true)) (va_up x.abf o v)) (mqT fn t x o tm)) (mqO fn t x o tm)))) t9) (va_A (TbW dA ta t ++ (VW dA h ad x)) sz)) 0 0 (va_A (TbW dA ta t ++ (VW dA h ad x)) sz) := by
  rcases hW with hw | ⟨w, hw2, hw⟩
  · obtain ⟨e1, e2⟩ := mq_n (fn := fn) (t := t) (o := o) (v := v) hw
    refine Met_mono (v_meet_n l D dA sz h ad ta t x fn o tm v hwi hw h3) (Nat.le_of_ble_eq_true rfl) (Nat.le_refl _) (Nat.le_refl _) (Nat.le_of_ble_eq_true rfl) (Nat.le_refl _) (Nat.le_refl _) (fun _ _ q => q) ?_ (fun _ q => q)
    rintro b9 st oc tt ⟨⟨u, c1, -, c3⟩, c4⟩
    refine ⟨⟨t, c1, e1.symm, ?_⟩, c4⟩
    show bW D _ (TbW dA ta t ++ VW dA h ad (mqX fn t x o tm v)) tt
    rw [e2]
    exact c3
  · obtain ⟨e1, e2⟩ := mq_w (fn := fn) (t := t) (v := v) hw (by omega) hro (by omega)
    have i1 := mul_in hr (show w < t.wi by omega) h1
    have i2 := mul_in hr hw2 h4
    refine Met_mono (v_meet l D dA sz h ad ta t x fn o tm v r w hwi hw hw2 hro hcN i1 (by omega) h3 i2 h5 (h6 _) hfn) (Nat.le_of_ble_eq_true rfl) (Nat.le_refl _) (Nat.le_refl _) (Nat.le_of_ble_eq_true rfl) (Nat.le_refl _) (Nat.le_refl _) (fun _ _ q => q) ?_ (fun _ q => q)
    rintro b9 st oc tt ⟨⟨u, c1, c2, c3⟩, c4⟩
    obtain ⟨d1, d2⟩ := c2
    refine ⟨⟨u.1, c1, d1.trans e1.symm, ?_⟩, c4⟩
    show bW D _ (TbW dA ta u.1 ++ VW dA h ad (mqX fn t x o tm v)) tt
    rw [e2, ← d2]
    exact c3
