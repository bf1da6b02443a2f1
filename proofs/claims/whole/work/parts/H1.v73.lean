/-! Room for cells and for the best points, whether it is there or not. -/
def clS (t : TB) : Nat := if t.rc * t.wi ≤ t.cN then 0 else max (t.rc * t.wi) (2 * t.cN)
def clT (t : TB) (q : Nat) : TB := if t.rc * t.wi ≤ t.cN then TB.s_ce (TB.s_th t (filG t.th 0 0 t.rc)) (filG t.ce 0 0 (t.rc * t.wi)) else TB.s_ce (TB.s_cN (TB.s_cA (TB.s_th t (filG t.th 0 0 t.rc)) q) (max (t.rc * t.wi) (2 * t.cN))) (filG (fun _ => 0) 0 0 (t.rc * t.wi))
def beS (x : VS) (n : Nat) : Nat := if n ≤ x.bN then 0 else 2 * max n (2 * x.bN)
/-- the rows of best points behind it -/
def beR (x : VS) (n : Nat) (q : (Nat → Nat) × Nat × (Nat → Int64) × (Nat → Nat)) : Prop := (n ≤ x.bN ∧ q = (x.bA, x.bN, x.bT, x.bO)) ∨ (x.bN < n ∧ q.2.1 = max n (2 * x.bN) ∧ q.2.2.1 = (fun _ => 0) ∧ q.2.2.2 = (fun _ => 0))
def beX (x : VS) (q : (Nat → Nat) × Nat × (Nat → Int64) × (Nat → Nat)) : VS := VS.s_bO (VS.s_bT (VS.s_bN (VS.s_bA x q.1) q.2.1) q.2.2.1) q.2.2.2
theorem clT_k (t : TB) (q : Nat) : (clT t q).wi = t.wi ∧ (clT t q).rc = t.rc ∧ (clT t q).rs = t.rs ∧ (clT t q).nm = t.nm ∧ (clT t q).nc = t.nc ∧ t.rc * t.wi ≤ (clT t q).cN := by
  unfold clT
  split
  · exact ⟨rfl, rfl, rfl, rfl, rfl, by assumption⟩
  · exact ⟨rfl, rfl, rfl, rfl, rfl, Nat.le_max_left _ _⟩
theorem v_TclearQ (l : Launch) (D : va_G) (dA : Nat → ClassId) (sz : Nat) (ws : va_W) (ta : Nat → Nat) (t : TB) (hN : t.cN ≤ 65536) (h2 : t.rc ≤ 256) (h3 : t.rc * t.wi ≤ 16384) : Met l ⟨"SeriesVault$Table", "clearCells", "()V"⟩ [Cond.code ⟨"SeriesVault$Table", "clearCells", "()V"⟩ prog_11_method_8_code 2 none] { frames := 3, cells := 1, slots := clS t, locals := 47 } (pC D dA [.ref (ta 0)] (TbW dA ta t ++ (ws)) sz) (va_Qv (fun (u9 : TB) => ∃ q, u9 = clT t q) (fun (u9 : TB) t9 => bW D (va_A (TbW dA ta t ++ (ws)) sz) (TbW dA ta u9 ++ (ws)) t9) (va_A (TbW dA ta t ++ (ws)) sz)) 1 (clS t) (va_A (TbW dA ta t ++ (ws)) sz) := by
  by_cases h : t.rc * t.wi ≤ t.cN
  · rw [show clS t = 0 from if_pos h]
    refine Met_mono (v_TclearCells_0 l D dA sz ws ta t hN h h2) (Nat.le_of_ble_eq_true rfl) (Nat.le_of_ble_eq_true rfl) (Nat.le_refl _) (Nat.le_of_ble_eq_true rfl) (Nat.le_of_ble_eq_true rfl) (Nat.le_refl _) (fun _ _ q => q) ?_ (fun _ q => q)
    rintro b9 st oc tt ⟨⟨u, c1, -, c3⟩, c4⟩
    exact ⟨⟨_, c1, ⟨0, (if_pos h).symm⟩, c3⟩, c4⟩
  · rw [show clS t = max (t.rc * t.wi) (2 * t.cN) from if_neg h]
    refine Met_mono (v_TclearCells_1 l D dA sz ws ta t hN (by omega) h2 h3) (Nat.le_of_ble_eq_true rfl) (Nat.le_refl _) (Nat.le_refl _) (Nat.le_of_ble_eq_true rfl) (Nat.le_refl _) (Nat.le_refl _) (fun _ _ q => q) ?_ (fun _ q => q)
    rintro b9 st oc tt ⟨⟨u, c1, -, c3⟩, c4⟩
    exact ⟨⟨_, c1, ⟨u, (if_neg h).symm⟩, c3⟩, c4⟩
theorem v_bestQ (l : Launch) (D : va_G) (dA : Nat → ClassId) (sz : Nat) (h : Nat) (ad : Nat → Nat) (x : VS) (n : Nat) (h1 : x.bN ≤ 65536) (h2 : n ≤ 16384) : Met l ⟨"SeriesVault$Answers", "makeBestRoom", "(I)V"⟩ [Cond.code ⟨"SeriesVault$Answers", "makeBestRoom", "(I)V"⟩ prog_2_method_7_code 3 none] { frames := 1, cells := 2, slots := beS x n, locals := 13 } (pC D dA [.ref (ad 24), .int (nI n)] (VW dA h ad x) sz) (va_Qv (fun (u9 : (Nat → Nat) × Nat × (Nat → Int64) × (Nat → Nat)) => beR x n (u9.1, u9.2.1, u9.2.2.1, u9.2.2.2)) (fun (u9 : (Nat → Nat) × Nat × (Nat → Int64) × (Nat → Nat)) t9 => bW D (va_A (VW dA h ad x) sz) (VW dA h ad (VS.s_bO (VS.s_bT (VS.s_bN (VS.s_bA x u9.1) u9.2.1) u9.2.2.1) u9.2.2.2)) t9) (va_A (VW dA h ad x) sz)) 2 (beS x n) (va_A (VW dA h ad x) sz) := by
  by_cases hb : n ≤ x.bN
  · rw [show beS x n = 0 from if_pos hb]
    refine Met_mono (v_makeBestRoom_0 l D dA sz h ad x n hb h1) (Nat.le_of_ble_eq_true rfl) (Nat.le_of_ble_eq_true rfl) (Nat.le_refl _) (Nat.le_of_ble_eq_true rfl) (Nat.le_of_ble_eq_true rfl) (Nat.le_refl _) (fun _ _ q => q) ?_ (fun _ q => q)
    rintro b9 st oc tt ⟨⟨u, c1, -, c3⟩, c4⟩
    exact ⟨⟨(x.bA, x.bN, x.bT, x.bO), c1, Or.inl ⟨hb, rfl⟩, c3⟩, c4⟩
  · rw [show beS x n = 2 * max n (2 * x.bN) from if_neg hb]
    refine Met_mono (v_makeBestRoom_1 l D dA sz h ad x n (by omega) h2) (Nat.le_of_ble_eq_true rfl) (Nat.le_refl _) (Nat.le_refl _) (Nat.le_of_ble_eq_true rfl) (Nat.le_refl _) (Nat.le_refl _) (fun _ _ q => q) ?_ (fun _ q => q)
    rintro b9 st oc tt ⟨⟨u, c1, -, c3⟩, c4⟩
    exact ⟨⟨(va_up (va_up x.bA 0 u.1) 1 u.2, max n (2 * x.bN), fun _ => 0, fun _ => 0), c1, Or.inr ⟨by omega, rfl, rfl, rfl⟩, c3⟩, c4⟩
