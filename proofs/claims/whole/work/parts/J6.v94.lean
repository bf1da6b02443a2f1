theorem v_names_1W (l : Launch) (D : va_G) (dA : Nat → ClassId) (sz : Nat) (h : Nat) (ad : Nat → Nat) (x : VS) (la : Nat → Nat) (g : LI) (AT : Nat → Nat → Nat) (T : Nat → TB) (rr : va_W) (hk9 : skP dA ad rr x la g AT T) (hz9 : 0 < g.sz) (ht : x.hasTable = true) : Met l ⟨"SeriesVault", "names", "()I"⟩ [Cond.code ⟨"SeriesVault", "names", "()I"⟩ prog_1_method_46_code 1 (some FieldType.int)] { frames := 5, cells := 0, slots := 0, locals := 84 } (pC D dA [.ref h] (VW dA h ad x) sz) (va_Qi (fun (r9 : Int32) (u9 : Unit) => r9 = nI (T 0).nc) (fun (u9 : Unit) t9 => bW D (va_A (VW dA h ad x) sz) (VW dA h ad x) t9) (va_A (VW dA h ad x) sz)) 0 0 (va_A (VW dA h ad x) sz) := by
  obtain ⟨k1, k2, k3, k4, k5, k6⟩ := hk9
  obtain ⟨R, hR⟩ := tbs_x (dA := dA) AT T hz9
  have a := sk_pm (L := LiW dA la g) (r := rr) (hR AT T (fun _ _ _ => ⟨rfl, rfl⟩))
  have p := llQ2 (dA := dA) (h := h) (ad := ad) (k1.trans a)
  rw [vaA_pm p]
  refine Met_mono (v_names_1 l D dA sz h ad (AT 0) (T 0) la g (VS.s_ll x (R ++ rr))  k2 k3 (by omega) hz9 (k6 _ hz9) ht) (Nat.le_refl _) (Nat.le_refl _) (Nat.le_refl _) (Nat.le_refl _) (Nat.le_refl _) (Nat.le_refl _) (fun _ _ q => pC_pm p q) ?_ (fun _ q => q)
  rintro b9 st o9 t9 ⟨⟨v9, u, c1, c2, c4⟩, c5⟩
  exact ⟨⟨v9, u, c1, c2, bW_pm p.symm c4⟩, c5⟩
theorem v_checkRow_1W (l : Launch) (D : va_G) (dA : Nat → ClassId) (sz : Nat) (h : Nat) (ad : Nat → Nat) (x : VS) (la : Nat → Nat) (g : LI) (AT : Nat → Nat → Nat) (T : Nat → TB) (rr : va_W) (r : Nat) (hk9 : skP dA ad rr x la g AT T) (hz9 : 0 < g.sz) (ht : x.hasTable = true) (hr1 : r < (T 0).rc) (hr2 : (T 0).rc ≤ 256) : Met l ⟨"SeriesVault", "checkRow", "(I)V"⟩ [Cond.code ⟨"SeriesVault", "checkRow", "(I)V"⟩ prog_1_method_50_code 2 none] { frames := 5, cells := 0, slots := 0, locals := 84 } (pC D dA [.ref h, .int (nI r)] (VW dA h ad x) sz) (va_Qv (fun (u9 : Unit) => True) (fun (u9 : Unit) t9 => bW D (va_A (VW dA h ad x) sz) (VW dA h ad x) t9) (va_A (VW dA h ad x) sz)) 0 0 (va_A (VW dA h ad x) sz) := by
  obtain ⟨k1, k2, k3, k4, k5, k6⟩ := hk9
  obtain ⟨R, hR⟩ := tbs_x (dA := dA) AT T hz9
  have a := sk_pm (L := LiW dA la g) (r := rr) (hR AT T (fun _ _ _ => ⟨rfl, rfl⟩))
  have p := llQ2 (dA := dA) (h := h) (ad := ad) (k1.trans a)
  rw [vaA_pm p]
  refine Met_mono (v_checkRow_1 l D dA sz h ad (AT 0) (T 0) la g (VS.s_ll x (R ++ rr)) r k2 k3 (by omega) hz9 (k6 _ hz9) ht hr1 hr2) (Nat.le_refl _) (Nat.le_refl _) (Nat.le_refl _) (Nat.le_refl _) (Nat.le_refl _) (Nat.le_refl _) (fun _ _ q => pC_pm p q) ?_ (fun _ q => q)
  rintro b9 st o9 t9 ⟨⟨u, c1, c2, c4⟩, c5⟩
  exact ⟨⟨u, c1, c2, bW_pm p.symm c4⟩, c5⟩
theorem v_isThere_1W (l : Launch) (D : va_G) (dA : Nat → ClassId) (sz : Nat) (h : Nat) (ad : Nat → Nat) (x : VS) (la : Nat → Nat) (g : LI) (AT : Nat → Nat → Nat) (T : Nat → TB) (rr : va_W) (r : Nat) (w : Nat) (hk9 : skP dA ad rr x la g AT T) (hz9 : 0 < g.sz) (ht : x.hasTable = true) (hr1 : r < (T 0).rc) (hr2 : (T 0).rc ≤ 256) (hw1 : w < (T 0).wi) (hw2 : (T 0).wi ≤ 64) : Met l ⟨"SeriesVault", "isThere", "(II)Z"⟩ [Cond.code ⟨"SeriesVault", "isThere", "(II)Z"⟩ prog_1_method_48_code 3 (some FieldType.boolean)] { frames := 7, cells := 0, slots := 0, locals := 127 } (pC D dA [.ref h, .int (nI r), .int (nI w)] (VW dA h ad x) sz) (va_Qi (fun (r9 : Int32) (u9 : Unit) => r9 = bI (hasB ((T 0).th r) w)) (fun (u9 : Unit) t9 => bW D (va_A (VW dA h ad x) sz) (VW dA h ad x) t9) (va_A (VW dA h ad x) sz)) 0 0 (va_A (VW dA h ad x) sz) := by
  obtain ⟨k1, k2, k3, k4, k5, k6⟩ := hk9
  obtain ⟨R, hR⟩ := tbs_x (dA := dA) AT T hz9
  have a := sk_pm (L := LiW dA la g) (r := rr) (hR AT T (fun _ _ _ => ⟨rfl, rfl⟩))
  have p := llQ2 (dA := dA) (h := h) (ad := ad) (k1.trans a)
  rw [vaA_pm p]
  refine Met_mono (v_isThere_1 l D dA sz h ad (AT 0) (T 0) la g (VS.s_ll x (R ++ rr)) r w k2 k3 (by omega) hz9 (k6 _ hz9) ht hr1 hr2 hw1 hw2) (Nat.le_refl _) (Nat.le_refl _) (Nat.le_refl _) (Nat.le_refl _) (Nat.le_refl _) (Nat.le_refl _) (fun _ _ q => pC_pm p q) ?_ (fun _ q => q)
  rintro b9 st o9 t9 ⟨⟨v9, u, c1, c2, c4⟩, c5⟩
  exact ⟨⟨v9, u, c1, c2, bW_pm p.symm c4⟩, c5⟩
theorem v_cell_1W (l : Launch) (D : va_G) (dA : Nat → ClassId) (sz : Nat) (h : Nat) (ad : Nat → Nat) (x : VS) (la : Nat → Nat) (g : LI) (AT : Nat → Nat → Nat) (T : Nat → TB) (rr : va_W) (r : Nat) (w : Nat) (hk9 : skP dA ad rr x la g AT T) (hz9 : 0 < g.sz) (ht : x.hasTable = true) (hr1 : r < (T 0).rc) (hr2 : (T 0).rc ≤ 256) (hw1 : w < (T 0).wi) (hw2 : (T 0).wi ≤ 64) (hcN : (T 0).cN ≤ 65536) (hrc : (T 0).rc * (T 0).wi ≤ (T 0).cN) : Met l ⟨"SeriesVault", "cell", "(II)J"⟩ [Cond.code ⟨"SeriesVault", "cell", "(II)J"⟩ prog_1_method_49_code 4 (some FieldType.long)] { frames := 7, cells := 0, slots := 0, locals := 127 } (pC D dA [.ref h, .int (nI r), .int (nI w)] (VW dA h ad x) sz) (va_Ql (fun (r9 : Int64) (u9 : Unit) => r9 = if hasB ((T 0).th r) w = true then (T 0).ce (r * (T 0).wi + w) else 0) (fun (u9 : Unit) t9 => bW D (va_A (VW dA h ad x) sz) (VW dA h ad x) t9) (va_A (VW dA h ad x) sz)) 0 0 (va_A (VW dA h ad x) sz) := by
  obtain ⟨k1, k2, k3, k4, k5, k6⟩ := hk9
  obtain ⟨R, hR⟩ := tbs_x (dA := dA) AT T hz9
  have a := sk_pm (L := LiW dA la g) (r := rr) (hR AT T (fun _ _ _ => ⟨rfl, rfl⟩))
  have p := llQ2 (dA := dA) (h := h) (ad := ad) (k1.trans a)
  rw [vaA_pm p]
  refine Met_mono (v_cell_1 l D dA sz h ad (AT 0) (T 0) la g (VS.s_ll x (R ++ rr)) r w k2 k3 (by omega) hz9 (k6 _ hz9) ht hr1 hr2 hw1 hw2 hcN hrc) (Nat.le_refl _) (Nat.le_refl _) (Nat.le_refl _) (Nat.le_refl _) (Nat.le_refl _) (Nat.le_refl _) (fun _ _ q => pC_pm p q) ?_ (fun _ q => q)
  rintro b9 st o9 t9 ⟨⟨v9, u, c1, c2, c4⟩, c5⟩
  exact ⟨⟨v9, u, c1, c2, bW_pm p.symm c4⟩, c5⟩
theorem v_text_nW (l : Launch) (D : va_G) (dA : Nat → ClassId) (sz : Nat) (h : Nat) (ad : Nat → Nat) (x : VS) (la : Nat → Nat) (g : LI) (AT : Nat → Nat → Nat) (T : Nat → TB) (rr : va_W) (r : Nat) (k : Int32) (i : Int32) (hk9 : skP dA ad rr x la g AT T) (hz9 : 0 < g.sz) (ht : x.hasTable = true) (hr1 : r < (T 0).rc) (hr2 : (T 0).rc ≤ 256) (hnc : (T 0).nc ≤ 6) (h0 : k < 0 ∨ nI (T 0).nc ≤ k) : Met l ⟨"SeriesVault", "text", "(III)I"⟩ [Cond.code ⟨"SeriesVault", "text", "(III)I"⟩ prog_1_method_47_code 5 (some FieldType.int)] { frames := 6, cells := 0, slots := 0, locals := 105 } (pC D dA [.ref h, .int (nI r), .int k, .int i] (VW dA h ad x) sz) (va_Qi (fun (r9 : Int32) (u9 : Unit) => r9 = (-1)) (fun (u9 : Unit) t9 => bW D (va_A (VW dA h ad x) sz) (VW dA h ad x) t9) (va_A (VW dA h ad x) sz)) 0 0 (va_A (VW dA h ad x) sz) := by
  obtain ⟨k1, k2, k3, k4, k5, k6⟩ := hk9
  obtain ⟨R, hR⟩ := tbs_x (dA := dA) AT T hz9
  have a := sk_pm (L := LiW dA la g) (r := rr) (hR AT T (fun _ _ _ => ⟨rfl, rfl⟩))
  have p := llQ2 (dA := dA) (h := h) (ad := ad) (k1.trans a)
  rw [vaA_pm p]
  refine Met_mono (v_text_n l D dA sz h ad (AT 0) (T 0) la g (VS.s_ll x (R ++ rr)) r k i k2 k3 (by omega) hz9 (k6 _ hz9) ht hr1 hr2 hnc h0) (Nat.le_refl _) (Nat.le_refl _) (Nat.le_refl _) (Nat.le_refl _) (Nat.le_refl _) (Nat.le_refl _) (fun _ _ q => pC_pm p q) ?_ (fun _ q => q)
  rintro b9 st o9 t9 ⟨⟨v9, u, c1, c2, c4⟩, c5⟩
  exact ⟨⟨v9, u, c1, c2, bW_pm p.symm c4⟩, c5⟩
theorem v_text_1W (l : Launch) (D : va_G) (dA : Nat → ClassId) (sz : Nat) (h : Nat) (ad : Nat → Nat) (x : VS) (la : Nat → Nat) (g : LI) (AT : Nat → Nat → Nat) (T : Nat → TB) (rr : va_W) (r : Nat) (NL : Nat → List Int32) (RS : Nat → List LB) (k : Nat) (i : Nat) (hk9 : skP dA ad rr x la g AT T) (hz9 : 0 < g.sz) (ht : x.hasTable = true) (hr1 : r < (T 0).rc) (hr2 : (T 0).rc ≤ 256) (hnc : (T 0).nc ≤ 6) (hnm : nmOk dA x.pl (T 0).nm (T 0).nc NL) (hrs : rsOk dA x.pl (T 0).rs (T 0).rc RS) (hk : k < (T 0).nc) (hi : i < (valS (RS r) (NL k)).length) : Met l ⟨"SeriesVault", "text", "(III)I"⟩ [Cond.code ⟨"SeriesVault", "text", "(III)I"⟩ prog_1_method_47_code 5 (some FieldType.int)] { frames := 6, cells := 0, slots := 0, locals := 105 } (pC D dA [.ref h, .int (nI r), .int (nI k), .int (nI i)] (VW dA h ad x) sz) (va_Qi (fun (r9 : Int32) (u9 : Unit) => r9 = (valS (RS r) (NL k)).getD i 0 &&& 255) (fun (u9 : Unit) t9 => bW D (va_A (VW dA h ad x) sz) (VW dA h ad x) t9) (va_A (VW dA h ad x) sz)) 0 0 (va_A (VW dA h ad x) sz) := by
  obtain ⟨k1, k2, k3, k4, k5, k6⟩ := hk9
  obtain ⟨R, hR⟩ := tbs_x (dA := dA) AT T hz9
  have a := sk_pm (L := LiW dA la g) (r := rr) (hR AT T (fun _ _ _ => ⟨rfl, rfl⟩))
  have p := llQ2 (dA := dA) (h := h) (ad := ad) (k1.trans a)
  rw [vaA_pm p]
  refine Met_mono (v_text_1 l D dA sz h ad (AT 0) (T 0) la g (VS.s_ll x (R ++ rr)) r NL RS k i k2 k3 (by omega) hz9 (k6 _ hz9) ht hr1 hr2 hnc hnm hrs hk hi) (Nat.le_refl _) (Nat.le_refl _) (Nat.le_refl _) (Nat.le_refl _) (Nat.le_refl _) (Nat.le_refl _) (fun _ _ q => pC_pm p q) ?_ (fun _ q => q)
  rintro b9 st o9 t9 ⟨⟨v9, u, c1, c2, c4⟩, c5⟩
  exact ⟨⟨v9, u, c1, c2, bW_pm p.symm c4⟩, c5⟩
theorem v_text_0W (l : Launch) (D : va_G) (dA : Nat → ClassId) (sz : Nat) (h : Nat) (ad : Nat → Nat) (x : VS) (la : Nat → Nat) (g : LI) (AT : Nat → Nat → Nat) (T : Nat → TB) (rr : va_W) (r : Nat) (NL : Nat → List Int32) (RS : Nat → List LB) (k : Nat) (i : Int32) (hk9 : skP dA ad rr x la g AT T) (hz9 : 0 < g.sz) (ht : x.hasTable = true) (hr1 : r < (T 0).rc) (hr2 : (T 0).rc ≤ 256) (hnc : (T 0).nc ≤ 6) (hnm : nmOk dA x.pl (T 0).nm (T 0).nc NL) (hrs : rsOk dA x.pl (T 0).rs (T 0).rc RS) (hk : k < (T 0).nc) (hi : i < 0 ∨ nI (valS (RS r) (NL k)).length ≤ i) : Met l ⟨"SeriesVault", "text", "(III)I"⟩ [Cond.code ⟨"SeriesVault", "text", "(III)I"⟩ prog_1_method_47_code 5 (some FieldType.int)] { frames := 6, cells := 0, slots := 0, locals := 105 } (pC D dA [.ref h, .int (nI r), .int (nI k), .int i] (VW dA h ad x) sz) (va_Qi (fun (r9 : Int32) (u9 : Unit) => r9 = (-1)) (fun (u9 : Unit) t9 => bW D (va_A (VW dA h ad x) sz) (VW dA h ad x) t9) (va_A (VW dA h ad x) sz)) 0 0 (va_A (VW dA h ad x) sz) := by
  obtain ⟨k1, k2, k3, k4, k5, k6⟩ := hk9
  obtain ⟨R, hR⟩ := tbs_x (dA := dA) AT T hz9
  have a := sk_pm (L := LiW dA la g) (r := rr) (hR AT T (fun _ _ _ => ⟨rfl, rfl⟩))
  have p := llQ2 (dA := dA) (h := h) (ad := ad) (k1.trans a)
  rw [vaA_pm p]
  refine Met_mono (v_text_0 l D dA sz h ad (AT 0) (T 0) la g (VS.s_ll x (R ++ rr)) r NL RS k i k2 k3 (by omega) hz9 (k6 _ hz9) ht hr1 hr2 hnc hnm hrs hk hi) (Nat.le_refl _) (Nat.le_refl _) (Nat.le_refl _) (Nat.le_refl _) (Nat.le_refl _) (Nat.le_refl _) (fun _ _ q => pC_pm p q) ?_ (fun _ q => q)
  rintro b9 st o9 t9 ⟨⟨v9, u, c1, c2, c4⟩, c5⟩
  exact ⟨⟨v9, u, c1, c2, bW_pm p.symm c4⟩, c5⟩
