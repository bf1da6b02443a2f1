/-! Two and three chunks out of ll and into it. -/
section LL
variable {dA : Nat → ClassId} {h : Nat} {ad : Nat → Nat}
theorem llQ2 {x : VS} {A B r : va_W} (e : x.ll.Perm (A ++ (B ++ r))) : (VW dA h ad x).Perm (A ++ (B ++ VW dA h ad (VS.s_ll x r))) := by
  have a := llQ (dA := dA) (h := h) (ad := ad) (x := x) (L := A ++ B) (r := r) (by rw [List.append_assoc]; exact e)
  rw [List.append_assoc] at a
  exact a
theorem llQ3 {x : VS} {A B C r : va_W} (e : x.ll.Perm (A ++ (B ++ (C ++ r)))) : (VW dA h ad x).Perm (A ++ (B ++ (C ++ VW dA h ad (VS.s_ll x r)))) := by
  have a := llQ (dA := dA) (h := h) (ad := ad) (x := x) (L := A ++ (B ++ C)) (r := r) (by rw [List.append_assoc, List.append_assoc]; exact e)
  rw [List.append_assoc, List.append_assoc] at a
  exact a
theorem llT2 (y : VS) (A B : va_W) : (A ++ (B ++ VW dA h ad y)).Perm (VW dA h ad (VS.s_ll y (A ++ (B ++ y.ll)))) := by
  have a := llT (dA := dA) (h := h) (ad := ad) y (A ++ B)
  rw [List.append_assoc, List.append_assoc] at a
  exact a
theorem llT3 (y : VS) (A B C : va_W) : (A ++ (B ++ (C ++ VW dA h ad y))).Perm (VW dA h ad (VS.s_ll y (A ++ (B ++ (C ++ y.ll))))) := by
  have a := llT (dA := dA) (h := h) (ad := ad) y (A ++ (B ++ C))
  rw [List.append_assoc, List.append_assoc, List.append_assoc, List.append_assoc] at a
  exact a
end LL
theorem tbs_up {dA : Nat → ClassId} {AT : Nat → Nat → Nat} {T : Nat → TB} {n : Nat} {a : Nat → Nat} {t : TB} : tbs dA (va_up AT n a) (va_up T n t) (n + 1) = TbW dA a t ++ tbs dA AT T n := by
  show TbW dA (va_up AT n a n) (va_up T n t n) ++ tbs dA (va_up AT n a) (va_up T n t) n = _
  rw [va_up_self, va_up_self, tbs_e (AT := AT) (T := T) (fun j hj => ⟨va_up_ne _ _ (Nat.ne_of_lt hj), va_up_ne _ _ (Nat.ne_of_lt hj)⟩)]
/-- a table on top of the stack -/
def pgN (g : LI) : Nat := if g.sz < g.eN then g.eN else g.eN + max 1 (g.eN / 2)
def psC (x : VS) (g : LI) : Nat := if x.adep < g.sz then 0 else 6
def psS (x : VS) (g : LI) : Nat := if x.adep < g.sz then 0 else 589 + (if g.sz < g.eN then 0 else g.eN + max 1 (g.eN / 2))
def psR (dA : Nat → ClassId) (ad : Nat → Nat) (r : va_W) (la : Nat → Nat) (x : VS) (g : LI) (AT : Nat → Nat → Nat) (T : Nat → TB) (y : VS) (g' : LI) (AT' : Nat → Nat → Nat) (T' : Nat → TB) : Prop := y = VS.s_ll (VS.s_adep x (x.adep + 1)) y.ll ∧ skP dA ad r y la g' AT' T' ∧ ((x.adep < g.sz ∧ g' = g ∧ AT' = AT ∧ T' = T) ∨ (x.adep = g.sz ∧ g'.sz = g.sz + 1 ∧ g'.eN = pgN g ∧ (∀ i, i ≠ g.sz → AT' i = AT i ∧ T' i = T i) ∧ ∃ q : Nat, T' g.sz = tb0 q))
theorem sk_pm {dA : Nat → ClassId} {AT : Nat → Nat → Nat} {T : Nat → TB} {n i : Nat} {R L r : va_W} (a : (tbs dA AT T n).Perm (TbW dA (AT i) (T i) ++ R)) : (L ++ (tbs dA AT T n ++ r)).Perm (TbW dA (AT i) (T i) ++ (L ++ (R ++ r))) := by
  refine (List.Perm.append_left L (List.Perm.append_right r a)).trans ?_
  rw [List.append_assoc]
  exact List.perm_append_comm_assoc _ _ _
theorem sk_pm2 {dA : Nat → ClassId} {AT : Nat → Nat → Nat} {T : Nat → TB} {n i j : Nat} {R L r : va_W} (a : (tbs dA AT T n).Perm (TbW dA (AT i) (T i) ++ (TbW dA (AT j) (T j) ++ R))) : (L ++ (tbs dA AT T n ++ r)).Perm (TbW dA (AT i) (T i) ++ (TbW dA (AT j) (T j) ++ (L ++ (R ++ r)))) := by
  refine (List.Perm.append_left L (List.Perm.append_right r a)).trans ?_
  rw [List.append_assoc, List.append_assoc]
  exact (List.perm_append_comm_assoc _ _ _).trans (List.Perm.append_left _ (List.perm_append_comm_assoc _ _ _))
theorem tb_hd {dA : Nat → ClassId} {ta : Nat → Nat} {t : TB} : ∃ vs : List Value, (ta 0, .inr (8, vs)) ∈ TbW dA ta t := ⟨_, List.mem_of_getElem? (i := 0) rfl⟩
/-- two tables joined: how, and what becomes of them -/
def jnC (NL NR : Nat → List Int32) (t u : TB) : Nat := if namB NL NR t.nc u.nc = true then 0 else if u.nc = 0 then 1 else if t.nc = 0 then 2 else 3
def jnT (sg : Int32) (NL : Nat → List Int32) (RS RU : Nat → List LB) (t u : TB) (k : Nat) : TB := if k = 0 then (if t.nc = 0 then TB.j0 sg t u else TB.jm sg NL t u RS RU) else if k = 1 then (if u.rc = 0 then TB.de (TB.s_rc t 0) else (jsL sg t u t.rc).de) else (if t.rc = 0 then TB.de (TB.s_rc u 0) else (jsR sg u t u.rc).de)
/-- a table of the stack: its names, its rows -/
def tbK (dA : Nat → ClassId) (pl : va_W) (wi : Nat) (t : TB) (NL : Nat → List Int32) (RS : Nat → List LB) : Prop := nmOk dA pl t.nm t.nc NL ∧ t.nc ≤ 6 ∧ (0 < t.nc → rsOk dA pl t.rs t.rc RS) ∧ rsAll dA pl t.rs ∧ t.rc ≤ 256 ∧ t.wi = wi ∧ t.rc * t.wi ≤ t.cN ∧ t.cN ≤ 65536 ∧ (t.nc = 0 → t.rc ≤ 1)
def jnZ (dA : Nat → ClassId) (ad : Nat → Nat) (r : va_W) (la : Nat → Nat) (sg : Int32) (NL NR : Nat → List Int32) (RS RU : Nat → List LB) (x : VS) (g : LI) (AT : Nat → Nat → Nat) (T : Nat → TB) (y : VS) (g' : LI) (AT' : Nat → Nat → Nat) (T' : Nat → TB) : Prop := y = VS.s_ll (VS.s_adep x (x.adep - 1)) y.ll ∧ skP dA ad r y la g' AT' T' ∧ g'.sz = g.sz ∧ g'.eN = g.eN ∧ (jnC NL NR (T (x.adep - 2)) (T (x.adep - 1)) ≤ 1 → AT' = AT ∧ T' = va_up T (x.adep - 2) (jnT sg NL RS RU (T (x.adep - 2)) (T (x.adep - 1)) (jnC NL NR (T (x.adep - 2)) (T (x.adep - 1))))) ∧ (jnC NL NR (T (x.adep - 2)) (T (x.adep - 1)) = 2 → AT' = va_up (va_up AT (x.adep - 2) (AT (x.adep - 1))) (x.adep - 1) (AT (x.adep - 2)) ∧ T' = va_up (va_up T (x.adep - 2) (jnT sg NL RS RU (T (x.adep - 2)) (T (x.adep - 1)) (jnC NL NR (T (x.adep - 2)) (T (x.adep - 1))))) (x.adep - 1) (T (x.adep - 2))) ∧ (jnC NL NR (T (x.adep - 2)) (T (x.adep - 1)) = 3 → AT' = AT ∧ T' = T)
theorem jc_0 {NL NR : Nat → List Int32} {t u : TB} (h : namB NL NR t.nc u.nc = true) : jnC NL NR t u = 0 := if_pos h
theorem jc_1 {NL NR : Nat → List Int32} {t u : TB} (h : namB NL NR t.nc u.nc = false) (h2 : u.nc = 0) : jnC NL NR t u = 1 := by unfold jnC; rw [if_neg (by rw [h]; decide), if_pos h2]
theorem jc_2 {NL NR : Nat → List Int32} {t u : TB} (h : namB NL NR t.nc u.nc = false) (h2 : ¬ u.nc = 0) (h3 : t.nc = 0) : jnC NL NR t u = 2 := by unfold jnC; rw [if_neg (by rw [h]; decide), if_neg h2, if_pos h3]
theorem jc_3 {NL NR : Nat → List Int32} {t u : TB} (h : namB NL NR t.nc u.nc = false) (h2 : ¬ u.nc = 0) (h3 : ¬ t.nc = 0) : jnC NL NR t u = 3 := by unfold jnC; rw [if_neg (by rw [h]; decide), if_neg h2, if_neg h3]
theorem nam_nc {NL NR : Nat → List Int32} {n m : Nat} (h : namB NL NR n m = true) : n = m := by
  unfold namB at h
  rw [Bool.and_eq_true] at h
  exact of_decide_eq_true h.1
theorem v_pushW (l : Launch) (D : va_G) (dA : Nat → ClassId) (sz : Nat) (e0 mi : Nat) (h : Nat) (ad : Nat → Nat) (x : VS) (la : Nat → Nat) (g : LI) (AT : Nat → Nat → Nat) (T : Nat → TB) (r : va_W) (hk : skP dA ad r x la g AT T) (hd : x.adep ≤ g.sz) (hb : g.eN ≤ 2048) : Met l ⟨"SeriesVault$Answers", "push", "()LSeriesVault$Table;"⟩ [Cond.code ⟨"SeriesVault$Answers", "push", "()LSeriesVault$Table;"⟩ prog_2_method_4_code 1 (some (FieldType.object "SeriesVault$Table"))] { frames := 7, cells := psC x g, slots := psS x g, locals := 171 } (pCy D dA e0 mi [.ref (ad 24)] (VW dA h ad x) sz) (va_Qr (fun (_ : VS × LI × (Nat → Nat → Nat) × (Nat → TB)) => True) (fun (u9 : VS × LI × (Nat → Nat → Nat) × (Nat → TB)) (r9 : Nat) t9 => (u9.2.2.1 x.adep 0 = r9 ∧ psR dA ad r la x g AT T u9.1 u9.2.1 u9.2.2.1 u9.2.2.2) ∧ bW D (va_A (VW dA h ad x) sz) (VW dA h ad u9.1) t9) (va_A (VW dA h ad x) sz)) (psC x g) (psS x g) (va_A (VW dA h ad x) sz) := by
  obtain ⟨k1, k2, k3, k4, k5, k6⟩ := hk
  rcases Nat.lt_or_eq_of_le hd with h0 | h0
  · obtain ⟨R, hR⟩ := tbs_x (dA := dA) AT T h0
    have a := sk_pm (L := LiW dA la g) (r := r) (hR AT T (fun _ _ _ => ⟨rfl, rfl⟩))
    have p := llQ2 (dA := dA) (h := h) (ad := ad) (k1.trans a)
    rw [vaA_pm p]
    refine Met_mono (v_push_0 l D dA sz h ad (AT x.adep) (T x.adep) la g (VS.s_ll x (R ++ r)) k2 k3 (by omega) h0 (k6 _ h0)) (Nat.le_of_ble_eq_true rfl) (Nat.zero_le _) (Nat.zero_le _) (Nat.le_of_ble_eq_true rfl) (Nat.zero_le _) (Nat.zero_le _) (fun _ _ q => pC_pm p (pC_e q)) ?_ (fun _ q => q)
    rintro b9 st o9 t9 ⟨⟨u, a9, c1, -, c3, c4⟩, c5⟩
    exact ⟨⟨(VS.s_ll (VS.s_adep x (x.adep + 1)) (TbW dA (AT x.adep) (T x.adep) ++ (LiW dA la g ++ (R ++ r))), g, AT, T), a9, c1, trivial, ⟨c3, rfl, ⟨a.symm, k2, k3, k4, k5, k6⟩, Or.inl ⟨h0, rfl, rfl, rfl⟩⟩, bW_pm (llT2 (VS.s_adep (VS.s_ll x (R ++ r)) (x.adep + 1)) _ _) c4⟩, c5⟩
  · have p := llQ (dA := dA) (h := h) (ad := ad) k1
    rw [vaA_pm p]
    have q1 : psC x g = 6 := if_neg (by omega)
    by_cases h2 : g.sz < g.eN
    · have q2 : psS x g = 589 := by unfold psS; rw [if_neg (by omega), if_pos h2]
      refine Met_mono (v_push_r l D dA sz h ad la g (VS.s_ll x (tbs dA AT T g.sz ++ r)) k2 (by omega) h0 h2) (Nat.le_of_ble_eq_true rfl) (by rw [q1]; exact Nat.le_of_ble_eq_true rfl) (Nat.le_of_eq q2.symm) (Nat.le_of_ble_eq_true rfl) (by rw [q1]; exact Nat.le_of_ble_eq_true rfl) (Nat.le_of_eq q2.symm) (fun _ _ q => pC_pm p (pC_e q)) ?_ (fun _ q => q)
      rintro b9 st o9 t9 ⟨⟨u, a9, c1, -, ⟨c3, c6⟩, c4⟩, c5⟩
      obtain ⟨g9, eg9⟩ : ∃ q, q = LI.s_el (LI.s_mc (LI.s_sz g (g.sz + 1)) (g.mc + 1)) (va_up g.el g.sz (some (u.1 0))) := ⟨_, rfl⟩
      rw [← eg9] at c4
      have z1 : g9.sz = g.sz + 1 := by rw [eg9]
      have z2 : g9.eN = g.eN := by rw [eg9]
      have z3 : g9.el = va_up g.el g.sz (some (u.1 0)) := by rw [eg9]
      refine ⟨⟨(VS.s_ll (VS.s_adep x (x.adep + 1)) (TbW dA u.1 u.2 ++ (LiW dA la g9 ++ (tbs dA AT T g.sz ++ r))), g9, va_up AT g.sz u.1, va_up T g.sz u.2), a9, c1, trivial, ⟨?_, rfl, ⟨?_, k2, ?_, ?_, ?_, ?_⟩, Or.inr ⟨h0, z1, ?_, fun i hi => ⟨va_up_ne _ _ hi, va_up_ne _ _ hi⟩, u.2.cA, ?_⟩⟩, bW_pm (llT2 (VS.s_adep (VS.s_ll x (tbs dA AT T g.sz ++ r)) (x.adep + 1)) _ _) c4⟩, c5⟩
      · show va_up AT g.sz u.1 x.adep 0 = a9
        rw [h0, va_up_self]
        exact c3
      · show (TbW dA u.1 u.2 ++ (LiW dA la g9 ++ (tbs dA AT T g.sz ++ r))).Perm (LiW dA la g9 ++ (tbs dA (va_up AT g.sz u.1) (va_up T g.sz u.2) g9.sz ++ r))
        rw [z1, tbs_up, List.append_assoc]
        exact List.perm_append_comm_assoc _ _ _
      · show g9.sz ≤ g9.eN; omega
      · show g9.eN ≤ 4096; omega
      · show 0 < g9.eN; omega
      · intro i hi
        have hi : i < g9.sz := hi
        show g9.el i = some (va_up AT g.sz u.1 i 0)
        rw [z3]
        by_cases e : i = g.sz
        · subst e; rw [va_up_self, va_up_self]
        · rw [va_up_ne _ _ e, va_up_ne _ _ e]; exact k6 i (by omega)
      · show g9.eN = pgN g
        rw [z2]; exact (if_pos h2).symm
      · show va_up T g.sz u.2 g.sz = _
        rw [va_up_self]; exact c6
    · have q2 : psS x g = 589 + (g.eN + max 1 (g.eN / 2)) := by unfold psS; rw [if_neg (by omega), if_neg h2]
      refine Met_mono (v_push_g l D dA sz e0 mi h ad la g (VS.s_ll x (tbs dA AT T g.sz ++ r)) k2 (by omega) h0 (fun i hi y hy => ?_) k5 (by omega) k4) (Nat.le_of_ble_eq_true rfl) (by rw [q1]; exact Nat.le_of_ble_eq_true rfl) (Nat.le_of_eq q2.symm) (Nat.le_of_ble_eq_true rfl) (by rw [q1]; exact Nat.le_of_ble_eq_true rfl) (Nat.le_of_eq q2.symm) (fun _ _ q => pCy_pm p q) ?_ (fun _ q => q)
      · rw [k6 i (by omega)] at hy
        obtain ⟨vs, hv⟩ := tb_hd (dA := dA) (ta := AT i) (t := T i)
        refine ⟨vs, llm (List.mem_append_left _ (tbs_in (show i < g.sz by omega) _ ?_))⟩
        rw [← Option.some.inj hy]
        exact hv
      rintro b9 st o9 t9 ⟨⟨u, a9, c1, -, ⟨c3, c6⟩, c4⟩, c5⟩
      obtain ⟨g9, eg9⟩ : ∃ q, q = LI.s_el (LI.s_eN (LI.s_eA (LI.s_mc (LI.s_sz g (g.sz + 1)) (g.mc + 1)) u.2.2) (g.eN + max 1 (g.eN / 2))) (va_up (cpF g.el g.eN) g.sz (some (u.1 0))) := ⟨_, rfl⟩
      rw [← eg9] at c4
      have z1 : g9.sz = g.sz + 1 := by rw [eg9]
      have z2 : g9.eN = g.eN + max 1 (g.eN / 2) := by rw [eg9]
      have z3 : g9.el = va_up (cpF g.el g.eN) g.sz (some (u.1 0)) := by rw [eg9]
      refine ⟨⟨(VS.s_ll (VS.s_adep x (x.adep + 1)) (TbW dA u.1 u.2.1 ++ (LiW dA la g9 ++ (tbs dA AT T g.sz ++ r))), g9, va_up AT g.sz u.1, va_up T g.sz u.2.1), a9, c1, trivial, ⟨?_, rfl, ⟨?_, k2, ?_, ?_, ?_, ?_⟩, Or.inr ⟨h0, z1, ?_, fun i hi => ⟨va_up_ne _ _ hi, va_up_ne _ _ hi⟩, u.2.1.cA, ?_⟩⟩, bW_pm (llT2 (VS.s_adep (VS.s_ll x (tbs dA AT T g.sz ++ r)) (x.adep + 1)) _ _) c4⟩, c5⟩
      · show va_up AT g.sz u.1 x.adep 0 = a9
        rw [h0, va_up_self]
        exact c3
      · show (TbW dA u.1 u.2.1 ++ (LiW dA la g9 ++ (tbs dA AT T g.sz ++ r))).Perm (LiW dA la g9 ++ (tbs dA (va_up AT g.sz u.1) (va_up T g.sz u.2.1) g9.sz ++ r))
        rw [z1, tbs_up, List.append_assoc]
        exact List.perm_append_comm_assoc _ _ _
      · show g9.sz ≤ g9.eN; omega
      · show g9.eN ≤ 4096; omega
      · show 0 < g9.eN; omega
      · intro i hi
        have hi : i < g9.sz := hi
        show g9.el i = some (va_up AT g.sz u.1 i 0)
        rw [z3]
        by_cases e : i = g.sz
        · subst e; rw [va_up_self, va_up_self]
        · rw [va_up_ne _ _ e, va_up_ne _ _ e, show cpF g.el g.eN i = g.el i from if_pos (show i < g.eN by omega)]; exact k6 i (by omega)
      · show g9.eN = pgN g
        rw [z2]; exact (if_neg h2).symm
      · show va_up T g.sz u.2.1 g.sz = _
        rw [va_up_self]; exact c6
