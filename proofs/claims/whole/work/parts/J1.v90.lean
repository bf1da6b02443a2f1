/-! Two tables joined: the ends. -/
theorem jt_a {sg : Int32} {NL : Nat → List Int32} {RS RU : Nat → List LB} {t u : TB} (h : t.nc = 0) : jnT sg NL RS RU t u 0 = TB.j0 sg t u := by
  unfold jnT; rw [if_pos rfl, if_pos h]
theorem jt_s {sg : Int32} {NL : Nat → List Int32} {RS RU : Nat → List LB} {t u : TB} (h : ¬ t.nc = 0) : jnT sg NL RS RU t u 0 = TB.jm sg NL t u RS RU := by
  unfold jnT; rw [if_pos rfl, if_neg h]
theorem jt_l0 {sg : Int32} {NL : Nat → List Int32} {RS RU : Nat → List LB} {t u : TB} (h : u.rc = 0) : jnT sg NL RS RU t u 1 = TB.de (TB.s_rc t 0) := by
  unfold jnT; rw [if_neg (by decide), if_pos rfl, if_pos h]
theorem jt_l {sg : Int32} {NL : Nat → List Int32} {RS RU : Nat → List LB} {t u : TB} (h : ¬ u.rc = 0) : jnT sg NL RS RU t u 1 = (jsL sg t u t.rc).de := by
  unfold jnT; rw [if_neg (by decide), if_pos rfl, if_neg h]
theorem jt_r0 {sg : Int32} {NL : Nat → List Int32} {RS RU : Nat → List LB} {t u : TB} (h : t.rc = 0) : jnT sg NL RS RU t u 2 = TB.de (TB.s_rc u 0) := by
  unfold jnT; rw [if_neg (by decide), if_neg (by decide), if_pos h]
theorem jt_r {sg : Int32} {NL : Nat → List Int32} {RS RU : Nat → List LB} {t u : TB} (h : ¬ t.rc = 0) : jnT sg NL RS RU t u 2 = (jsR sg u t u.rc).de := by
  unfold jnT; rw [if_neg (by decide), if_neg (by decide), if_neg h]
section JZ
variable {dA : Nat → ClassId} {ad : Nat → Nat} {r : va_W} {x : VS} {la : Nat → Nat} {g : LI} {AT : Nat → Nat → Nat} {T : Nat → TB} {R : va_W} {sg : Int32} {NL NR : Nat → List Int32} {RS RU : Nat → List LB}
/-- the left one changed -/
theorem jW_l (hk : skP dA ad r x la g AT T) (hd : 2 ≤ x.adep) (hR : ∀ (AT' : Nat → Nat → Nat) (T' : Nat → TB), (∀ k, k < g.sz → k ≠ x.adep - 2 → k ≠ x.adep - 1 → AT' k = AT k ∧ T' k = T k) → (tbs dA AT' T' g.sz).Perm (TbW dA (AT' (x.adep - 2)) (T' (x.adep - 2)) ++ (TbW dA (AT' (x.adep - 1)) (T' (x.adep - 1)) ++ R))) (v : TB) : skP dA ad r (VS.s_ll (VS.s_adep x (x.adep - 1)) (TbW dA (AT (x.adep - 2)) v ++ (TbW dA (AT (x.adep - 1)) (T (x.adep - 1)) ++ (LiW dA la g ++ (R ++ r))))) la g AT (va_up T (x.adep - 2) v) := by
  obtain ⟨k1, k2, k3, k4, k5, k6⟩ := hk
  have b := sk_pm2 (L := LiW dA la g) (r := r) (hR AT (va_up T (x.adep - 2) v) (fun k _ hk _ => ⟨rfl, va_up_ne _ _ hk⟩))
  rw [va_up_self, va_up_ne _ _ (show x.adep - 1 ≠ x.adep - 2 by omega)] at b
  exact ⟨b.symm, k2, k3, k4, k5, k6⟩
theorem jZ_l (hk : skP dA ad r x la g AT T) (hd : 2 ≤ x.adep) (hR : ∀ (AT' : Nat → Nat → Nat) (T' : Nat → TB), (∀ k, k < g.sz → k ≠ x.adep - 2 → k ≠ x.adep - 1 → AT' k = AT k ∧ T' k = T k) → (tbs dA AT' T' g.sz).Perm (TbW dA (AT' (x.adep - 2)) (T' (x.adep - 2)) ++ (TbW dA (AT' (x.adep - 1)) (T' (x.adep - 1)) ++ R))) {v : TB} {k : Nat} (hk1 : k ≤ 1) (hc : jnC NL NR (T (x.adep - 2)) (T (x.adep - 1)) = k) (hv : v = jnT sg NL RS RU (T (x.adep - 2)) (T (x.adep - 1)) k) : jnZ dA ad r la sg NL NR RS RU x g AT T (VS.s_ll (VS.s_adep x (x.adep - 1)) (TbW dA (AT (x.adep - 2)) v ++ (TbW dA (AT (x.adep - 1)) (T (x.adep - 1)) ++ (LiW dA la g ++ (R ++ r))))) g AT (va_up T (x.adep - 2) v) := by
  refine ⟨rfl, jW_l hk hd hR v, rfl, rfl, ?_, ?_, ?_⟩
  · intro _; rw [hc]; exact ⟨rfl, by rw [hv]⟩
  · intro q; rw [hc] at q; omega
  · intro q; rw [hc] at q; omega
/-- nothing changed -/
theorem jZ_n (hk : skP dA ad r x la g AT T) (hR : ∀ (AT' : Nat → Nat → Nat) (T' : Nat → TB), (∀ k, k < g.sz → k ≠ x.adep - 2 → k ≠ x.adep - 1 → AT' k = AT k ∧ T' k = T k) → (tbs dA AT' T' g.sz).Perm (TbW dA (AT' (x.adep - 2)) (T' (x.adep - 2)) ++ (TbW dA (AT' (x.adep - 1)) (T' (x.adep - 1)) ++ R))) (hc : jnC NL NR (T (x.adep - 2)) (T (x.adep - 1)) = 3) : jnZ dA ad r la sg NL NR RS RU x g AT T (VS.s_ll (VS.s_adep x (x.adep - 1)) (TbW dA (AT (x.adep - 2)) (T (x.adep - 2)) ++ (TbW dA (AT (x.adep - 1)) (T (x.adep - 1)) ++ (LiW dA la g ++ (R ++ r))))) g AT T := by
  obtain ⟨k1, k2, k3, k4, k5, k6⟩ := hk
  have b := sk_pm2 (L := LiW dA la g) (r := r) (hR AT T (fun k _ _ _ => ⟨rfl, rfl⟩))
  refine ⟨rfl, ⟨b.symm, k2, k3, k4, k5, k6⟩, rfl, rfl, ?_, ?_, fun _ => ⟨rfl, rfl⟩⟩
  · intro q; rw [hc] at q; omega
  · intro q; rw [hc] at q; omega
/-- the right one changed, the two change places -/
theorem jZ_r (hk : skP dA ad r x la g AT T) (hd : 2 ≤ x.adep) (hd2 : x.adep ≤ g.sz) (hR : ∀ (AT' : Nat → Nat → Nat) (T' : Nat → TB), (∀ k, k < g.sz → k ≠ x.adep - 2 → k ≠ x.adep - 1 → AT' k = AT k ∧ T' k = T k) → (tbs dA AT' T' g.sz).Perm (TbW dA (AT' (x.adep - 2)) (T' (x.adep - 2)) ++ (TbW dA (AT' (x.adep - 1)) (T' (x.adep - 1)) ++ R))) {v : TB} {g' : LI} (hg1 : g'.sz = g.sz) (hg2 : g'.eN = g.eN) (hg3 : g'.el = va_up (va_up g.el (x.adep - 1 - 1) (some (AT (x.adep - 1) 0))) (x.adep - 1) (some (AT (x.adep - 2) 0))) (hc : jnC NL NR (T (x.adep - 2)) (T (x.adep - 1)) = 2) (hv : v = jnT sg NL RS RU (T (x.adep - 2)) (T (x.adep - 1)) 2) : jnZ dA ad r la sg NL NR RS RU x g AT T (VS.s_ll (VS.s_adep x (x.adep - 1)) (TbW dA (AT (x.adep - 2)) (T (x.adep - 2)) ++ (TbW dA (AT (x.adep - 1)) v ++ (LiW dA la g' ++ (R ++ r))))) g' (va_up (va_up AT (x.adep - 2) (AT (x.adep - 1))) (x.adep - 1) (AT (x.adep - 2))) (va_up (va_up T (x.adep - 2) v) (x.adep - 1) (T (x.adep - 2))) := by
  obtain ⟨k1, k2, k3, k4, k5, k6⟩ := hk
  have ne : x.adep - 2 ≠ x.adep - 1 := by omega
  have b := sk_pm2 (L := LiW dA la g') (r := r) (hR (va_up (va_up AT (x.adep - 2) (AT (x.adep - 1))) (x.adep - 1) (AT (x.adep - 2))) (va_up (va_up T (x.adep - 2) v) (x.adep - 1) (T (x.adep - 2))) (fun k _ h1 h2 => ⟨(va_up_ne _ _ h2).trans (va_up_ne _ _ h1), (va_up_ne _ _ h2).trans (va_up_ne _ _ h1)⟩))
  rw [va_up_self, va_up_self, va_up_ne _ _ ne, va_up_self, va_up_ne _ _ ne, va_up_self] at b
  refine ⟨rfl, ⟨?_, k2, by omega, by omega, by omega, ?_⟩, hg1, hg2, ?_, ?_, ?_⟩
  · rw [hg1]
    exact (List.perm_append_comm_assoc _ _ _).trans b.symm
  · intro i hi
    rw [hg3]
    by_cases e : i = x.adep - 1
    · subst e; rw [va_up_self, va_up_self]
    · rw [va_up_ne _ _ e, va_up_ne _ _ e]
      by_cases e2 : i = x.adep - 2
      · rw [show x.adep - 1 - 1 = x.adep - 2 by omega]
        subst e2; rw [va_up_self, va_up_self]
      · rw [va_up_ne _ _ (show i ≠ x.adep - 1 - 1 by omega), va_up_ne _ _ e2]
        exact k6 i (by omega)
  · intro q; rw [hc] at q; omega
  · intro _; rw [hc]; exact ⟨rfl, by rw [hv]⟩
  · intro q; rw [hc] at q; omega
end JZ
theorem v_joinW (l : Launch) (D : va_G) (dA : Nat → ClassId) (sz : Nat) (h : Nat) (ad : Nat → Nat) (x : VS) (la : Nat → Nat) (g : LI) (AT : Nat → Nat → Nat) (T : Nat → TB) (r : va_W) (sg : Int32) (NL : Nat → List Int32) (NR : Nat → List Int32) (RS : Nat → List LB) (RU : Nat → List LB) (wi : Nat) (hk : skP dA ad r x la g AT T) (hd : 2 ≤ x.adep) (hd2 : x.adep ≤ g.sz) (hop : isOp sg) (ht : tbK dA x.pl wi (T (x.adep - 2)) NL RS) (hu : tbK dA x.pl wi (T (x.adep - 1)) NR RU) : Met l ⟨"SeriesVault$Answers", "join", "(I)Z"⟩ [Cond.code ⟨"SeriesVault$Answers", "join", "(I)Z"⟩ prog_2_method_5_code 4 (some FieldType.boolean)] { frames := 5, cells := 0, slots := 0, locals := 109 } (pC D dA [.ref (ad 24), .int sg] (VW dA h ad x) sz) (va_Qi (fun (r9 : Int32) (u9 : VS × LI × (Nat → Nat → Nat) × (Nat → TB)) => r9 = (if jnC NL NR (T (x.adep - 2)) (T (x.adep - 1)) = 3 then 0 else 1) ∧ jnZ dA ad r la sg NL NR RS RU x g AT T u9.1 u9.2.1 u9.2.2.1 u9.2.2.2) (fun (u9 : VS × LI × (Nat → Nat → Nat) × (Nat → TB)) t9 => bW D (va_A (VW dA h ad x) sz) (VW dA h ad u9.1) t9) (va_A (VW dA h ad x) sz)) 0 0 (va_A (VW dA h ad x) sz) := by
  have hkc := hk
  obtain ⟨k1, k2, k3, k4, k5, k6⟩ := hkc
  obtain ⟨R, hR⟩ := tbs_x2 (dA := dA) AT T (show x.adep - 2 ≠ x.adep - 1 by omega) (n := g.sz) (by omega) (by omega)
  have a := sk_pm2 (L := LiW dA la g) (r := r) (hR AT T (fun _ _ _ _ => ⟨rfl, rfl⟩))
  have p := llQ3 (dA := dA) (h := h) (ad := ad) (k1.trans a)
  rw [vaA_pm p]
  obtain ⟨n1, c1, r1, a1, m1, w1, l1, b1, o1⟩ := ht
  obtain ⟨n2, c2, r2, a2, m2, w2, l2, b2, o2⟩ := hu
  cases hn : namB NL NR (T (x.adep - 2)).nc (T (x.adep - 1)).nc with
  | true =>
    have en := nam_nc hn
    by_cases z0 : (T (x.adep - 2)).nc = 0
    · have o1 := o1 z0
      have o2 := o2 (en.symm.trans z0)
      rcases Nat.lt_or_ge 0 (T (x.adep - 2)).rc with z1 | z1
      · have z1 : (T (x.adep - 2)).rc = 1 := by omega
        rcases Nat.lt_or_ge 0 (T (x.adep - 1)).rc with z2 | z2
        · have z2 : (T (x.adep - 1)).rc = 1 := by omega
          rw [z1, Nat.one_mul] at l1
          rw [z2, Nat.one_mul, w2] at l2
          refine Met_mono (v_Ajoin_c l D dA sz h ad (AT (x.adep - 2)) (T (x.adep - 2)) (AT (x.adep - 1)) (T (x.adep - 1)) la g (VS.s_ll x (R ++ r)) sg NL NR k2 k3 (by omega) hd hd2 (k6 (x.adep - 2) (by omega)) (k6 (x.adep - 1) (by omega)) n1 n2 c1 c2 hn b1 a1 hop b2 z0 z1 z2 l1 (by rw [w1]; exact l2) (w2.trans w1.symm)) (Nat.le_of_ble_eq_true rfl) (Nat.le_refl _) (Nat.le_refl _) (Nat.le_of_ble_eq_true rfl) (Nat.le_refl _) (Nat.le_refl _) (fun _ _ q => pC_pm p q) ?_ (fun _ q => q)
          rintro b9 st o9 t9 ⟨⟨rr, u, d1, ⟨d2, d3⟩, d4⟩, d5⟩
          exact ⟨⟨rr, (_, g, AT, va_up T (x.adep - 2) u), d1, ⟨by rw [(jc_0 hn)]; exact d2, jZ_l hk hd hR (k := 0) (by decide) (jc_0 hn) (d3.trans (jt_a z0).symm)⟩, bW_pm (llT3 (VS.s_adep (VS.s_ll x (R ++ r)) (x.adep - 1)) _ _ _) d4⟩, d5⟩
        · refine Met_mono (v_Ajoin_b l D dA sz h ad (AT (x.adep - 2)) (T (x.adep - 2)) (AT (x.adep - 1)) (T (x.adep - 1)) la g (VS.s_ll x (R ++ r)) sg NL NR k2 k3 (by omega) hd hd2 (k6 (x.adep - 2) (by omega)) (k6 (x.adep - 1) (by omega)) n1 n2 c1 c2 hn b1 a1 z1 (by omega)) (Nat.le_of_ble_eq_true rfl) (Nat.le_refl _) (Nat.le_refl _) (Nat.le_of_ble_eq_true rfl) (Nat.le_refl _) (Nat.le_refl _) (fun _ _ q => pC_pm p q) ?_ (fun _ q => q)
          rintro b9 st o9 t9 ⟨⟨rr, u, d1, ⟨d2, d3⟩, d4⟩, d5⟩
          exact ⟨⟨rr, (_, g, AT, va_up T (x.adep - 2) u), d1, ⟨by rw [(jc_0 hn)]; exact d2, jZ_l hk hd hR (k := 0) (by decide) (jc_0 hn) (d3.trans (jt_a z0).symm)⟩, bW_pm (llT3 (VS.s_adep (VS.s_ll x (R ++ r)) (x.adep - 1)) _ _ _) d4⟩, d5⟩
      · refine Met_mono (v_Ajoin_a l D dA sz h ad (AT (x.adep - 2)) (T (x.adep - 2)) (AT (x.adep - 1)) (T (x.adep - 1)) la g (VS.s_ll x (R ++ r)) sg NL NR k2 k3 (by omega) hd hd2 (k6 (x.adep - 2) (by omega)) (k6 (x.adep - 1) (by omega)) n1 n2 c1 c2 hn b1 a1 (by omega)) (Nat.le_of_ble_eq_true rfl) (Nat.le_refl _) (Nat.le_refl _) (Nat.le_of_ble_eq_true rfl) (Nat.le_refl _) (Nat.le_refl _) (fun _ _ q => pC_pm p q) ?_ (fun _ q => q)
        rintro b9 st o9 t9 ⟨⟨rr, u, d1, ⟨d2, d3⟩, d4⟩, d5⟩
        exact ⟨⟨rr, (_, g, AT, va_up T (x.adep - 2) u), d1, ⟨by rw [(jc_0 hn)]; exact d2, jZ_l hk hd hR (k := 0) (by decide) (jc_0 hn) (d3.trans (jt_a z0).symm)⟩, bW_pm (llT3 (VS.s_adep (VS.s_ll x (R ++ r)) (x.adep - 1)) _ _ _) d4⟩, d5⟩
    · refine Met_mono (v_Ajoin_s l D dA sz h ad (AT (x.adep - 2)) (T (x.adep - 2)) (AT (x.adep - 1)) (T (x.adep - 1)) la g (VS.s_ll x (R ++ r)) sg NL NR RS RU k2 k3 (by omega) hd hd2 (k6 (x.adep - 2) (by omega)) (k6 (x.adep - 1) (by omega)) n1 n2 c1 c2 hn hop b1 b2 (w2.trans w1.symm) l1 m1 l2 m2 a1 (r1 (by omega)) (r2 (by omega))) (Nat.le_of_ble_eq_true rfl) (Nat.le_refl _) (Nat.le_refl _) (Nat.le_of_ble_eq_true rfl) (Nat.le_refl _) (Nat.le_refl _) (fun _ _ q => pC_pm p q) ?_ (fun _ q => q)
      rintro b9 st o9 t9 ⟨⟨rr, u, d1, ⟨d2, d3⟩, d4⟩, d5⟩
      exact ⟨⟨rr, (_, g, AT, va_up T (x.adep - 2) u), d1, ⟨by rw [(jc_0 hn)]; exact d2, jZ_l hk hd hR (k := 0) (by decide) (jc_0 hn) (d3.trans (jt_s z0).symm)⟩, bW_pm (llT3 (VS.s_adep (VS.s_ll x (R ++ r)) (x.adep - 1)) _ _ _) d4⟩, d5⟩
  | false =>
    by_cases hu0 : (T (x.adep - 1)).nc = 0
    · by_cases z2 : (T (x.adep - 1)).rc = 0
      · refine Met_mono (v_Ajoin_l0 l D dA sz h ad (AT (x.adep - 2)) (T (x.adep - 2)) (AT (x.adep - 1)) (T (x.adep - 1)) la g (VS.s_ll x (R ++ r)) sg NL NR k2 k3 (by omega) hd hd2 (k6 (x.adep - 2) (by omega)) (k6 (x.adep - 1) (by omega)) n1 n2 c1 c2 hn hu0 b1 a1 z2) (Nat.le_of_ble_eq_true rfl) (Nat.le_refl _) (Nat.le_refl _) (Nat.le_of_ble_eq_true rfl) (Nat.le_refl _) (Nat.le_refl _) (fun _ _ q => pC_pm p q) ?_ (fun _ q => q)
        rintro b9 st o9 t9 ⟨⟨rr, u, d1, ⟨d2, d3⟩, d4⟩, d5⟩
        exact ⟨⟨rr, (_, g, AT, va_up T (x.adep - 2) u), d1, ⟨by rw [(jc_1 hn hu0)]; exact d2, jZ_l hk hd hR (k := 1) (by decide) (jc_1 hn hu0) (d3.trans (jt_l0 z2).symm)⟩, bW_pm (llT3 (VS.s_adep (VS.s_ll x (R ++ r)) (x.adep - 1)) _ _ _) d4⟩, d5⟩
      · refine Met_mono (v_Ajoin_l l D dA sz h ad (AT (x.adep - 2)) (T (x.adep - 2)) (AT (x.adep - 1)) (T (x.adep - 1)) la g (VS.s_ll x (R ++ r)) sg NL NR k2 k3 (by omega) hd hd2 (k6 (x.adep - 2) (by omega)) (k6 (x.adep - 1) (by omega)) n1 n2 c1 c2 hn hu0 hop b1 b2 (w2.trans w1.symm) l1 m1 l2 m2 a1 z2) (Nat.le_of_ble_eq_true rfl) (Nat.le_refl _) (Nat.le_refl _) (Nat.le_of_ble_eq_true rfl) (Nat.le_refl _) (Nat.le_refl _) (fun _ _ q => pC_pm p q) ?_ (fun _ q => q)
        rintro b9 st o9 t9 ⟨⟨rr, u, d1, ⟨d2, d3⟩, d4⟩, d5⟩
        exact ⟨⟨rr, (_, g, AT, va_up T (x.adep - 2) u), d1, ⟨by rw [(jc_1 hn hu0)]; exact d2, jZ_l hk hd hR (k := 1) (by decide) (jc_1 hn hu0) (d3.trans (jt_l z2).symm)⟩, bW_pm (llT3 (VS.s_adep (VS.s_ll x (R ++ r)) (x.adep - 1)) _ _ _) d4⟩, d5⟩
    · by_cases ht0 : (T (x.adep - 2)).nc = 0
      · by_cases z1 : (T (x.adep - 2)).rc = 0
        · refine Met_mono (v_Ajoin_r0 l D dA sz h ad (AT (x.adep - 2)) (T (x.adep - 2)) (AT (x.adep - 1)) (T (x.adep - 1)) la g (VS.s_ll x (R ++ r)) sg NL NR k2 k3 (by omega) hd hd2 (k6 (x.adep - 2) (by omega)) (k6 (x.adep - 1) (by omega)) n1 n2 c1 c2 hn hu0 ht0 b2 a2 z1) (Nat.le_of_ble_eq_true rfl) (Nat.le_refl _) (Nat.le_refl _) (Nat.le_of_ble_eq_true rfl) (Nat.le_refl _) (Nat.le_refl _) (fun _ _ q => pC_pm p q) ?_ (fun _ q => q)
          rintro b9 st o9 t9 ⟨⟨rr, u, d1, ⟨d2, d3⟩, d4⟩, d5⟩
          exact ⟨⟨rr, (_, LI.s_el g (va_up (va_up g.el (x.adep - 1 - 1) (some (AT (x.adep - 1) 0))) (x.adep - 1) (some (AT (x.adep - 2) 0))), va_up (va_up AT (x.adep - 2) (AT (x.adep - 1))) (x.adep - 1) (AT (x.adep - 2)), va_up (va_up T (x.adep - 2) u) (x.adep - 1) (T (x.adep - 2))), d1, ⟨by rw [jc_2 hn hu0 ht0]; exact d2, jZ_r hk hd hd2 hR rfl rfl rfl (jc_2 hn hu0 ht0) (d3.trans (jt_r0 z1).symm)⟩, bW_pm (llT3 (VS.s_adep (VS.s_ll x (R ++ r)) (x.adep - 1)) _ _ _) d4⟩, d5⟩
        · refine Met_mono (v_Ajoin_r l D dA sz h ad (AT (x.adep - 2)) (T (x.adep - 2)) (AT (x.adep - 1)) (T (x.adep - 1)) la g (VS.s_ll x (R ++ r)) sg NL NR k2 k3 (by omega) hd hd2 (k6 (x.adep - 2) (by omega)) (k6 (x.adep - 1) (by omega)) n1 n2 c1 c2 hn hu0 ht0 hop b1 b2 (w2.trans w1.symm) l1 m1 l2 m2 a2 z1) (Nat.le_of_ble_eq_true rfl) (Nat.le_refl _) (Nat.le_refl _) (Nat.le_of_ble_eq_true rfl) (Nat.le_refl _) (Nat.le_refl _) (fun _ _ q => pC_pm p q) ?_ (fun _ q => q)
          rintro b9 st o9 t9 ⟨⟨rr, u, d1, ⟨d2, d3⟩, d4⟩, d5⟩
          exact ⟨⟨rr, (_, LI.s_el g (va_up (va_up g.el (x.adep - 1 - 1) (some (AT (x.adep - 1) 0))) (x.adep - 1) (some (AT (x.adep - 2) 0))), va_up (va_up AT (x.adep - 2) (AT (x.adep - 1))) (x.adep - 1) (AT (x.adep - 2)), va_up (va_up T (x.adep - 2) u) (x.adep - 1) (T (x.adep - 2))), d1, ⟨by rw [jc_2 hn hu0 ht0]; exact d2, jZ_r hk hd hd2 hR rfl rfl rfl (jc_2 hn hu0 ht0) (d3.trans (jt_r z1).symm)⟩, bW_pm (llT3 (VS.s_adep (VS.s_ll x (R ++ r)) (x.adep - 1)) _ _ _) d4⟩, d5⟩
      · refine Met_mono (v_Ajoin_n l D dA sz h ad (AT (x.adep - 2)) (T (x.adep - 2)) (AT (x.adep - 1)) (T (x.adep - 1)) la g (VS.s_ll x (R ++ r)) sg NL NR k2 k3 (by omega) hd hd2 (k6 (x.adep - 2) (by omega)) (k6 (x.adep - 1) (by omega)) n1 n2 c1 c2 hn hu0 ht0) (Nat.le_of_ble_eq_true rfl) (Nat.le_refl _) (Nat.le_refl _) (Nat.le_of_ble_eq_true rfl) (Nat.le_refl _) (Nat.le_refl _) (fun _ _ q => pC_pm p q) ?_ (fun _ q => q)
        rintro b9 st o9 t9 ⟨⟨rr, u, d1, d2, d4⟩, d5⟩
        exact ⟨⟨rr, (_, g, AT, T), d1, ⟨by rw [jc_3 hn hu0 ht0]; exact d2, jZ_n hk hR (jc_3 hn hu0 ht0)⟩, bW_pm (llT3 (VS.s_adep (VS.s_ll x (R ++ r)) (x.adep - 1)) _ _ _) d4⟩, d5⟩
