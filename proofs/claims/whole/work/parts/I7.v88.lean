/-! The stack's tables inside ll. -/
def tbs (dA : Nat → ClassId) (AT : Nat → Nat → Nat) (T : Nat → TB) : Nat → va_W
  | 0 => []
  | n + 1 => TbW dA (AT n) (T n) ++ tbs dA AT T n
theorem tbs_e {dA : Nat → ClassId} {AT AT' : Nat → Nat → Nat} {T T' : Nat → TB} : ∀ {n : Nat}, (∀ j, j < n → AT' j = AT j ∧ T' j = T j) → tbs dA AT' T' n = tbs dA AT T n
  | 0, _ => rfl
  | n + 1, h => by
    show TbW dA (AT' n) (T' n) ++ tbs dA AT' T' n = TbW dA (AT n) (T n) ++ tbs dA AT T n
    rw [(h n (by omega)).1, (h n (by omega)).2, tbs_e (fun j hj => h j (by omega))]
theorem tbs_x {dA : Nat → ClassId} (AT : Nat → Nat → Nat) (T : Nat → TB) {i : Nat} : ∀ {n : Nat}, i < n → ∃ R : va_W, ∀ (AT' : Nat → Nat → Nat) (T' : Nat → TB), (∀ j, j < n → j ≠ i → AT' j = AT j ∧ T' j = T j) → (tbs dA AT' T' n).Perm (TbW dA (AT' i) (T' i) ++ R)
  | 0, h => absurd h (Nat.not_lt_zero i)
  | n + 1, h => by
    by_cases e : i = n
    · subst e
      refine ⟨tbs dA AT T i, fun AT' T' hh => ?_⟩
      have e2 : tbs dA AT' T' i = tbs dA AT T i := tbs_e (fun j hj => hh j (by omega) (by omega))
      exact List.Perm.of_eq (show TbW dA (AT' i) (T' i) ++ tbs dA AT' T' i = TbW dA (AT' i) (T' i) ++ tbs dA AT T i by rw [e2])
    · obtain ⟨R, hR⟩ := tbs_x (dA := dA) AT T (n := n) (i := i) (by omega)
      refine ⟨TbW dA (AT n) (T n) ++ R, fun AT' T' hh => ?_⟩
      have a := hR AT' T' (fun j hj hne => hh j (by omega) hne)
      have b := hh n (by omega) (fun z => e z.symm)
      show (TbW dA (AT' n) (T' n) ++ tbs dA AT' T' n).Perm _
      rw [b.1, b.2]
      exact (List.Perm.append_left _ a).trans (List.perm_append_comm_assoc _ _ _)
theorem tbs_x2 {dA : Nat → ClassId} (AT : Nat → Nat → Nat) (T : Nat → TB) {i j : Nat} (hij : i ≠ j) : ∀ {n : Nat}, i < n → j < n → ∃ R : va_W, ∀ (AT' : Nat → Nat → Nat) (T' : Nat → TB), (∀ k, k < n → k ≠ i → k ≠ j → AT' k = AT k ∧ T' k = T k) → (tbs dA AT' T' n).Perm (TbW dA (AT' i) (T' i) ++ (TbW dA (AT' j) (T' j) ++ R))
  | 0, h, _ => absurd h (Nat.not_lt_zero i)
  | n + 1, h, h2 => by
    by_cases e : i = n
    · subst e
      obtain ⟨R, hR⟩ := tbs_x (dA := dA) AT T (n := i) (i := j) (by omega)
      refine ⟨R, fun AT' T' hh => ?_⟩
      exact List.Perm.append_left _ (hR AT' T' (fun k hk hne => hh k (by omega) (by omega) hne))
    · by_cases e2 : j = n
      · subst e2
        obtain ⟨R, hR⟩ := tbs_x (dA := dA) AT T (n := j) (i := i) (by omega)
        refine ⟨R, fun AT' T' hh => ?_⟩
        exact (List.Perm.append_left _ (hR AT' T' (fun k hk hne => hh k (by omega) hne (by omega)))).trans (List.perm_append_comm_assoc _ _ _)
      · obtain ⟨R, hR⟩ := tbs_x2 (dA := dA) AT T hij (n := n) (by omega) (by omega)
        refine ⟨TbW dA (AT n) (T n) ++ R, fun AT' T' hh => ?_⟩
        have a := hR AT' T' (fun k hk h3 h4 => hh k (by omega) h3 h4)
        have b := hh n (by omega) (fun z => e z.symm) (fun z => e2 z.symm)
        show (TbW dA (AT' n) (T' n) ++ tbs dA AT' T' n).Perm _
        rw [b.1, b.2]
        refine (List.Perm.append_left _ a).trans ((List.perm_append_comm_assoc _ _ _).trans (List.Perm.append_left _ ?_))
        exact List.perm_append_comm_assoc _ _ _
theorem tbs_in {dA : Nat → ClassId} {AT : Nat → Nat → Nat} {T : Nat → TB} {i : Nat} : ∀ {n : Nat}, i < n → ∀ c, c ∈ TbW dA (AT i) (T i) → c ∈ tbs dA AT T n
  | 0, h, _, _ => absurd h (Nat.not_lt_zero i)
  | n + 1, h, c, hc => by
    by_cases e : i = n
    · subst e; exact List.mem_append_left _ hc
    · exact List.mem_append_right _ (tbs_in (n := n) (by omega) c hc)
/-- what lies in ll, in any order -/
theorem llQ {dA : Nat → ClassId} {h : Nat} {ad : Nat → Nat} {x : VS} {L r : va_W} (e : x.ll.Perm (L ++ r)) : (VW dA h ad x).Perm (L ++ VW dA h ad (VS.s_ll x r)) := by
  obtain ⟨F, hF1, hF2⟩ : ∃ F : va_W, VW dA h ad x = F ++ (x.ll ++ x.pl) ∧ VW dA h ad (VS.s_ll x r) = F ++ (r ++ x.pl) := ⟨_, rfl, rfl⟩
  rw [hF1, hF2]
  have a : (F ++ (x.ll ++ x.pl)).Perm (F ++ ((L ++ r) ++ x.pl)) := List.Perm.append_left F (List.Perm.append_right _ e)
  rw [List.append_assoc] at a
  exact a.trans (List.perm_append_comm_assoc F L (r ++ x.pl))
theorem llm {dA : Nat → ClassId} {h : Nat} {ad : Nat → Nat} {x : VS} {c : Nat × va_E} (e : c ∈ x.ll) : c ∈ VW dA h ad x := by
  obtain ⟨F, hF1⟩ : ∃ F : va_W, VW dA h ad x = F ++ (x.ll ++ x.pl) := ⟨_, rfl⟩
  rw [hF1]
  exact List.mem_append_right _ (List.mem_append_left _ e)
theorem vaA_pm {ws ws' : va_W} {sz : Nat} (h : ws.Perm ws') : va_A ws sz = va_A ws' sz := by
  have k : ∀ {w w' : va_W}, w.Perm w' → ∀ q, va_A w sz q → va_A w' sz q := by
    intro w w' hw q hq
    rcases hq with ⟨n, e, hn⟩ | hq
    · obtain ⟨m, hm⟩ := List.mem_iff_getElem?.mp (hw.mem_iff.mp (List.mem_of_getElem? hn))
      exact Or.inl ⟨m, e, hm⟩
    · exact Or.inr hq
  funext q
  exact propext ⟨k h q, k h.symm q⟩
theorem pC_pm {D : va_G} {dA : Nat → ClassId} {av : List Value} {ws ws' : va_W} {sz : Nat} {a : Array Value} {U : State} (p : ws.Perm ws') (h : pC D dA av ws sz a U) : pC D dA av ws' sz a U := by
  obtain ⟨q0, q1, qP, qK, qD, qE⟩ := h
  exact ⟨q0, q1, pmP p qP, qK, pmD p qD, qE⟩
theorem pCy_pm {D : va_G} {dA : Nat → ClassId} {e0 mi : Nat} {av : List Value} {ws ws' : va_W} {sz : Nat} {a : Array Value} {U : State} (p : ws.Perm ws') (h : pCy D dA e0 mi av ws sz a U) : pCy D dA e0 mi av ws' sz a U := by
  obtain ⟨⟨h1, h2, h3, h4⟩, h5⟩ := h
  exact ⟨⟨pC_pm p h1, h2, h3, by rw [← vaA_pm p]; exact h4⟩, h5⟩
theorem bW_pm {D : va_G} {A : Nat → Prop} {ws ws' : va_W} {t : State} (p : ws.Perm ws') (h : bW D A ws t) : bW D A ws' t := ⟨pmP p h.1, pmD p h.2⟩
/-- the stack's list and its tables are in ll, beside r -/
def skP (dA : Nat → ClassId) (ad : Nat → Nat) (r : va_W) (x : VS) (la : Nat → Nat) (g : LI) (AT : Nat → Nat → Nat) (T : Nat → TB) : Prop := x.ll.Perm (LiW dA la g ++ (tbs dA AT T g.sz ++ r)) ∧ la 0 = ad 25 ∧ g.sz ≤ g.eN ∧ g.eN ≤ 4096 ∧ 0 < g.eN ∧ ∀ i, i < g.sz → g.el i = some (AT i 0)
theorem skP_x {dA : Nat → ClassId} {ad : Nat → Nat} {r : va_W} {x y : VS} {la : Nat → Nat} {g : LI} {AT : Nat → Nat → Nat} {T : Nat → TB} (e : y.ll = x.ll) (h : skP dA ad r x la g AT T) : skP dA ad r y la g AT T := by
  unfold skP at h ⊢
  rw [e]
  exact h
section SK
variable {dA : Nat → ClassId} {h : Nat} {ad : Nat → Nat} {r : va_W} {x : VS} {la : Nat → Nat} {g : LI} {AT : Nat → Nat → Nat} {T : Nat → TB}
/-- table i taken out, and put back -/
theorem sk_1 {i : Nat} (hk : skP dA ad r x la g AT T) (hi : i < g.sz) : ∃ W : va_W, (VW dA h ad x).Perm (TbW dA (AT i) (T i) ++ VW dA h ad (VS.s_ll x W)) ∧ ∀ (y : VS) (u : TB), y.ll = W → skP dA ad r (VS.s_ll y (TbW dA (AT i) u ++ W)) la g AT (va_up T i u) ∧ (TbW dA (AT i) u ++ VW dA h ad y).Perm (VW dA h ad (VS.s_ll y (TbW dA (AT i) u ++ W))) := by
  obtain ⟨k1, k2, k3, k4, k5, k6⟩ := hk
  obtain ⟨R, hR⟩ := tbs_x (dA := dA) AT T hi
  have sw : ∀ u : TB, (TbW dA (AT i) u ++ (LiW dA la g ++ (R ++ r))).Perm (LiW dA la g ++ (tbs dA AT (va_up T i u) g.sz ++ r)) := by
    intro u
    have a := hR AT (va_up T i u) (fun j _ hj => ⟨rfl, va_up_ne _ _ hj⟩)
    rw [va_up_self] at a
    refine (List.perm_append_comm_assoc _ _ _).trans (List.Perm.append_left _ ?_)
    rw [← List.append_assoc]
    exact List.Perm.append_right _ a.symm
  refine ⟨LiW dA la g ++ (R ++ r), llQ ?_, fun y u hy => ⟨⟨sw u, k2, k3, k4, k5, k6⟩, ?_⟩⟩
  · have a := sw (T i)
    have e : tbs dA AT (va_up T i (T i)) g.sz = tbs dA AT T g.sz := tbs_e (fun j _ => ⟨rfl, (by by_cases e : j = i; (subst e; exact va_up_self _ _ _); exact va_up_ne _ _ e)⟩)
    rw [e] at a
    exact k1.trans a.symm
  · rw [← hy]
    exact llT y (TbW dA (AT i) u)
end SK
theorem v_numW (l : Launch) (D : va_G) (dA : Nat → ClassId) (sz : Nat) (h : Nat) (ad : Nat → Nat) (x : VS) (la : Nat → Nat) (g : LI) (AT : Nat → Nat → Nat) (T : Nat → TB) (r : va_W) (i : Nat) (v : Int64) (n : Nat) (hk : skP dA ad r x la g AT T) (hi : i < g.sz) (hcN : (T i).cN ≤ 65536) (h1 : n ≤ 64) (h2 : 64 ≤ (T i).cN) : Met l ⟨"SeriesVault$Table", "makeNumber", "(JI)V"⟩ [Cond.code ⟨"SeriesVault$Table", "makeNumber", "(JI)V"⟩ prog_11_method_2_code 5 none] { frames := 4, cells := 0, slots := 0, locals := 68 } (pC D dA [.ref (AT i 0), .long v, .int (nI n)] (VW dA h ad x) sz) (va_Qv (fun (u9 : VS) => u9 = VS.s_ll x u9.ll ∧ skP dA ad r u9 la g AT (va_up T i ((T i).num v n))) (fun (u9 : VS) t9 => bW D (va_A (VW dA h ad x) sz) (VW dA h ad u9) t9) (va_A (VW dA h ad x) sz)) 0 0 (va_A (VW dA h ad x) sz) := by
  obtain ⟨W, p, hb⟩ := sk_1 (h := h) hk hi
  rw [vaA_pm p]
  refine Met_mono (v_TmakeNumber l D dA sz (VW dA h ad (VS.s_ll x W)) (AT i) (T i) v n hcN h1 h2) (Nat.le_refl _) (Nat.le_refl _) (Nat.le_refl _) (Nat.le_refl _) (Nat.le_refl _) (Nat.le_refl _) (fun _ _ q => pC_pm p q) ?_ (fun _ q => q)
  rintro b9 st o9 t ⟨⟨u, c1, c2, c3⟩, c4⟩
  obtain ⟨s1, s2⟩ := hb (VS.s_ll x W) ((T i).num v n) rfl
  refine ⟨⟨VS.s_ll x (TbW dA (AT i) ((T i).num v n) ++ W), c1, ⟨rfl, s1⟩, bW_pm s2 ?_⟩, c4⟩
  rw [← c2]
  exact c3
theorem v_turnW (l : Launch) (D : va_G) (dA : Nat → ClassId) (sz : Nat) (h : Nat) (ad : Nat → Nat) (x : VS) (la : Nat → Nat) (g : LI) (AT : Nat → Nat → Nat) (T : Nat → TB) (r : va_W) (i : Nat) (hk : skP dA ad r x la g AT T) (hi : i < g.sz) (hN : (T i).cN ≤ 65536) (h1 : (T i).rc * (T i).wi ≤ (T i).cN) : Met l ⟨"SeriesVault$Table", "turn", "()V"⟩ [Cond.code ⟨"SeriesVault$Table", "turn", "()V"⟩ prog_11_method_13_code 2 none] { frames := 1, cells := 0, slots := 0, locals := 0 } (pC D dA [.ref (AT i 0)] (VW dA h ad x) sz) (va_Qv (fun (u9 : VS) => u9 = VS.s_ll x u9.ll ∧ skP dA ad r u9 la g AT (va_up T i (TB.s_ce (T i) (tnG (T i).ce ((T i).rc * (T i).wi))))) (fun (u9 : VS) t9 => bW D (va_A (VW dA h ad x) sz) (VW dA h ad u9) t9) (va_A (VW dA h ad x) sz)) 0 0 (va_A (VW dA h ad x) sz) := by
  obtain ⟨W, p, hb⟩ := sk_1 (h := h) hk hi
  rw [vaA_pm p]
  refine Met_mono (v_Tturn l D dA sz (VW dA h ad (VS.s_ll x W)) (AT i) (T i) hN h1) (Nat.le_refl _) (Nat.le_refl _) (Nat.le_refl _) (Nat.le_refl _) (Nat.le_refl _) (Nat.le_refl _) (fun _ _ q => pC_pm p q) ?_ (fun _ q => q)
  rintro b9 st o9 t ⟨⟨u, c1, c2, c3⟩, c4⟩
  obtain ⟨s1, s2⟩ := hb (VS.s_ll x W) (TB.s_ce (T i) (tnG (T i).ce ((T i).rc * (T i).wi))) rfl
  refine ⟨⟨VS.s_ll x (TbW dA (AT i) (TB.s_ce (T i) (tnG (T i).ce ((T i).rc * (T i).wi))) ++ W), c1, ⟨rfl, s1⟩, bW_pm s2 ?_⟩, c4⟩
  exact c3
