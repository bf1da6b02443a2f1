/-! A contract for more room, another world in other order, a weaker end. -/
theorem Met_mono {l : Launch} {y : MethodName} {ws : List Cond} {rm rm' : Room} {Pc Pc' : Array Value → State → Prop} {Qc Qc' : Array Value → State → Outcome → State → Prop} {mc ms mc' ms' : Nat} {free free' : Addr → Prop} (h : Met l y ws rm Pc Qc mc ms free) (h1 : rm.frames ≤ rm'.frames) (h2 : rm.cells ≤ rm'.cells) (h3 : rm.slots ≤ rm'.slots) (h4 : rm.locals ≤ rm'.locals) (h5 : mc ≤ mc') (h6 : ms ≤ ms') (hP : ∀ a s, Pc' a s → Pc a s) (hQ : ∀ a st o t, Qc a st o t → Qc' a st o t) (hf : ∀ q, free q → free' q) : Met l y ws rm' Pc' Qc' mc' ms' free' := by
  intro p e ha hc hk s m args below hs hap hpre hK
  have hap2 : (headSpec ws rm).appliesLoose y e.platform s = true := by
    rw [Spec.appliesLoose_iff hs] at hap ⊢
    obtain ⟨b1, b2, b3, b4, b5, b6, b7, b8⟩ := hap
    refine ⟨b1, b2, b3, b4, b5, b6, ?_, b8⟩
    have b7 : s.hasRoom e.platform rm' = true := b7
    show s.hasRoom e.platform rm = true
    simp only [State.hasRoom, Bool.and_eq_true, decide_eq_true_eq] at b7 ⊢
    obtain ⟨⟨⟨⟨c1, c2, c3, c4, c5, c6⟩, c7⟩, c8⟩, c9⟩ := b7
    exact ⟨⟨⟨⟨by omega, by omega, by omega, by omega, by omega, c6⟩, by omega⟩, by omega⟩, c9⟩
  obtain ⟨n, o, a1, a2, a3, a4, L, a5, a6⟩ := h p e ha hc hk s m args below hs hap2 (hP _ _ hpre) trivial
  exact ⟨n, o, a1, a2, a3, hQ _ _ _ _ a4, L, ⟨a5.1, a5.2.1, a5.2.2.mono h5 h6⟩, fun q hq => hf _ (a6 q hq)⟩
/-! A list that may still have the shared empty array. -/
def LqA (dA : Nat → ClassId) (g : LI) : va_W := if g.eN = 0 then [] else [(g.eA, .inl (dA 7, g.eN, .inr (.inr (.inr (.inr g.el)))))]
def LqW (dA : Nat → ClassId) (a : Nat) (g : LI) : va_W := [(a, .inr (6, [.ref g.eA, .int (nI g.sz), .int g.mc]))] ++ LqA dA g
theorem LqW_0 {dA : Nat → ClassId} {a : Nat} {g : LI} (h : g.eN = 0) : LqW dA a g = [(a, .inr (6, [.ref g.eA, .int (nI g.sz), .int g.mc]))] := by
  unfold LqW LqA
  rw [if_pos h]
  rfl
theorem LqW_1 {dA : Nat → ClassId} {a : Nat} {g : LI} (h : ¬ g.eN = 0) : LqW dA a g = LiW dA (fun _ => a) g := by
  unfold LqW LqA
  rw [if_neg h]
  rfl
/-- empty with the shared array, or with one of its own -/
def lqOk (e0 : Nat) (g : LI) : Prop := (g.eN = 0 → g.eA = e0 ∧ g.sz = 0) ∧ g.sz ≤ g.eN ∧ g.eN ≤ 65536
def grN (c : Nat) : Nat := if c = 0 then 10 else c + max 1 (c / 2)
/-- the room behind one more, what it costs -/
def gqN (g : LI) : Nat := if g.sz < g.eN then g.eN else grN g.eN
def gqS (g : LI) : Nat := if g.sz < g.eN then 0 else grN g.eN
theorem gq_S (g : LI) : gqS g ≤ 4 * (gqN g - g.eN) ∧ g.eN ≤ gqN g := by
  unfold gqS gqN grN
  repeat' split
  all_goals omega
def adQ (g : LI) (v : Nat) (g' : LI) : Prop := g'.sz = g.sz + 1 ∧ g'.eN = gqN g ∧ (∀ q, q < g.sz → g'.el q = g.el q) ∧ g'.el g.sz = some v ∧ (∀ q y, q < g'.eN → g'.el q = some y → y = v ∨ ∃ j, j < g.eN ∧ g.el j = some y) ∧ ¬ g'.eN = 0
theorem ad_0 {g : LI} {v b : Nat} {mc : Int32} (h : g.eN = 0) (h2 : g.sz = 0) : adQ g v (LI.s_el (LI.s_eN (LI.s_eA (LI.s_mc (LI.s_sz g 1) mc) b) 10) (va_up (fun _ => none) 0 (some v))) := by
  refine ⟨by show 1 = g.sz + 1; omega, ?_, fun q hq => by omega, ?_, ?_, show ¬ (10 : Nat) = 0 by decide⟩
  · show 10 = gqN g
    unfold gqN grN
    rw [if_neg (by omega), if_pos h]
  · show va_up (fun _ => none) 0 (some v) g.sz = some v
    rw [h2]
    exact if_pos rfl
  · intro q y hq e
    have e : (if q = 0 then some v else none) = some y := e
    split at e
    · exact Or.inl (Option.some.inj e).symm
    · cases e
theorem ad_r {g : LI} {v : Nat} {mc : Int32} (h : g.sz < g.eN) : adQ g v (LI.s_el (LI.s_mc (LI.s_sz g (g.sz + 1)) mc) (va_up g.el g.sz (some v))) := by
  refine ⟨rfl, ?_, fun q hq => ?_, if_pos rfl, ?_, by show ¬ g.eN = 0; omega⟩
  · show g.eN = gqN g
    unfold gqN
    rw [if_pos h]
  · show (if q = g.sz then some v else g.el q) = g.el q
    rw [if_neg (by omega)]
  · intro q y hq e
    have e : (if q = g.sz then some v else g.el q) = some y := e
    split at e
    · exact Or.inl (Option.some.inj e).symm
    · exact Or.inr ⟨q, hq, e⟩
theorem ad_g {g : LI} {v b : Nat} {mc : Int32} (h0 : 0 < g.eN) (h : g.sz = g.eN) : adQ g v (LI.s_el (LI.s_eN (LI.s_eA (LI.s_mc (LI.s_sz g (g.sz + 1)) mc) b) (g.eN + max 1 (g.eN / 2))) (va_up (cpF g.el g.eN) g.sz (some v))) := by
  refine ⟨rfl, ?_, fun q hq => ?_, if_pos rfl, ?_, by show ¬ g.eN + max 1 (g.eN / 2) = 0; omega⟩
  · show g.eN + max 1 (g.eN / 2) = gqN g
    unfold gqN grN
    rw [if_neg (by omega), if_neg (by omega)]
  · show (if q = g.sz then some v else cpF g.el g.eN q) = g.el q
    rw [if_neg (by omega)]
    exact if_pos (by omega)
  · intro q y hq e
    have e : (if q = g.sz then some v else cpF g.el g.eN q) = some y := e
    split at e
    · exact Or.inl (Option.some.inj e).symm
    · unfold cpF at e
      split at e
      · rename_i g1
        exact Or.inr ⟨q, g1, e⟩
      · cases e
theorem pC_e {D : va_G} {dA : Nat → ClassId} {e0 mi : Nat} {av : List Value} {ws : va_W} {sz : Nat} {a : Array Value} {U : State} (h : pCy D dA e0 mi av ws sz a U) : pC D dA av ws sz a U := h.1.1
theorem lq_sw (o : Nat × va_E) (b : Nat × va_E) (ws : va_W) : ([b] ++ ([o] ++ ws)).Perm (([o] ++ [b]) ++ ws) := List.Perm.swap o b ws
/-- the lists that lie in ll -/
theorem llP {dA : Nat → ClassId} {h : Nat} {ad : Nat → Nat} {x : VS} {L r : va_W} (e : x.ll = L ++ r) : (VW dA h ad x).Perm (L ++ VW dA h ad (VS.s_ll x r)) := by
  obtain ⟨F, hF1, hF2⟩ : ∃ F : va_W, VW dA h ad x = F ++ (x.ll ++ x.pl) ∧ VW dA h ad (VS.s_ll x r) = F ++ (r ++ x.pl) := ⟨_, rfl, rfl⟩
  rw [hF1, hF2, e, List.append_assoc]
  exact List.perm_append_comm_assoc F L (r ++ x.pl)
theorem llF {F L W W' : va_W} (h : W.Perm (L ++ W')) : (F ++ W).Perm (L ++ (F ++ W')) := (List.Perm.append_left F h).trans (List.perm_append_comm_assoc F L W')
theorem v_LaddQ_E (l : Launch) (D : va_G) (dA : Nat → ClassId) (sz : Nat) (e0 mi : Nat) (ws : va_W) (a : Nat) (g : LI) (v : Nat) (fs : List Value) (hg : lqOk e0 g) (hel : ∀ i : Nat, i < g.eN → ∀ y : Nat, g.el i = some y → ∃ vs : List Value, (y, .inr (13, vs)) ∈ ws) (mo : (v, .inr (13, fs)) ∈ ws) : Met l ⟨"java/util/ArrayList", "add", "(Ljava/lang/Object;)Z"⟩ [Cond.code ⟨"java/util/ArrayList", "add", "(Ljava/lang/Object;)Z"⟩ prog_37_method_25_code 2 (some FieldType.boolean)] { frames := 6, cells := 1, slots := gqS g, locals := 150 } (pCy D dA e0 mi [.ref a, .ref v] (LqW dA a g ++ (ws)) sz) (va_Qi (fun (r9 : Int32) (u9 : LI) => r9 = 1 ∧ adQ g v u9) (fun (u9 : LI) t9 => bW D (va_A (LqW dA a g ++ (ws)) sz) (LqW dA a u9 ++ (ws)) t9) (va_A (LqW dA a g ++ (ws)) sz)) 1 (gqS g) (va_A (LqW dA a g ++ (ws)) sz) := by
  obtain ⟨k1, k2, k3⟩ := hg
  by_cases h0 : g.eN = 0
  · obtain ⟨k4, k5⟩ := k1 h0
    have eS : gqS g = 10 := by unfold gqS grN; rw [if_neg (by omega), if_pos h0]
    have eW : LqW dA a g = [(a, .inr (6, [.ref e0, .int 0, .int g.mc]))] := by rw [LqW_0 h0, k4, k5]; rfl
    rw [eW, eS]
    refine Met_mono (v_Ladd_0E l D dA sz e0 mi ws a g.mc v fs mo) (Nat.le_of_ble_eq_true rfl) (Nat.le_refl _) (Nat.le_refl _) (Nat.le_of_ble_eq_true rfl) (Nat.le_refl _) (Nat.le_refl _) (fun _ _ h => h) ?_ (fun _ h => h)
    rintro b9 st o t ⟨⟨r, u, e1, e2, e3⟩, e4⟩
    refine ⟨⟨r, _, e1, ⟨e2, ad_0 (b := u) (mc := g.mc + 1) h0 k5⟩, ?_⟩, e4⟩
    show bW D _ (LqW dA a _ ++ ws) t
    rw [LqW_1]
    · exact ⟨pmP (lq_sw _ _ ws) e3.1, pmD (lq_sw _ _ ws) e3.2⟩
    · exact (by decide : ¬ (10 : Nat) = 0)
  · rw [LqW_1 h0]
    by_cases h1 : g.sz < g.eN
    · have eS : gqS g = 0 := by unfold gqS; rw [if_pos h1]
      rw [eS]
      refine Met_mono (v_Ladd_E l D dA sz ws (fun _ => a) g v fs h1 k3 mo) (Nat.le_of_ble_eq_true rfl) (Nat.le_of_ble_eq_true rfl) (Nat.le_refl _) (Nat.le_of_ble_eq_true rfl) (Nat.le_of_ble_eq_true rfl) (Nat.le_refl _) (fun _ _ h => pC_e h) ?_ (fun _ h => h)
      rintro b9 st o t ⟨⟨r, u, e1, e2, e3⟩, e4⟩
      refine ⟨⟨r, _, e1, ⟨e2, ad_r (mc := g.mc + 1) h1⟩, ?_⟩, e4⟩
      show bW D _ (LqW dA a _ ++ ws) t
      rw [LqW_1]
      · exact e3
      · exact h0
    · have eS : gqS g = g.eN + max 1 (g.eN / 2) := by unfold gqS grN; rw [if_neg h1, if_neg h0]
      rw [eS]
      refine Met_mono (v_Ladd_gE l D dA sz e0 mi ws (fun _ => a) g v fs hel (by omega) k3 (by omega) mo) (Nat.le_of_ble_eq_true rfl) (Nat.le_refl _) (Nat.le_refl _) (Nat.le_of_ble_eq_true rfl) (Nat.le_refl _) (Nat.le_refl _) (fun _ _ h => h) ?_ (fun _ h => h)
      rintro b9 st o t ⟨⟨r, u, e1, e2, e3⟩, e4⟩
      refine ⟨⟨r, _, e1, ⟨e2, ad_g (b := u) (mc := g.mc + 1) (by omega) (by omega)⟩, ?_⟩, e4⟩
      show bW D _ (LqW dA a _ ++ ws) t
      rw [LqW_1]
      · exact e3
      · show ¬ g.eN + max 1 (g.eN / 2) = 0
        omega
theorem v_LaddQ_W (l : Launch) (D : va_G) (dA : Nat → ClassId) (sz : Nat) (e0 mi : Nat) (ws : va_W) (a : Nat) (g : LI) (v : Nat) (fs : List Value) (hg : lqOk e0 g) (hel : ∀ i : Nat, i < g.eN → ∀ y : Nat, g.el i = some y → ∃ vs : List Value, (y, .inr (10, vs)) ∈ ws) (mo : (v, .inr (10, fs)) ∈ ws) : Met l ⟨"java/util/ArrayList", "add", "(Ljava/lang/Object;)Z"⟩ [Cond.code ⟨"java/util/ArrayList", "add", "(Ljava/lang/Object;)Z"⟩ prog_37_method_25_code 2 (some FieldType.boolean)] { frames := 6, cells := 1, slots := gqS g, locals := 150 } (pCy D dA e0 mi [.ref a, .ref v] (LqW dA a g ++ (ws)) sz) (va_Qi (fun (r9 : Int32) (u9 : LI) => r9 = 1 ∧ adQ g v u9) (fun (u9 : LI) t9 => bW D (va_A (LqW dA a g ++ (ws)) sz) (LqW dA a u9 ++ (ws)) t9) (va_A (LqW dA a g ++ (ws)) sz)) 1 (gqS g) (va_A (LqW dA a g ++ (ws)) sz) := by
  obtain ⟨k1, k2, k3⟩ := hg
  by_cases h0 : g.eN = 0
  · obtain ⟨k4, k5⟩ := k1 h0
    have eS : gqS g = 10 := by unfold gqS grN; rw [if_neg (by omega), if_pos h0]
    have eW : LqW dA a g = [(a, .inr (6, [.ref e0, .int 0, .int g.mc]))] := by rw [LqW_0 h0, k4, k5]; rfl
    rw [eW, eS]
    refine Met_mono (v_Ladd_0W l D dA sz e0 mi ws a g.mc v fs mo) (Nat.le_of_ble_eq_true rfl) (Nat.le_refl _) (Nat.le_refl _) (Nat.le_of_ble_eq_true rfl) (Nat.le_refl _) (Nat.le_refl _) (fun _ _ h => h) ?_ (fun _ h => h)
    rintro b9 st o t ⟨⟨r, u, e1, e2, e3⟩, e4⟩
    refine ⟨⟨r, _, e1, ⟨e2, ad_0 (b := u) (mc := g.mc + 1) h0 k5⟩, ?_⟩, e4⟩
    show bW D _ (LqW dA a _ ++ ws) t
    rw [LqW_1]
    · exact ⟨pmP (lq_sw _ _ ws) e3.1, pmD (lq_sw _ _ ws) e3.2⟩
    · exact (by decide : ¬ (10 : Nat) = 0)
  · rw [LqW_1 h0]
    by_cases h1 : g.sz < g.eN
    · have eS : gqS g = 0 := by unfold gqS; rw [if_pos h1]
      rw [eS]
      refine Met_mono (v_Ladd_W l D dA sz ws (fun _ => a) g v fs h1 k3 mo) (Nat.le_of_ble_eq_true rfl) (Nat.le_of_ble_eq_true rfl) (Nat.le_refl _) (Nat.le_of_ble_eq_true rfl) (Nat.le_of_ble_eq_true rfl) (Nat.le_refl _) (fun _ _ h => pC_e h) ?_ (fun _ h => h)
      rintro b9 st o t ⟨⟨r, u, e1, e2, e3⟩, e4⟩
      refine ⟨⟨r, _, e1, ⟨e2, ad_r (mc := g.mc + 1) h1⟩, ?_⟩, e4⟩
      show bW D _ (LqW dA a _ ++ ws) t
      rw [LqW_1]
      · exact e3
      · exact h0
    · have eS : gqS g = g.eN + max 1 (g.eN / 2) := by unfold gqS grN; rw [if_neg h1, if_neg h0]
      rw [eS]
      refine Met_mono (v_Ladd_gW l D dA sz e0 mi ws (fun _ => a) g v fs hel (by omega) k3 (by omega) mo) (Nat.le_of_ble_eq_true rfl) (Nat.le_refl _) (Nat.le_refl _) (Nat.le_of_ble_eq_true rfl) (Nat.le_refl _) (Nat.le_refl _) (fun _ _ h => h) ?_ (fun _ h => h)
      rintro b9 st o t ⟨⟨r, u, e1, e2, e3⟩, e4⟩
      refine ⟨⟨r, _, e1, ⟨e2, ad_g (b := u) (mc := g.mc + 1) (by omega) (by omega)⟩, ?_⟩, e4⟩
      show bW D _ (LqW dA a _ ++ ws) t
      rw [LqW_1]
      · exact e3
      · show ¬ g.eN + max 1 (g.eN / 2) = 0
        omega
set_option maxHeartbeats 4000000 in
set_option maxRecDepth 100000 in
theorem v_LsizeO (l : Launch) (D : va_G) (dA : Nat → ClassId) (sz : Nat) (ws : va_W) (a : Nat) (ea : Nat) (n : Nat) (mc : Int32) : Met l ⟨"java/util/ArrayList", "size", "()I"⟩ [Cond.code ⟨"java/util/ArrayList", "size", "()I"⟩ prog_37_method_8_code 1 (some FieldType.int)] { frames := 1, cells := 0, slots := 0, locals := 0 } (pC D dA [.ref a] ([(a, .inr (6, [.ref ea, .int (nI n), .int mc]))] ++ (ws)) sz) (va_Qi (fun (r9 : Int32) (u9 : Unit) => r9 = nI n) (fun (u9 : Unit) t9 => bW D (va_A ([(a, .inr (6, [.ref ea, .int (nI n), .int mc]))] ++ (ws)) sz) ([(a, .inr (6, [.ref ea, .int (nI n), .int mc]))] ++ (ws)) t9) (va_A ([(a, .inr (6, [.ref ea, .int (nI n), .int mc]))] ++ (ws)) sz)) 0 0 (va_A ([(a, .inr (6, [.ref ea, .int (nI n), .int mc]))] ++ (ws)) sz) := by
  refine mkC (y := ⟨"java/util/ArrayList", "size", "()I"⟩) (cc := prog_37_method_8_code) (maxL := 1) (av := [.ref a]) (ws := [(a, .inr (6, [.ref ea, .int (nI n), .int mc]))] ++ (ws)) (sz := sz) (Qc := fun A => va_Qi (fun (r9 : Int32) (u9 : Unit) => r9 = nI n) (fun (u9 : Unit) t9 => bW D A ([(a, .inr (6, [.ref ea, .int (nI n), .int mc]))] ++ (ws)) t9) A) (by decide) (Nat.le_of_ble_eq_true rfl) ?_
  intro A p e s m below meth c ls hsz hB
  obtain ⟨hx, hb, hr, hml, hown, hin, hlk, hE, hK, hP, hD, hS, hA, hN, hl⟩ := hB
  have hown : s.vm.findClass "java/util/ArrayList" = some m.cls := hown
  have hl : lv_has ls 1 [(0, .ref a)] := hl
  obtain ⟨H, hH⟩ : ∃ z, z = s.heap := ⟨_, rfl⟩
  have hP : va_P D vwCl ([(a, .inr (6, [.ref ea, .int (nI n), .int mc]))] ++ (ws)) H := by rw [hH]; exact hP
  have hS : va_S A s.heap H [] := by rw [hH]; exact hS
  rw [← hH]
  refine lv_aload_n hx hb d_L_size_0 rfl (lv_at hl 0 rfl) ?_
  refine gF (v := .int (nI n)) hx hb hown hE hK hP 0 rfl rfl layL 1 (by decide) w657 rfl d_L_size_1 ?_
  exact rfI hx hb hr hlk hS () rfl hP hD (Nat.le_of_ble_eq_true rfl) (Nat.le_of_ble_eq_true rfl) d_L_size_4
theorem v_LsizeQ (l : Launch) (D : va_G) (dA : Nat → ClassId) (sz : Nat) (ws : va_W) (a : Nat) (g : LI) : Met l ⟨"java/util/ArrayList", "size", "()I"⟩ [Cond.code ⟨"java/util/ArrayList", "size", "()I"⟩ prog_37_method_8_code 1 (some FieldType.int)] { frames := 1, cells := 0, slots := 0, locals := 0 } (pC D dA [.ref a] (LqW dA a g ++ (ws)) sz) (va_Qi (fun (r9 : Int32) (u9 : Unit) => r9 = nI g.sz) (fun (u9 : Unit) t9 => bW D (va_A (LqW dA a g ++ (ws)) sz) (LqW dA a g ++ (ws)) t9) (va_A (LqW dA a g ++ (ws)) sz)) 0 0 (va_A (LqW dA a g ++ (ws)) sz) := v_LsizeO l D dA sz (LqA dA g ++ ws) a g.eA g.sz g.mc
set_option maxHeartbeats 4000000 in
set_option maxRecDepth 100000 in
theorem v_Lclear_0 (l : Launch) (D : va_G) (dA : Nat → ClassId) (sz : Nat) (e0 mi : Nat) (ws : va_W) (a : Nat) (mc : Int32) : Met l ⟨"java/util/ArrayList", "clear", "()V"⟩ [Cond.code ⟨"java/util/ArrayList", "clear", "()V"⟩ prog_37_method_40_code 4 none] { frames := 1, cells := 0, slots := 0, locals := 0 } (pCy D dA e0 mi [.ref a] ([(a, .inr (6, [.ref e0, .int 0, .int mc]))] ++ (ws)) sz) (va_Qv (fun (u9 : Unit) => True) (fun (u9 : Unit) t9 => bW D (va_A ([(a, .inr (6, [.ref e0, .int 0, .int mc]))] ++ (ws)) sz) ([(a, .inr (6, [.ref e0, .int 0, .int (mc + 1)]))] ++ (ws)) t9) (va_A ([(a, .inr (6, [.ref e0, .int 0, .int mc]))] ++ (ws)) sz)) 0 0 (va_A ([(a, .inr (6, [.ref e0, .int 0, .int mc]))] ++ (ws)) sz) := by
  refine mkY (y := ⟨"java/util/ArrayList", "clear", "()V"⟩) (cc := prog_37_method_40_code) (maxL := 4) (av := [.ref a]) (ws := [(a, .inr (6, [.ref e0, .int 0, .int mc]))] ++ (ws)) (sz := sz) (Qc := fun A => va_Qv (fun (u9 : Unit) => True) (fun (u9 : Unit) t9 => bW D A ([(a, .inr (6, [.ref e0, .int 0, .int (mc + 1)]))] ++ (ws)) t9) A) (by decide) (Nat.le_of_ble_eq_true rfl) ?_
  intro A p e s m below meth c ls hsz hZ hT hM hB
  obtain ⟨hx, hb, hr, hml, hown, hin, hlk, hE, hK, hP, hD, hS, hA, hN, hl⟩ := hB
  have hown : s.vm.findClass "java/util/ArrayList" = some m.cls := hown
  have hl : lv_has ls 4 [(0, .ref a)] := hl
  obtain ⟨H, hH⟩ : ∃ z, z = s.heap := ⟨_, rfl⟩
  have hP : va_P D vwCl ([(a, .inr (6, [.ref e0, .int 0, .int mc]))] ++ (ws)) H := by rw [hH]; exact hP
  have hS : va_S A s.heap H [] := by rw [hH]; exact hS
  rw [← hH]
  refine lv_aload_n hx hb d_L_clear_0 rfl (lv_at hl 0 rfl) ?_
  refine lv_dup hx hb d_L_clear_1 rfl ?_
  refine gFU (v := .int mc) hx hb hown hE hK hP 0 rfl rfl layL 2 (by decide) w654 w655 rfl d_L_clear_2 ?_
  refine lv_iconst (v := 1) hx hb d_L_clear_5 (by decide) ?_
  refine lv_iadd hx hb d_L_clear_6 ?_
  refine pFU (v := .int (mc + 1)) hx hb hown hE hK hP hD hS 0 rfl rfl layL tyL tokL nmL 2 (by decide) w654 w655 rfl rfl rfl (Nat.le_of_ble_eq_true rfl) d_L_clear_7 (fun H locs hP hD hS => ?_)
  have hP : va_P D vwCl ([(a, .inr (6, [.ref e0, .int 0, .int (mc + 1)]))] ++ (ws)) H := hP
  have hD : va_D A ([(a, .inr (6, [.ref e0, .int 0, .int (mc + 1)]))] ++ (ws)) := hD
  refine lv_aload_n hx hb d_L_clear_10 rfl (lv_at hl 0 rfl) ?_
  refine gF (v := .ref e0) hx hb hown hE hK hP 0 rfl rfl layL 0 (by decide) w656 rfl d_L_clear_11 ?_
  refine lv_astore_n hx hb d_L_clear_14 rfl hl (by decide) rfl (fun ls hl => ?_)
  have hl : lv_has ls 4 [(1, .ref e0), (0, .ref a)] := hl
  refine lv_aload_n hx hb d_L_clear_15 rfl (lv_at hl 1 rfl) ?_
  refine gF (v := .int 0) hx hb hown hE hK hP 0 rfl rfl layL 1 (by decide) w657 rfl d_L_clear_16 ?_
  refine lv_istore_n hx hb d_L_clear_19 rfl hl (by decide) rfl (fun ls hl => ?_)
  have hl : lv_has ls 4 [(2, .int 0), (1, .ref e0), (0, .ref a)] := hl
  refine lv_aload_n hx hb d_L_clear_20 rfl (lv_at hl 2 rfl) ?_
  refine lv_iconst (v := 0) hx hb d_L_clear_21 (by decide) ?_
  refine lv_dup_x1 hx hb d_L_clear_22 rfl rfl ?_
  refine pF (v := .int 0) hx hb hown hE hK hP hD hS 0 rfl rfl layL tyL tokL nmL 1 (by decide) w657 rfl rfl rfl (Nat.le_of_ble_eq_true rfl) d_L_clear_23 (fun H locs hP hD hS => ?_)
  have hP : va_P D vwCl ([(a, .inr (6, [.ref e0, .int 0, .int (mc + 1)]))] ++ (ws)) H := hP
  have hD : va_D A ([(a, .inr (6, [.ref e0, .int 0, .int (mc + 1)]))] ++ (ws)) := hD
  refine lv_istore_n hx hb d_L_clear_26 rfl hl (by decide) rfl (fun ls hl => ?_)
  have hl : lv_has ls 4 [(3, .int 0), (2, .int 0), (1, .ref e0), (0, .ref a)] := hl
  refine lv_iload_n hx hb d_L_clear_27 rfl (lv_at hl 0 rfl) ?_
  refine lv_iload_n hx hb d_L_clear_28 rfl (lv_at hl 1 rfl) ?_
  refine lv_icmp_ge hx hb d_L_clear_29 (tgt := 42) rfl (fun _ => ?_) (fun h9 => absurd (by decide) h9)
  exact rfV hx hb hr hlk hS () trivial hP hD (Nat.le_of_ble_eq_true rfl) (Nat.le_of_ble_eq_true rfl) d_L_clear_42
theorem v_LclearQ (l : Launch) (D : va_G) (dA : Nat → ClassId) (sz : Nat) (e0 mi : Nat) (ws : va_W) (a : Nat) (g : LI) (hg : lqOk e0 g) : Met l ⟨"java/util/ArrayList", "clear", "()V"⟩ [Cond.code ⟨"java/util/ArrayList", "clear", "()V"⟩ prog_37_method_40_code 4 none] { frames := 1, cells := 0, slots := 0, locals := 0 } (pCy D dA e0 mi [.ref a] (LqW dA a g ++ (ws)) sz) (va_Qv (fun (u9 : Unit) => True) (fun (u9 : Unit) t9 => bW D (va_A (LqW dA a g ++ (ws)) sz) (LqW dA a (LI.s_el (LI.s_mc (LI.s_sz g 0) (g.mc + 1)) (clF g.el g.sz)) ++ (ws)) t9) (va_A (LqW dA a g ++ (ws)) sz)) 0 0 (va_A (LqW dA a g ++ (ws)) sz) := by
  obtain ⟨k1, k2, k3⟩ := hg
  by_cases h0 : g.eN = 0
  · obtain ⟨k4, k5⟩ := k1 h0
    rw [show LqW dA a g = [(a, .inr (6, [.ref e0, .int 0, .int g.mc]))] by rw [LqW_0 h0, k4, k5]; rfl, show LqW dA a (LI.s_el (LI.s_mc (LI.s_sz g 0) (g.mc + 1)) (clF g.el g.sz)) = [(a, .inr (6, [.ref e0, .int 0, .int (g.mc + 1)]))] by rw [LqW_0 (g := LI.s_el (LI.s_mc (LI.s_sz g 0) (g.mc + 1)) (clF g.el g.sz)) (show g.eN = 0 from h0), ← k4]; rfl]
    exact Met_mono (v_Lclear_0 l D dA sz e0 mi ws a g.mc) (Nat.le_of_ble_eq_true rfl) (Nat.le_refl _) (Nat.le_refl _) (Nat.le_of_ble_eq_true rfl) (Nat.le_refl _) (Nat.le_refl _) (fun _ _ h => h) (fun _ _ _ _ h => h) (fun _ h => h)
  · rw [LqW_1 h0, LqW_1 (g := LI.s_el (LI.s_mc (LI.s_sz g 0) (g.mc + 1)) (clF g.el g.sz)) (show ¬ g.eN = 0 from h0)]
    exact Met_mono (v_Lclear l D dA sz ws (fun _ => a) g k2 k3) (Nat.le_of_ble_eq_true rfl) (Nat.le_refl _) (Nat.le_refl _) (Nat.le_of_ble_eq_true rfl) (Nat.le_refl _) (Nat.le_refl _) (fun _ _ h => pC_e h) (fun _ _ _ _ h => h) (fun _ h => h)
