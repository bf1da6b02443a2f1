/-! Reading: what the two sides have read, the names of 'by'. -/
def kF (a : Int32) : Int32 := if a = 0 then 256 else if a = 1 then 257 else if a = 2 then 258 else if a = 3 then 259 else if a = 256 then 260 else if a = 257 then 261 else if a = 258 then 262 else a
def kG (b : Int32) : Int32 := if b = 256 then 0 else if b = 257 then 1 else if b = 258 then 2 else if b = 259 then 3 else if b = 260 then 256 else if b = 261 then 257 else if b = 262 then 258 else b
theorem kR_f {a b : Int32} (h : kR a b) : b = kF a ∧ a = kG b := by
  rcases h with ⟨h, e⟩ | ⟨h, e⟩ | ⟨h, e⟩ | ⟨h, e⟩ | ⟨h, e⟩ | ⟨h, e⟩ | ⟨h, e⟩ | ⟨h, e⟩
  · subst h; subst e; decide
  · subst h; subst e; decide
  · subst h; subst e; decide
  · subst h; subst e; decide
  · subst h; subst e; decide
  · subst h; subst e; decide
  · subst h; subst e; decide
  · subst e
    have h := sgOne_i.mpr h
    rcases h with h | h | h | h | h | h | h | h | h | h | h <;> subst h <;> decide
theorem kR_i {a b k k' : Int32} (h : kR a b) (h2 : kR k k') : a = k ↔ b = k' := by
  obtain ⟨h3, h4⟩ := kR_f h
  obtain ⟨h5, h6⟩ := kR_f h2
  constructor
  · intro e; rw [h3, h5, e]
  · intro e; rw [h4, h6, e]
theorem kR_b {a b : Int32} (h : kR a b) : ¬ b = 263 := by
  intro e
  obtain ⟨h3, h4⟩ := kR_f h
  rw [e] at h3 h4
  have h4 : a = 263 := h4
  rw [h4] at h3
  rcases h with ⟨h, -⟩ | ⟨h, -⟩ | ⟨h, -⟩ | ⟨h, -⟩ | ⟨h, -⟩ | ⟨h, -⟩ | ⟨h, -⟩ | ⟨h, -⟩ <;> rw [h4] at h <;> revert h <;> decide
theorem kR_s {a : Int32} (h : sgOne a = true) : kR a a := Or.inr (Or.inr (Or.inr (Or.inr (Or.inr (Or.inr (Or.inr ⟨h, rfl⟩))))))
theorem kR_2 : kR 2 258 := Or.inr (Or.inr (Or.inl ⟨rfl, rfl⟩))
theorem kR_3 : kR 3 259 := Or.inr (Or.inr (Or.inr (Or.inl ⟨rfl, rfl⟩)))
theorem kR_1 : kR 1 257 := Or.inr (Or.inl ⟨rfl, rfl⟩)
theorem kR_0 : kR 0 256 := Or.inl ⟨rfl, rfl⟩
/-- the fault that a token tells -/
def flR (m : MS) (u : TKQ) : Prop := m.faultCode = u.2.2.2.2.1 ∧ m.faultPlace = u.2.2.2.2.2
/-- both have read on, or both have found the same fault -/
def qR (r : Bool × MS) (b : Bool) (u : TKQ) : Prop := (u.2.2.2.2.1 = 0 → b = true ∧ r.1 = true ∧ tkR r.2 u ∧ r.2.lx) ∧ (¬ u.2.2.2.2.1 = 0 → r.1 = false ∧ flR r.2 u ∧ (b = true → u.1 = 263))
section QR
variable {f : Nat → Int32} {n : Nat} {y : MS} {t : TKQ}
theorem rfT_0 {k : Int32} {q : Nat} (h : t.2.2.2.2.1 = 0) : rfT t k q = (t.1, t.2.1, t.2.2.1, t.2.2.2.1, k, nI q) := if_pos h
theorem rfT_1 {k : Int32} {q : Nat} (h : ¬ t.2.2.2.2.1 = 0) : rfT t k q = t := if_neg h
theorem nx_c (hf : y.tape = f) (hn : y.length = n) (hby : byteF f) (h : tkR y t) (hl : y.lx) : (y.nx.1 = true ∧ tkR y.nx.2 (nxT f n t) ∧ y.nx.2.lx ∧ (nxT f n t).2.2.2.2.1 = 0) ∨ (y.nx.1 = false ∧ (nxT f n t).1 = 263 ∧ ¬ (nxT f n t).2.2.2.2.1 = 0 ∧ flR y.nx.2 (nxT f n t)) := by
  subst hf
  subst hn
  obtain ⟨-, -, h3, -, h5, h6, h7⟩ := h
  rcases nx_q hby h3 hl.2.2.1 h6 h5 h7 with ⟨a, b⟩ | ⟨a, b, c, d⟩
  · exact Or.inl ⟨a, b, (nx_in hl a).1, b.2.2.2.2.2.1⟩
  · exact Or.inr ⟨a, b, c, d⟩
theorem fl_q (h : tkR y t) (k : Int32) (hk : ¬ k = 0) : qR (false, y.flS k y.frm) false (rfT t k t.2.1) := by
  rw [rfT_0 h.2.2.2.2.2.1]
  exact ⟨fun e => absurd e hk, fun _ => ⟨rfl, ⟨rfl, congrArg nI h.2.1⟩, fun e => by cases e⟩⟩
theorem tkT_b {k : Int32} (h : t.1 = 263) (hk : ¬ k = 263) (hc : ¬ t.2.2.2.2.1 = 0) : tkT f n t k = (false, t) := by
  unfold tkT
  rw [if_neg (by rw [h]; exact fun e => hk e.symm), rfT_1 hc]
theorem nx_qq (hf : y.tape = f) (hn : y.length = n) (hby : byteF f) (h : tkR y t) (hl : y.lx) : qR y.nx true (nxT f n t) := by
  rcases nx_c hf hn hby h hl with ⟨a, b, c, d⟩ | ⟨a, b, c, d⟩
  · exact ⟨fun _ => ⟨rfl, a, b, c⟩, fun e => absurd d e⟩
  · exact ⟨fun e => absurd e c, fun _ => ⟨a, d, fun _ => b⟩⟩
theorem nd_q {k k' : Int32} (hf : y.tape = f) (hn : y.length = n) (hby : byteF f) (h : tkR y t) (hl : y.lx) (hk : kR k k') : qR (y.ndF k) (tkT f n t k').1 (tkT f n t k').2 := by
  unfold MS.ndF tkT
  have e := kR_i h.1 hk
  by_cases c : y.kind = k
  · rw [if_pos c, if_pos (e.mp c)]
    exact nx_qq hf hn hby h hl
  · rw [if_neg c, if_neg (fun z => c (e.mpr z))]
    exact fl_q h 2 (by decide)
end QR
/-- the names of table tb: both sides -/
def nmRe (y : MS) (tb k : Nat) (NL : Nat → List Int32) : Prop := y.tableNames tb = k ∧ ∀ i, i < k → seg y.tape (y.nameFroms (6 * tb + i)) (y.nameFroms (6 * tb + i) + y.nameLengths (6 * tb + i)) = NL i
theorem seg_ii {f : Nat → Int32} {a b c d : Nat} : seg f a b = seg f c d ↔ (b - a = d - c ∧ ∀ i, i < b - a → f (a + i) = f (c + i)) := by
  constructor
  · intro e
    have e1 : b - a = d - c := by rw [← seg_len f a b, ← seg_len f c d, e]
    refine ⟨e1, fun i hi => ?_⟩
    rw [← seg_get f hi, e, seg_get f (by omega)]
  · rintro ⟨e1, e2⟩
    unfold seg
    rw [← e1]
    exact List.map_congr_left (fun i hi => e2 i (List.mem_range.mp hi))
section NM
variable {f : Nat → Int32} {n : Nat} {y : MS} {t : TKQ} {tb k : Nat} {NL : Nat → List Int32}
theorem nmQ_s (hf : y.frm = t.2.1) (ht : y.too = t.2.2.1) (hl : y.frm ≤ y.too) (hn : nmRe y tb k NL) {i : Nat} (hi : i < k) : y.nmQ tb i = sameW (NL i) (tkw y.tape t) := by
  have e : (y.nmQ tb i = true) ↔ (sameW (NL i) (tkw y.tape t) = true) := by
    rw [sameW_i, ← hn.2 i hi]
    unfold MS.nmQ tkw
    rw [Bool.and_eq_true, decide_eq_true_eq, allB_iff, seg_ii, ← hf, ← ht, Nat.add_sub_cancel_left]
    constructor
    · rintro ⟨a, b⟩
      exact ⟨a, fun j hj => of_decide_eq_true (b j (by omega))⟩
    · rintro ⟨a, b⟩
      exact ⟨a, fun j hj => decide_eq_true (b j (by omega))⟩
  cases c : sameW (NL i) (tkw y.tape t) with
  | true => exact e.mpr c
  | false =>
    cases d : y.nmQ tb i with
    | false => rfl
    | true => rw [e.mp d] at c; cases c
theorem byT_m (hf : y.frm = t.2.1) (ht : y.too = t.2.2.1) (hl : y.frm ≤ y.too) (hn : nmRe y tb k NL) (hk : k ≤ 6) : y.byT tb = !mtB NL k (tkw y.tape t) := by
  unfold MS.byT mtB
  rw [hn.1, anyB_ext (g := fun i => !nsmB NL (tkw y.tape t) i) (fun i hi => by
    rw [nmQ_s hf ht hl hn hi]
    unfold nsmB
    rw [Bool.not_not])]
  have ea : ∀ j, anyB j (fun i => !nsmB NL (tkw y.tape t) i) = !allB j (nsmB NL (tkw y.tape t)) := by
    intro j
    induction j with
    | zero => rfl
    | succ j ih => rw [anyB_s, allB_s, ih, Bool.not_and]
  rw [ea, Bool.not_and, Bool.or_comm]
  congr 1
  by_cases c : k = 6
  · subst c; rfl
  · rw [decide_eq_false c, decide_eq_true (by omega)]; rfl
theorem nmRe_ad (hf : y.frm = t.2.1) (ht : y.too = t.2.2.1) (hl : y.frm ≤ y.too) (hn : nmRe y tb k NL) : nmRe (y.adS tb) tb (k + 1) (va_up NL k (tkw y.tape t)) := by
  obtain ⟨h1, h2⟩ := hn
  refine ⟨(va_up_self _ _ _).trans (congrArg (· + 1) h1), fun i hi => ?_⟩
  show seg y.tape (va_up y.nameFroms (6 * tb + y.tableNames tb) y.frm (6 * tb + i)) (va_up y.nameFroms (6 * tb + y.tableNames tb) y.frm (6 * tb + i) + va_up y.nameLengths (6 * tb + y.tableNames tb) (y.too - y.frm) (6 * tb + i)) = _
  rw [h1]
  by_cases c : i = k
  · subst c
    rw [va_up_self, va_up_self, va_up_self, Nat.add_sub_cancel' hl]
    unfold tkw
    rw [hf, ht]
  · rw [va_up_ne _ _ (by omega), va_up_ne _ _ (by omega), va_up_ne _ _ c]
    exact h2 i (by omega)
theorem nmRe_tk {z : MS} (h : y.tk z) (hn : nmRe y tb k NL) : nmRe z tb k NL := by
  have e1 : z.tableNames = y.tableNames := tk_f h MS.tableNames rfl
  have e2 : z.nameFroms = y.nameFroms := tk_f h MS.nameFroms rfl
  have e3 : z.nameLengths = y.nameLengths := tk_f h MS.nameLengths rfl
  have e4 : z.tape = y.tape := tk_f h MS.tape rfl
  unfold nmRe
  rw [e1, e2, e3, e4]
  exact hn
theorem rfT_n {k : Int32} {q : Nat} (h : t.2.2.2.2.1 = 0) (hk : ¬ k = 0) : ¬ (rfT t k q).2.2.2.2.1 = 0 := by
  rw [rfT_0 h]
  exact hk
theorem by_q (hby : byteF f) : ∀ {w : Nat} {y : MS} {t : TKQ} {k : Nat} {NL : Nat → List Int32}, y.tape = f → y.length = n → tkR y t → y.lx → nmRe y tb k NL → k + w = 7 → k ≤ 6 → qR (MS.byL tb w y) (byC f n (rnG f n w t k NL)).1 (byC f n (rnG f n w t k NL)).2.1 ∧ ((byC f n (rnG f n w t k NL)).2.1.2.2.2.2.1 = 0 → nmRe (MS.byL tb w y).2 tb (byC f n (rnG f n w t k NL)).2.2.1 (byC f n (rnG f n w t k NL)).2.2.2 ∧ (byC f n (rnG f n w t k NL)).2.2.1 ≤ 6)
  | 0, y, t, k, NL, hf, hn, h, hl, hnm, hk, hk6 => absurd hk6 (by omega)
  | w + 1, y, t, k, NL, hf, hn, h, hl, hnm, hk, hk6 => by
    have hp : 0 < w + 1 := Nat.succ_pos w
    by_cases k2 : y.kind = 2
    · have t2 : t.1 = 258 := (kR_i h.1 kR_2).mp k2
      have bt := byT_m h.2.1 h.2.2.1 hl.2.1 hnm (by omega)
      rw [hf] at bt
      cases c1 : mtB NL k (tkw f t) with
      | false =>
        rw [c1] at bt
        rw [by_4 hp k2 bt, show rnG f n (w + 1) t k NL = (false, rfT t 4 t.2.1, k, NL) from (if_neg (fun g => g t2)).trans (if_pos c1)]
        exact ⟨fl_q h 4 (by decide), fun e => absurd e (rfT_n h.2.2.2.2.2.1 (by decide))⟩
      | true =>
        have bt : y.byT tb = false := by rw [bt, c1]; rfl
        have c1' : ¬ mtB NL k (tkw f t) = false := by rw [c1]; decide
        have hka : k < 6 := by
          unfold mtB at c1
          rw [Bool.and_eq_true] at c1
          exact of_decide_eq_true c1.2
        have ha : tkR (y.adS tb) t := h
        have la : (y.adS tb).lx := hl
        have na := nmRe_ad h.2.1 h.2.2.1 hl.2.1 hnm
        rw [hf] at na
        rcases nx_c (y := y.adS tb) hf hn hby ha la with ⟨a1, a2, a3, a4⟩ | ⟨a1, a2, a3, a4⟩
        · obtain ⟨z, ez⟩ : ∃ z, z = (y.adS tb).nx.2 := ⟨_, rfl⟩
          have T := tk_nx (y.adS tb)
          rw [← ez] at a2 a3 T
          have nz := nmRe_tk T na
          have zf : z.tape = f := (tk_f T MS.tape rfl).trans hf
          have zn : z.length = n := (tk_f T MS.length rfl).trans hn
          by_cases c3 : z.kind = 44
          · have t3 : (nxT f n t).1 = 44 := (kR_i a2.1 (kR_s (by decide))).mp c3
            have er : rnG f n (w + 1) t k NL = rnG f n w (nxT f n (nxT f n t)) (k + 1) (va_up NL k (tkw f t)) := (if_neg (fun g => g t2)).trans ((if_neg c1').trans (if_neg (fun g => g t3)))
            rw [er]
            rcases nx_c zf zn hby a2 a3 with ⟨b1, b2, b3, b4⟩ | ⟨b1, b2, b3, b4⟩
            · rw [by_m hp k2 bt a1 ez c3 b1 rfl]
              exact by_q hby ((tk_f (tk_nx z) MS.tape rfl).trans zf) ((tk_f (tk_nx z) MS.length rfl).trans zn) b2 b3 (nmRe_tk (tk_nx z) nz) (by omega) (by omega)
            · rw [by_mn hp k2 bt a1 ez c3 b1]
              obtain ⟨w', rfl⟩ : ∃ w', w = w' + 1 := ⟨w - 1, by omega⟩
              have e2 : rnG f n (w' + 1) (nxT f n (nxT f n t)) (k + 1) (va_up NL k (tkw f t)) = (false, nxT f n (nxT f n t), k + 1, va_up NL k (tkw f t)) := by
                rw [show rnG f n (w' + 1) (nxT f n (nxT f n t)) (k + 1) (va_up NL k (tkw f t)) = (false, rfT (nxT f n (nxT f n t)) 2 (nxT f n (nxT f n t)).2.1, k + 1, va_up NL k (tkw f t)) from if_pos (by rw [b2]; decide), rfT_1 b3]
              rw [e2]
              exact ⟨⟨fun e => absurd e b3, fun _ => ⟨rfl, b4, fun _ => b2⟩⟩, fun e => absurd e b3⟩
          · have t3 : ¬ (nxT f n t).1 = 44 := fun e => c3 ((kR_i a2.1 (kR_s (by decide))).mpr e)
            have er : rnG f n (w + 1) t k NL = (true, nxT f n t, k + 1, va_up NL k (tkw f t)) := (if_neg (fun g => g t2)).trans ((if_neg c1').trans (if_pos t3))
            rw [by_e hp k2 bt a1 ez c3, er]
            show qR (z.ndF 41) (tkT f n (nxT f n t) 41).1 (tkT f n (nxT f n t) 41).2 ∧ (_ → nmRe (z.ndF 41).2 tb (k + 1) (va_up NL k (tkw f t)) ∧ k + 1 ≤ 6)
            exact ⟨nd_q zf zn hby a2 a3 (kR_s (by decide)), fun _ => ⟨nmRe_tk (tk_nd z 41) nz, by omega⟩⟩
        · have t3 : ¬ (nxT f n t).1 = 44 := by rw [a2]; decide
          have er : rnG f n (w + 1) t k NL = (true, nxT f n t, k + 1, va_up NL k (tkw f t)) := (if_neg (fun g => g t2)).trans ((if_neg c1').trans (if_pos t3))
          rw [by_n hp k2 bt a1, er]
          show qR (false, (y.adS tb).nx.2) (tkT f n (nxT f n t) 41).1 (tkT f n (nxT f n t) 41).2 ∧ ((tkT f n (nxT f n t) 41).2.2.2.2.2.1 = 0 → _)
          rw [tkT_b a2 (by decide) a3]
          exact ⟨⟨fun e => absurd e a3, fun _ => ⟨rfl, a4, fun _ => a2⟩⟩, fun e => absurd e a3⟩
    · rw [by_k hp k2, show rnG f n (w + 1) t k NL = (false, rfT t 2 t.2.1, k, NL) from if_pos (fun e => k2 ((kR_i h.1 kR_2).mpr e))]
      exact ⟨fl_q h 2 (by decide), fun e => absurd e (rfT_n h.2.2.2.2.2.1 (by decide))⟩
end NM
