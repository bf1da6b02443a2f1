section
/-! Terms, sums, brackets. -/
abbrev PF : Type := (Nat → Int32) → Nat → TKQ → PR
def gdF (F : PF) : Prop := ∀ (f : Nat → Int32) (n : Nat) (t : TKQ), tkok n t → prG n t (F f n t)
/-- an operator and what it works on -/
def opS (F : PF) (f : Nat → Int32) (n : Nat) (r : PR) : PR := ((F f n (nxT f n r.2.1)).1, (F f n (nxT f n r.2.1)).2.1, r.2.2 ++ ((F f n (nxT f n r.2.1)).2.2 ++ [spO r.2.1.1 r.2.1.2.1 0]))
def opL (F : PF) (P : Int32 → Bool) (f : Nat → Int32) (n : Nat) : Nat → PR → PR
  | 0, r => r
  | w + 1, r => if r.1 = true ∧ P r.2.1.1 = true then opL F P f n w (opS F f n r) else r
theorem opL_e {F : PF} {P : Int32 → Bool} {f : Nat → Int32} {n w : Nat} {r : PR} (h : w = 0 ∨ r.1 = false ∨ P r.2.1.1 = false) : opL F P f n w r = r := by
  cases w with
  | zero => rfl
  | succ w =>
    refine if_neg (fun z => ?_)
    rcases h with h | h | h
    · omega
    · rw [z.1] at h; cases h
    · rw [z.2] at h; cases h
theorem opL_s {F : PF} {P : Int32 → Bool} {f : Nat → Int32} {n w : Nat} {r : PR} (hw : 0 < w) (h1 : r.1 = true) (h2 : P r.2.1.1 = true) : opL F P f n w r = opL F P f n (w - 1) (opS F f n r) := by
  obtain ⟨d, rfl⟩ : ∃ d, w = d + 1 := ⟨w - 1, by omega⟩
  exact if_pos ⟨h1, h2⟩
/-- operators only -/
def isOq (P : Int32 → Bool) : Prop := ∀ z, P z = true → ¬ z = 256 ∧ ¬ z = 264
theorem opS_P {F : PF} {P : Int32 → Bool} {f : Nat → Int32} {n : Nat} {t : TKQ} {r : PR} (hF : gdF F) (hP : isOq P) (h : prG n t r) (h1 : r.1 = true) (h2 : P r.2.1.1 = true) : prG n t (opS F f n r) ∧ r.2.1.2.1 + 1 ≤ (nxT f n r.2.1).2.1 ∧ (nxT f n r.2.1).2.1 ≤ rqP (opS F f n r).1 (opS F f n r).2.1 ∧ prG n (nxT f n r.2.1) (F f n (nxT f n r.2.1)) := by
  obtain ⟨a1, a2, a3⟩ := h
  rw [h1] at a2
  have a4 : t.2.2.1 ≤ r.2.1.2.1 := a2
  have b := nx_ok (f := f) a1.2.1
  have c := hF f n _ b.1
  obtain ⟨c1, c2, c3⟩ := c
  have d := a1.2.2.1 (hP _ h2).1
  have d2 := b.2
  have d3 := b.1.1
  refine ⟨⟨c1, ?_, ?_⟩, by omega, ?_, ⟨c1, c2, c3⟩⟩
  · show t.2.2.1 ≤ rqP (F f n (nxT f n r.2.1)).1 (F f n (nxT f n r.2.1)).2.1
    omega
  · show t.2.1 + (r.2.2 ++ ((F f n (nxT f n r.2.1)).2.2 ++ [spO r.2.1.1 r.2.1.2.1 0])).length ≤ (F f n (nxT f n r.2.1)).2.1.2.1
    rw [List.length_append, List.length_append]
    show t.2.1 + (r.2.2.length + ((F f n (nxT f n r.2.1)).2.2.length + 1)) ≤ _
    omega
  · show (nxT f n r.2.1).2.1 ≤ rqP (F f n (nxT f n r.2.1)).1 (F f n (nxT f n r.2.1)).2.1
    omega
theorem rqP_st {n : Nat} {t : TKQ} {b : Bool} (h : tkok n t) : t.2.1 ≤ rqP b t ∧ rqP b t ≤ t.2.2.1 := by
  have := h.1
  unfold rqP
  split <;> omega
theorem cpR_m (c k : Nat) {a b : Nat} (h : a ≤ b) : cpR c k a ≤ cpR c k b := by
  obtain ⟨d, rfl⟩ : ∃ d, b = a + d := ⟨b - a, by omega⟩
  rw [← cpR_tr]
  exact cpR_le _ _ _
/-- the rest costs no less -/
theorem opL_P {F : PF} {P : Int32 → Bool} {f : Nat → Int32} {n : Nat} {t : TKQ} (hF : gdF F) (hP : isOq P) : ∀ {w : Nat} {r : PR}, prG n t r → prG n t (opL F P f n w r) ∧ rqP r.1 r.2.1 ≤ rqP (opL F P f n w r).1 (opL F P f n w r).2.1 ∧ r.2.2.length ≤ (opL F P f n w r).2.2.length
  | 0, r, h => ⟨h, Nat.le_refl _, Nat.le_refl _⟩
  | w + 1, r, h => by
    by_cases h1 : r.1 = true ∧ P r.2.1.1 = true
    · rw [opL_s (w := w + 1) (by omega) h1.1 h1.2]
      obtain ⟨a1, a2, a3, a4⟩ := opS_P (f := f) hF hP h h1.1 h1.2
      obtain ⟨b1, b2, b3⟩ := opL_P (f := f) hF hP (w := w + 1 - 1) a1
      refine ⟨b1, ?_, ?_⟩
      · rw [h1.1]
        have e : rqP true r.2.1 = r.2.1.2.1 := rfl
        omega
      · have e : (opS F f n r).2.2.length = r.2.2.length + ((F f n (nxT f n r.2.1)).2.2.length + 1) := by
          show (r.2.2 ++ ((F f n (nxT f n r.2.1)).2.2 ++ [spO r.2.1.1 r.2.1.2.1 0])).length = _
          rw [List.length_append, List.length_append]
          rfl
        omega
    · have e : opL F P f n (w + 1) r = r := if_neg h1
      rw [e]
      exact ⟨h, Nat.le_refl _, Nat.le_refl _⟩
def isTq (z : Int32) : Bool := decide (z = 42) || (decide (z = 47) || decide (z = 37))
def isAd (z : Int32) : Bool := decide (z = 43) || decide (z = 45)
theorem isTq_o : isOq isTq := by
  intro z h
  unfold isTq at h
  simp only [Bool.or_eq_true, decide_eq_true_eq] at h
  rcases h with h | h | h <;> subst h <;> decide
theorem isAd_o : isOq isAd := by
  intro z h
  unfold isAd at h
  simp only [Bool.or_eq_true, decide_eq_true_eq] at h
  rcases h with h | h <;> subst h <;> decide
def pTm (F : PF) : PF := fun f n t => opL F isTq f n n (F f n t)
def pEx (F : PF) : PF := fun f n t => opL F isAd f n n (F f n t)
theorem pTm_g {F : PF} (hF : gdF F) : gdF (pTm F) := fun f n t h => (opL_P hF isTq_o (hF f n t h)).1
theorem pEx_g {F : PF} (hF : gdF F) : gdF (pEx F) := fun f n t h => (opL_P hF isAd_o (hF f n t h)).1
/-- behind the sum in brackets -/
def pOc (f : Nat → Int32) (n : Nat) (e : PR) : PR := if e.1 = true then ((tkT f n e.2.1 41).1, (tkT f n e.2.1 41).2, e.2.2) else e
/-- '(' or '-' and what it opens -/
def pOp (F : PF) : PF := fun f n t => if t.1 = 40 then pOc f n (pEx (pTm F) f n (nxT f n t)) else ((F f n (nxT f n t)).1, (F f n (nxT f n t)).2.1, (F f n (nxT f n t)).2.2 ++ [spO 265 t.2.1 0])
def isOo (z : Int32) : Prop := z = 40 ∨ z = 45
theorem pOc_P {f : Nat → Int32} {n : Nat} {t : TKQ} {e : PR} (h : prG n t e) : prG n t (pOc f n e) ∧ rqP e.1 e.2.1 ≤ rqP (pOc f n e).1 (pOc f n e).2.1 ∧ (pOc f n e).2.2 = e.2.2 := by
  unfold pOc
  split
  · rename_i g
    obtain ⟨a1, a2, a3⟩ := h
    rw [g] at a2
    have a4 : t.2.2.1 ≤ e.2.1.2.1 := a2
    obtain ⟨b1, b2, b3⟩ := tk_P (f := f) (k := 41) a1
    have b4 := a1.1
    refine ⟨⟨b1, ?_, ?_⟩, ?_, rfl⟩
    · show t.2.2.1 ≤ rqP (tkT f n e.2.1 41).1 (tkT f n e.2.1 41).2
      omega
    · show t.2.1 + e.2.2.length ≤ (tkT f n e.2.1 41).2.2.1
      omega
    · rw [g]
      show e.2.1.2.1 ≤ rqP (tkT f n e.2.1 41).1 (tkT f n e.2.1 41).2
      omega
  · exact ⟨h, Nat.le_refl _, rfl⟩
theorem pOp_P {F : PF} (hF : gdF F) {f : Nat → Int32} {n : Nat} {t : TKQ} (h : tkok n t) (hk : ¬ t.1 = 256) : prG n t (pOp F f n t) := by
  have a := nx_ok (f := f) h.2.1
  have b := h.2.2.1 hk
  have a2 := a.2
  have a3 := a.1.1
  unfold pOp
  split
  · obtain ⟨⟨c1, c2, c3⟩, -, -⟩ := pOc_P (f := f) (pEx_g (pTm_g hF) f n _ a.1)
    exact ⟨c1, by omega, by omega⟩
  · obtain ⟨c1, c2, c3⟩ := hF f n _ a.1
    refine ⟨c1, ?_, ?_⟩
    · show t.2.2.1 ≤ rqP (F f n (nxT f n t)).1 (F f n (nxT f n t)).2.1
      omega
    · show t.2.1 + ((F f n (nxT f n t)).2.2 ++ [spO 265 t.2.1 0]).length ≤ (F f n (nxT f n t)).2.1.2.1
      rw [List.length_append]
      show t.2.1 + ((F f n (nxT f n t)).2.2.length + 1) ≤ _
      omega
/-- a factor; O: what '(' and '-' open -/
def pFc (O : PF) : PF := fun f n t => if t.1 = 257 then (true, nxT f n t, [spO 257 t.2.1 t.2.2.2.1]) else if t.1 = 258 then pFn f n t else if t.1 = 40 ∨ t.1 = 45 then O f n t else (false, rfT t 2 t.2.1, [])
/-- too deep -/
def pO3 : PF := fun _ _ t => (false, rfT t 3 t.2.1, [])
def gdO (O : PF) : Prop := ∀ (f : Nat → Int32) (n : Nat) (t : TKQ), tkok n t → ¬ t.1 = 256 → prG n t (O f n t)
theorem pO3_g : gdO pO3 := fun f n t h _ => by
  have a := prT_rf (k := 3) (q := t.2.1) h
  exact ⟨a.1, a.2.1, a.2.2⟩
theorem pFc_g {O : PF} (hO : gdO O) : gdF (pFc O) := by
  intro f n t h
  unfold pFc
  split
  · rename_i g
    have a := prT_nx (f := f) h
    have b := h.2.2.1 (by rw [g]; decide)
    have a2 : t.2.2.1 ≤ (nxT f n t).2.1 := a.2.1
    refine ⟨a.1, a.2.1, ?_⟩
    show t.2.1 + 1 ≤ (nxT f n t).2.1
    omega
  · split
    · rename_i g
      exact pFn_P h g
    · split
      · rename_i g
        exact hO f n t h (by rcases g with g | g <;> rw [g] <;> decide)
      · have a := prT_rf (k := 2) (q := t.2.1) h
        exact ⟨a.1, a.2.1, a.2.2⟩
/-- factors, d brackets deep at most -/
def pFd : Nat → PF
  | 0 => pFc pO3
  | d + 1 => pFc (pOp (pFd d))
theorem pFd_g : ∀ d, gdF (pFd d)
  | 0 => pFc_g pO3_g
  | d + 1 => pFc_g (fun _ _ _ h hk => pOp_P (pFd_g d) h hk)
/-- an operator's step -/
theorem pq_op {dA : Nat → ClassId} {e0 sa v : Nat} {r : va_W} {x y y2 y3 z : VS} {g g1 g2 g3 : LI} {R : PR} {F : PF} {fs : List Value} (h : VS.pq dA e0 sa r x g R y g1) (hR : R.1 = true) (hy : y.qr y2) (h2 : VS.pq dA e0 sa r y2 g1 (F x.tape x.qlen (nxT x.tape x.qlen R.2.1)) y3 g2) (hv : (v, .inr (13, fs)) ∈ y3.pl) (hs : isSP dA y3.pl v (spO R.2.1.1 R.2.1.2.1 0)) (ha : adQ g2 v g3) (hz : z = VS.s_ll y3 (LqW dA sa g3 ++ r)) (hg : g2.sz < y3.qst) : VS.pq dA e0 sa r x g (opS F x.tape x.qlen R) z g3 := by
  have a := pq_tr h hR hy h2
  have b := pq_add (s := spO R.2.1.1 R.2.1.2.1 0) (n := y3.qlen) a hv (fun _ => hs) ha hz (Nat.le_refl _) h2.2.2.1.1.2.2.2.1 hg
  have e : opS F x.tape x.qlen R = ((F x.tape x.qlen (nxT x.tape x.qlen R.2.1)).1, (F x.tape x.qlen (nxT x.tape x.qlen R.2.1)).2.1, R.2.2 ++ (F x.tape x.qlen (nxT x.tape x.qlen R.2.1)).2.2 ++ [spO R.2.1.1 R.2.1.2.1 0]) := by
    unfold opS
    rw [List.append_assoc]
  rw [e]
  exact b
def FacC (o : Nat) (F : PF) (fr lo : Nat) : Prop := ∀ (l : Launch) (D : va_G) (dA : Nat → ClassId) (sz : Nat) (e0 mi : Nat) (kA vA : Nat → Nat) (fm : Nat) (h : Nat) (ad : Nat → Nat) (sa : Nat) (g : LI) (r : va_W) (x : VS) (hsa : sa = ad 23) (hw : VS.pw dA e0 sa r x g), Met l ⟨"SeriesVault$Question", "readFactor", "(I)Z"⟩ [Cond.code ⟨"SeriesVault$Question", "readFactor", "(I)Z"⟩ prog_6_method_7_code 2 (some FieldType.boolean)] { frames := fr, cells := 8 * (rqP (F x.tape x.qlen x.tk).1 (F x.tape x.qlen x.tk).2.1 - x.qst), slots := 64 * (rqP (F x.tape x.qlen x.tk).1 (F x.tape x.qlen x.tk).2.1 - x.qst) + 4 * (cpR g.eN g.sz (F x.tape x.qlen x.tk).2.2.length - g.eN), locals := lo } (pCs D dA e0 mi kA vA fm [.ref (ad 22), .int (nI o)] (VW dA h ad x) sz) (va_Qi (fun (r9 : Int32) (u9 : VS × LI) => r9 = bI (F x.tape x.qlen x.tk).1 ∧ VS.pq dA e0 sa r x g (F x.tape x.qlen x.tk) u9.1 u9.2) (fun (u9 : VS × LI) t9 => bW D (va_A (VW dA h ad x) sz) (VW dA h ad u9.1) t9) (va_A (VW dA h ad x) sz)) (8 * (rqP (F x.tape x.qlen x.tk).1 (F x.tape x.qlen x.tk).2.1 - x.qst)) (64 * (rqP (F x.tape x.qlen x.tk).1 (F x.tape x.qlen x.tk).2.1 - x.qst) + 4 * (cpR g.eN g.sz (F x.tape x.qlen x.tk).2.2.length - g.eN)) (va_A (VW dA h ad x) sz)
def TrmC (o : Nat) (F : PF) (fr lo : Nat) : Prop := ∀ (l : Launch) (D : va_G) (dA : Nat → ClassId) (sz : Nat) (e0 mi : Nat) (kA vA : Nat → Nat) (fm : Nat) (h : Nat) (ad : Nat → Nat) (sa : Nat) (g : LI) (r : va_W) (x : VS) (hsa : sa = ad 23) (hw : VS.pw dA e0 sa r x g), Met l ⟨"SeriesVault$Question", "readTerm", "(I)Z"⟩ [Cond.code ⟨"SeriesVault$Question", "readTerm", "(I)Z"⟩ prog_6_method_5_code 5 (some FieldType.boolean)] { frames := fr, cells := 8 * (rqP (F x.tape x.qlen x.tk).1 (F x.tape x.qlen x.tk).2.1 - x.qst), slots := 64 * (rqP (F x.tape x.qlen x.tk).1 (F x.tape x.qlen x.tk).2.1 - x.qst) + 4 * (cpR g.eN g.sz (F x.tape x.qlen x.tk).2.2.length - g.eN), locals := lo } (pCs D dA e0 mi kA vA fm [.ref (ad 22), .int (nI o)] (VW dA h ad x) sz) (va_Qi (fun (r9 : Int32) (u9 : VS × LI) => r9 = bI (F x.tape x.qlen x.tk).1 ∧ VS.pq dA e0 sa r x g (F x.tape x.qlen x.tk) u9.1 u9.2) (fun (u9 : VS × LI) t9 => bW D (va_A (VW dA h ad x) sz) (VW dA h ad u9.1) t9) (va_A (VW dA h ad x) sz)) (8 * (rqP (F x.tape x.qlen x.tk).1 (F x.tape x.qlen x.tk).2.1 - x.qst)) (64 * (rqP (F x.tape x.qlen x.tk).1 (F x.tape x.qlen x.tk).2.1 - x.qst) + 4 * (cpR g.eN g.sz (F x.tape x.qlen x.tk).2.2.length - g.eN)) (va_A (VW dA h ad x) sz)
def ExpC (o : Nat) (F : PF) (fr lo : Nat) : Prop := ∀ (l : Launch) (D : va_G) (dA : Nat → ClassId) (sz : Nat) (e0 mi : Nat) (kA vA : Nat → Nat) (fm : Nat) (h : Nat) (ad : Nat → Nat) (sa : Nat) (g : LI) (r : va_W) (x : VS) (hsa : sa = ad 23) (hw : VS.pw dA e0 sa r x g), Met l ⟨"SeriesVault$Question", "readExp", "(I)Z"⟩ [Cond.code ⟨"SeriesVault$Question", "readExp", "(I)Z"⟩ prog_6_method_4_code 5 (some FieldType.boolean)] { frames := fr, cells := 8 * (rqP (F x.tape x.qlen x.tk).1 (F x.tape x.qlen x.tk).2.1 - x.qst), slots := 64 * (rqP (F x.tape x.qlen x.tk).1 (F x.tape x.qlen x.tk).2.1 - x.qst) + 4 * (cpR g.eN g.sz (F x.tape x.qlen x.tk).2.2.length - g.eN), locals := lo } (pCs D dA e0 mi kA vA fm [.ref (ad 22), .int (nI o)] (VW dA h ad x) sz) (va_Qi (fun (r9 : Int32) (u9 : VS × LI) => r9 = bI (F x.tape x.qlen x.tk).1 ∧ VS.pq dA e0 sa r x g (F x.tape x.qlen x.tk) u9.1 u9.2) (fun (u9 : VS × LI) t9 => bW D (va_A (VW dA h ad x) sz) (VW dA h ad u9.1) t9) (va_A (VW dA h ad x) sz)) (8 * (rqP (F x.tape x.qlen x.tk).1 (F x.tape x.qlen x.tk).2.1 - x.qst)) (64 * (rqP (F x.tape x.qlen x.tk).1 (F x.tape x.qlen x.tk).2.1 - x.qst) + 4 * (cpR g.eN g.sz (F x.tape x.qlen x.tk).2.2.length - g.eN)) (va_A (VW dA h ad x) sz)
def OpnC (o : Nat) (F : PF) (fr lo : Nat) : Prop := ∀ (l : Launch) (D : va_G) (dA : Nat → ClassId) (sz : Nat) (e0 mi : Nat) (kA vA : Nat → Nat) (fm : Nat) (h : Nat) (ad : Nat → Nat) (sa : Nat) (g : LI) (r : va_W) (x : VS) (hsa : sa = ad 23) (hw : VS.pw dA e0 sa r x g) (hoo : isOo x.qk), Met l ⟨"SeriesVault$Question", "readOpened", "(I)Z"⟩ [Cond.code ⟨"SeriesVault$Question", "readOpened", "(I)Z"⟩ prog_6_method_8_code 5 (some FieldType.boolean)] { frames := fr, cells := 8 * (rqP (F x.tape x.qlen x.tk).1 (F x.tape x.qlen x.tk).2.1 - x.qst), slots := 64 * (rqP (F x.tape x.qlen x.tk).1 (F x.tape x.qlen x.tk).2.1 - x.qst) + 4 * (cpR g.eN g.sz (F x.tape x.qlen x.tk).2.2.length - g.eN), locals := lo } (pCs D dA e0 mi kA vA fm [.ref (ad 22), .int (nI o)] (VW dA h ad x) sz) (va_Qi (fun (r9 : Int32) (u9 : VS × LI) => r9 = bI (F x.tape x.qlen x.tk).1 ∧ VS.pq dA e0 sa r x g (F x.tape x.qlen x.tk) u9.1 u9.2) (fun (u9 : VS × LI) t9 => bW D (va_A (VW dA h ad x) sz) (VW dA h ad u9.1) t9) (va_A (VW dA h ad x) sz)) (8 * (rqP (F x.tape x.qlen x.tk).1 (F x.tape x.qlen x.tk).2.1 - x.qst)) (64 * (rqP (F x.tape x.qlen x.tk).1 (F x.tape x.qlen x.tk).2.1 - x.qst) + 4 * (cpR g.eN g.sz (F x.tape x.qlen x.tk).2.2.length - g.eN)) (va_A (VW dA h ad x) sz)
theorem d_Q_readTerm_12 : decode prog_6_method_5_code 12 = .ok (.iload_n 3, 1) := by decide +kernel
theorem d_Q_readTerm_13 : decode prog_6_method_5_code 13 = .ok (.aload_n 0, 1) := by decide +kernel
theorem d_Q_readTerm_14 : decode prog_6_method_5_code 14 = .ok (.getfield 22, 3) := by decide +kernel
theorem d_Q_readTerm_17 : decode prog_6_method_5_code 17 = .ok (.if_icmp .ge 57, 3) := by decide +kernel
theorem d_Q_readTerm_20 : decode prog_6_method_5_code 20 = .ok (.aload_n 0, 1) := by decide +kernel
theorem d_Q_readTerm_21 : decode prog_6_method_5_code 21 = .ok (.getfield 45, 3) := by decide +kernel
theorem d_Q_readTerm_24 : decode prog_6_method_5_code 24 = .ok (.invokestatic 70, 3) := by decide +kernel
theorem d_Q_readTerm_27 : decode prog_6_method_5_code 27 = .ok (.ifCond .eq 47, 3) := by decide +kernel
theorem d_Q_readTerm_30 : decode prog_6_method_5_code 30 = .ok (.new 58, 3) := by decide +kernel
theorem dfE : ∀ j, j < 8 → defaultValue (tyE j) = vp_V [.int 0, .int 0, .long 0, .null, .int 0, .null, .null, .null] j := by decide +kernel
theorem d_Q_readTerm_33 : decode prog_6_method_5_code 33 = .ok (.dup, 1) := by decide +kernel
theorem d_Q_readTerm_34 : decode prog_6_method_5_code 34 = .ok (.aload_n 0, 1) := by decide +kernel
theorem d_Q_readTerm_35 : decode prog_6_method_5_code 35 = .ok (.getfield 45, 3) := by decide +kernel
theorem d_Q_readTerm_38 : decode prog_6_method_5_code 38 = .ok (.aload_n 0, 1) := by decide +kernel
theorem d_Q_readTerm_39 : decode prog_6_method_5_code 39 = .ok (.getfield 48, 3) := by decide +kernel
theorem d_Q_readTerm_42 : decode prog_6_method_5_code 42 = .ok (.lconst 0, 1) := by decide +kernel
theorem d_Q_readTerm_43 : decode prog_6_method_5_code 43 = .ok (.invokespecial 60, 3) := by decide +kernel
theorem d_Q_readTerm_46 : decode prog_6_method_5_code 46 = .ok (.astore 4, 2) := by decide +kernel
theorem d_Q_readTerm_48 : decode prog_6_method_5_code 48 = .ok (.aload_n 0, 1) := by decide +kernel
theorem d_Q_readTerm_49 : decode prog_6_method_5_code 49 = .ok (.invokevirtual 38, 3) := by decide +kernel
theorem d_Q_readTerm_52 : decode prog_6_method_5_code 52 = .ok (.aload_n 0, 1) := by decide +kernel
theorem d_Q_readTerm_53 : decode prog_6_method_5_code 53 = .ok (.iload_n 1, 1) := by decide +kernel
theorem d_Q_readTerm_54 : decode prog_6_method_5_code 54 = .ok (.invokevirtual 67, 3) := by decide +kernel
theorem d_Q_readTerm_57 : decode prog_6_method_5_code 57 = .ok (.istore_n 2, 1) := by decide +kernel
theorem d_Q_readTerm_58 : decode prog_6_method_5_code 58 = .ok (.aload_n 0, 1) := by decide +kernel
theorem d_Q_readTerm_59 : decode prog_6_method_5_code 59 = .ok (.getfield 18, 3) := by decide +kernel
theorem d_Q_readTerm_62 : decode prog_6_method_5_code 62 = .ok (.aload 4, 2) := by decide +kernel
theorem d_Q_readTerm_64 : decode prog_6_method_5_code 64 = .ok (.invokevirtual 63, 3) := by decide +kernel
theorem d_Q_readTerm_67 : decode prog_6_method_5_code 67 = .ok (.pop, 1) := by decide +kernel
theorem d_Q_readTerm_68 : decode prog_6_method_5_code 68 = .ok (.iinc 3 1, 3) := by decide +kernel
theorem d_Q_readTerm_71 : decode prog_6_method_5_code 71 = .ok (.goto (-63), 3) := by decide +kernel
theorem w1645 : Cond.methodLink "SeriesVault$Question" 70 ⟨"SeriesVault$Question", "isOfTerm", "(I)Z"⟩ ∈ aW := aw_of (tb_7 (List.mem_of_getElem? (i := 127) rfl)) rfl
theorem w1646 : Cond.code ⟨"SeriesVault$Question", "isOfTerm", "(I)Z"⟩ prog_6_method_6_code 1 (some FieldType.boolean) ∈ aW := aw_of (tb_7 (List.mem_of_getElem? (i := 129) rfl)) rfl
theorem w1647 : Cond.static ⟨"SeriesVault$Question", "isOfTerm", "(I)Z"⟩ ∈ aW := aw_of (tb_7 (List.mem_of_getElem? (i := 128) rfl)) rfl
theorem w1648 : Cond.classLink "SeriesVault$Question" 58 "SeriesVault$Step" ∈ aW := aw_of (tb_7 (List.mem_of_getElem? (i := 1) rfl)) rfl
theorem w859 : Cond.instantiable "SeriesVault$Step" 8 ∈ aW := aw_of (tb_7 (List.mem_of_getElem? (i := 2) rfl)) rfl
theorem w1650 : Cond.methodLink "SeriesVault$Question" 60 ⟨"SeriesVault$Step", "<init>", "(IIJ)V"⟩ ∈ aW := aw_of (tb_7 (List.mem_of_getElem? (i := 3) rfl)) rfl
theorem w1651 : Cond.code ⟨"SeriesVault$Step", "<init>", "(IIJ)V"⟩ prog_10_method_1_code 6 none ∈ aW := aw_of (tb_7 (List.mem_of_getElem? (i := 5) rfl)) rfl
theorem w1652 : Cond.instanceMethod ⟨"SeriesVault$Step", "<init>", "(IIJ)V"⟩ ∈ aW := aw_of (tb_7 (List.mem_of_getElem? (i := 4) rfl)) rfl
theorem w1653 : Cond.methodLink "SeriesVault$Question" 63 ⟨"java/util/ArrayList", "add", "(Ljava/lang/Object;)Z"⟩ ∈ aW := aw_of (tb_7 (List.mem_of_getElem? (i := 40) rfl)) rfl
set_option maxHeartbeats 4000000 in
set_option maxRecDepth 100000 in
theorem v_QreadTerm (l : Launch) (D : va_G) (dA : Nat → ClassId) (sz : Nat) (e0 mi : Nat) (kA vA : Nat → Nat) (fm : Nat) (h : Nat) (ad : Nat → Nat) (sa : Nat) (g : LI) (r : va_W) (x : VS) (o : Nat) (F : PF) (fr : Nat) (lo : Nat) (hsa : sa = ad 23) (hw : VS.pw dA e0 sa r x g) (hF : FacC o F fr lo) (hgF : gdF F) (ho : o ≤ 8) : Met l ⟨"SeriesVault$Question", "readTerm", "(I)Z"⟩ [Cond.code ⟨"SeriesVault$Question", "readTerm", "(I)Z"⟩ prog_6_method_5_code 5 (some FieldType.boolean)] { frames := fr + 7, cells := 8 * (rqP (pTm F x.tape x.qlen x.tk).1 (pTm F x.tape x.qlen x.tk).2.1 - x.qst), slots := 64 * (rqP (pTm F x.tape x.qlen x.tk).1 (pTm F x.tape x.qlen x.tk).2.1 - x.qst) + 4 * (cpR g.eN g.sz (pTm F x.tape x.qlen x.tk).2.2.length - g.eN), locals := lo + 171 } (pCs D dA e0 mi kA vA fm [.ref (ad 22), .int (nI o)] (VW dA h ad x) sz) (va_Qi (fun (r9 : Int32) (u9 : VS × LI) => r9 = bI (pTm F x.tape x.qlen x.tk).1 ∧ VS.pq dA e0 sa r x g (pTm F x.tape x.qlen x.tk) u9.1 u9.2) (fun (u9 : VS × LI) t9 => bW D (va_A (VW dA h ad x) sz) (VW dA h ad u9.1) t9) (va_A (VW dA h ad x) sz)) (8 * (rqP (pTm F x.tape x.qlen x.tk).1 (pTm F x.tape x.qlen x.tk).2.1 - x.qst)) (64 * (rqP (pTm F x.tape x.qlen x.tk).1 (pTm F x.tape x.qlen x.tk).2.1 - x.qst) + 4 * (cpR g.eN g.sz (pTm F x.tape x.qlen x.tk).2.2.length - g.eN)) (va_A (VW dA h ad x) sz) := by
  refine mkS (y := ⟨"SeriesVault$Question", "readTerm", "(I)Z"⟩) (cc := prog_6_method_5_code) (maxL := 5) (av := [.ref (ad 22), .int (nI o)]) (ws := VW dA h ad x) (sz := sz) (Qc := fun A => va_Qi (fun (r9 : Int32) (u9 : VS × LI) => r9 = bI (pTm F x.tape x.qlen x.tk).1 ∧ VS.pq dA e0 sa r x g (pTm F x.tape x.qlen x.tk) u9.1 u9.2) (fun (u9 : VS × LI) t9 => bW D A (VW dA h ad u9.1) t9) A) (by decide) (Nat.le_of_ble_eq_true rfl) ?_
  intro A p e s m below meth c ls hsz hZ hT hM hQ hB
  obtain ⟨hx, hb, hr, hml, hown, hin, hlk, hE, hK, hP, hD, hS, hA, hN, hl⟩ := hB
  have hown : s.vm.findClass "SeriesVault$Question" = some m.cls := hown
  have hl : lv_has ls 5 [(0, .ref (ad 22)), (1, .int (nI o))] := hl
  obtain ⟨H, hH⟩ : ∃ z, z = s.heap := ⟨_, rfl⟩
  have hP : va_P D vwCl (VW dA h ad x) H := by rw [hH]; exact hP
  have hS : va_S A s.heap H [] := by rw [hH]; exact hS
  rw [← hH]
  have kb : x.qst ≤ x.qen ∧ x.qen ≤ x.qlen ∧ x.qlen ≤ x.tpN ∧ x.tpN ≤ 131072 ∧ x.qlen ≤ 16384 := ⟨hw.1.2.2.2.2.2.1, hw.1.2.2.2.2.2.2.1, hw.1.2.1, hw.1.2.2.1, hw.1.2.2.2.1⟩
  have kq : x.qtp = x.tpA := hw.1.1
  have tx0 : tkok x.qlen x.tk := hw.1.2.2.2.2.2
  have gx0 := hgF x.tape x.qlen x.tk tx0
  have ox0 := opL_P (f := x.tape) hgF isTq_o (w := x.qlen) gx0
  have oz1 : rqP (F x.tape x.qlen x.tk).1 (F x.tape x.qlen x.tk).2.1 ≤ rqP (pTm F x.tape x.qlen x.tk).1 (pTm F x.tape x.qlen x.tk).2.1 := ox0.2.1
  have oz2 : cpR g.eN g.sz (F x.tape x.qlen x.tk).2.2.length ≤ cpR g.eN g.sz (pTm F x.tape x.qlen x.tk).2.2.length := cpR_m _ _ ox0.2.2
  refine lv_aload_n hx hb d_Q_readTerm_0 rfl (lv_at hl 0 rfl) ?_
  refine lv_iload_n hx hb d_Q_readTerm_1 rfl (lv_at hl 1 rfl) ?_
  refine jkI (wr := []) (rnVs (As := [.int (nI o)]) (rest := []) hx hb hml hown hE hK hZ hT hM hQ hS (hN _ _ hS) hP hD (hF l D dA H.size e0 mi kA vA fm h ad sa g r x hsa hw) (q0 := 36) rfl rfl w670 w669 w671 w672 w665 rfl rfl ⟨⟨by decide, by decide⟩, rfl⟩ ⟨(by first | exact Nat.le_of_ble_eq_true rfl | (dsimp only; omega)), (by first | exact Nat.le_of_ble_eq_true rfl | (dsimp only; omega))⟩ rfl hl.1 rfl (by first | exact Nat.le_of_ble_eq_true rfl | (dsimp only; omega)) d_Q_readTerm_2 ⟨(show 0 + (8 * (rqP (F x.tape x.qlen x.tk).1 (F x.tape x.qlen x.tk).2.1 - x.qst)) ≤ 8 * (rqP (pTm F x.tape x.qlen x.tk).1 (pTm F x.tape x.qlen x.tk).2.1 - x.qst) by omega), (show 0 + (64 * (rqP (F x.tape x.qlen x.tk).1 (F x.tape x.qlen x.tk).2.1 - x.qst) + 4 * (cpR g.eN g.sz (F x.tape x.qlen x.tk).2.2.length - g.eN)) ≤ 64 * (rqP (pTm F x.tape x.qlen x.tk).1 (pTm F x.tape x.qlen x.tk).2.1 - x.qst) + 4 * (cpR g.eN g.sz (pTm F x.tape x.qlen x.tk).2.2.length - g.eN) by omega)⟩) hP hD hS hA (fun r1 u2 H locs hp9 hP hD hS => ?_)
  obtain ⟨y0, gy1⟩ := u2
  have hP : va_P D vwCl (VW dA h ad y0) H := hP
  have hD : va_D A (VW dA h ad y0) := hD
  obtain ⟨hp9, f_p_3⟩ := hp9
  replace hp9 : bI (F x.tape x.qlen x.tk).1 = r1 := Eq.symm hp9
  subst hp9
  refine lv_istore_n hx hb d_Q_readTerm_5 rfl hl (by decide) rfl (fun ls hl => ?_)
  have hl : lv_has ls 5 [(2, .int (bI (F x.tape x.qlen x.tk).1)), (0, .ref (ad 22)), (1, .int (nI o))] := hl
  refine lv_iconst (v := 0) hx hb d_Q_readTerm_6 (by decide) ?_
  refine lv_istore_n hx hb d_Q_readTerm_7 rfl hl (by decide) rfl (fun ls hl => ?_)
  have hl : lv_has ls 5 [(3, .int 0), (2, .int (bI (F x.tape x.qlen x.tk).1)), (0, .ref (ad 22)), (1, .int (nI o))] := hl
  have L8 : ∀ (k9 : Nat) (i : Nat) (rp : PR) (y : VS) (gq : LI) (i1 : i ≤ x.qlen) (hp : VS.pq dA e0 sa r x g rp y gq) (hg : prG x.qlen x.tk rp) (er : opL F isTq x.tape x.qlen (x.qlen - i) rp = pTm F x.tape x.qlen x.tk) (hk9 : x.qlen - i = k9), ∀ (H : Heap) (locs : List Loc) (ls : Array Slot) (hP : va_P D vwCl (VW dA h ad y) H) (hD : va_D A (VW dA h ad y)) (hS : va_S A s.heap H locs) (hl : lv_has ls 5 [(2, .int (bI rp.1)), (3, .int (nI i)), (1, .int (nI o)), (0, .ref (ad 22))]), W p l e ({ frames := fr + 7, cells := 8 * (rqP (pTm F x.tape x.qlen x.tk).1 (pTm F x.tape x.qlen x.tk).2.1 - x.qst), slots := 64 * (rqP (pTm F x.tape x.qlen x.tk).1 (pTm F x.tape x.qlen x.tk).2.1 - x.qst) + 4 * (cpR g.eN g.sz (pTm F x.tape x.qlen x.tk).2.2.length - g.eN), locals := lo + 171 } : Room) s m ([.ref (ad 22), .int (nI o)] : List Value).toArray below meth c H locs (8 * (rqP rp.1 rp.2.1 - x.qst)) (64 * (rqP rp.1 rp.2.1 - x.qst) + 4 * (cpR g.eN g.sz rp.2.2.length - g.eN)) (MQ below (va_Qi (fun (r9 : Int32) (u9 : VS × LI) => r9 = bI (pTm F x.tape x.qlen x.tk).1 ∧ VS.pq dA e0 sa r x g (pTm F x.tape x.qlen x.tk) u9.1 u9.2) (fun (u9 : VS × LI) t9 => bW D A (VW dA h ad u9.1) t9) A) ([.ref (ad 22), .int (nI o)] : List Value).toArray s (8 * (rqP (pTm F x.tape x.qlen x.tk).1 (pTm F x.tape x.qlen x.tk).2.1 - x.qst)) (64 * (rqP (pTm F x.tape x.qlen x.tk).1 (pTm F x.tape x.qlen x.tk).2.1 - x.qst) + 4 * (cpR g.eN g.sz (pTm F x.tape x.qlen x.tk).2.2.length - g.eN)) A) (F0 m 8 ls []) := by
    intro k9
    induction k9 using Nat.strongRecOn with
    | ind k9 ih8 =>
      intro i rp y gq i1 hp hg er hk9 H locs ls hP hD hS hl
      have kly := (qr_f hp.1).2.1
      have kby : y.qlen ≤ 16384 := hp.2.2.1.1.2.2.2.1
      have om := opL_P (f := x.tape) hgF isTq_o (w := x.qlen - i) hg
      rw [er] at om
      have om1 := om.2.1
      have om2 : cpR g.eN g.sz rp.2.2.length ≤ cpR g.eN g.sz (pTm F x.tape x.qlen x.tk).2.2.length := cpR_m _ _ om.2.2
      refine lv_iload_n hx hb d_Q_readTerm_8 rfl (lv_at hl 0 rfl) ?_
      refine lv_if_eq hx hb d_Q_readTerm_9 (tgt := 74) rfl (fun g4 => ?_) (fun g4 => ?_)
      · have g4 := bI_0 g4
        refine lv_iload_n hx hb d_Q_readTerm_74 rfl (lv_at hl 0 rfl) ?_
        exact rfZ hx hb hr (bI_nar rp.1) hlk hS (⟨y, gq⟩) (by have E : rp = pTm F x.tape x.qlen x.tk := (opL_e (Or.inr (Or.inl g4))).symm.trans er; exact ⟨by rw [← E], by rw [← E]; exact hp⟩) hP hD (show 8 * (rqP rp.1 rp.2.1 - x.qst) ≤ 8 * (rqP (pTm F x.tape x.qlen x.tk).1 (pTm F x.tape x.qlen x.tk).2.1 - x.qst) by omega) (show 64 * (rqP rp.1 rp.2.1 - x.qst) + 4 * (cpR g.eN g.sz rp.2.2.length - g.eN) ≤ 64 * (rqP (pTm F x.tape x.qlen x.tk).1 (pTm F x.tape x.qlen x.tk).2.1 - x.qst) + 4 * (cpR g.eN g.sz (pTm F x.tape x.qlen x.tk).2.2.length - g.eN) by omega) d_Q_readTerm_75
      · have g4 := bI_n0 g4
        refine lv_iload_n hx hb d_Q_readTerm_12 rfl (lv_at hl 1 rfl) ?_
        refine lv_aload_n hx hb d_Q_readTerm_13 rfl (lv_at hl 3 rfl) ?_
        have kb_y : y.qst ≤ y.qen ∧ y.qen ≤ y.qlen ∧ y.qlen ≤ y.tpN ∧ y.tpN ≤ 131072 ∧ y.qlen ≤ 16384 := ⟨hp.2.2.1.1.2.2.2.2.2.1, hp.2.2.1.1.2.2.2.2.2.2.1, hp.2.2.1.1.2.1, hp.2.2.1.1.2.2.1, hp.2.2.1.1.2.2.2.1⟩
        have kq_y : y.qtp = y.tpA := hp.2.2.1.1.1
        have kf_y : y.tape = x.tape ∧ y.qlen = x.qlen := ⟨(qr_f hp.1).2.2.1, (qr_f hp.1).2.1⟩
        refine gF (v := .int (nI y.qlen)) hx hb hown hE hK hP 36 rfl rfl layQ 1 (by decide) w661 rfl d_Q_readTerm_14 ?_
        refine lv_icmp_ge hx hb d_Q_readTerm_17 (tgt := 74) rfl (fun g5 => ?_) (fun g5 => ?_)
        · have g5 := (nI_leI (a := y.qlen) (b := i) (by omega) (by omega)).mp g5
          refine lv_iload_n hx hb d_Q_readTerm_74 rfl (lv_at hl 0 rfl) ?_
          exact rfZ hx hb hr (bI_nar rp.1) hlk hS (⟨y, gq⟩) (by have E : rp = pTm F x.tape x.qlen x.tk := (opL_e (Or.inl (by have e9 := (qr_f hp.1).2.1; omega))).symm.trans er; exact ⟨by rw [← E], by rw [← E]; exact hp⟩) hP hD (show 8 * (rqP rp.1 rp.2.1 - x.qst) ≤ 8 * (rqP (pTm F x.tape x.qlen x.tk).1 (pTm F x.tape x.qlen x.tk).2.1 - x.qst) by omega) (show 64 * (rqP rp.1 rp.2.1 - x.qst) + 4 * (cpR g.eN g.sz rp.2.2.length - g.eN) ≤ 64 * (rqP (pTm F x.tape x.qlen x.tk).1 (pTm F x.tape x.qlen x.tk).2.1 - x.qst) + 4 * (cpR g.eN g.sz (pTm F x.tape x.qlen x.tk).2.2.length - g.eN) by omega) d_Q_readTerm_75
        · have g5 := mt (nI_leI (a := y.qlen) (b := i) (by omega) (by omega)).mpr g5
          refine lv_aload_n hx hb d_Q_readTerm_20 rfl (lv_at hl 3 rfl) ?_
          refine gF (v := .int y.qk) hx hb hown hE hK hP 36 rfl rfl layQ 2 (by decide) w663 rfl d_Q_readTerm_21 ?_
          have hPc := hP.sub (ws' := []) [] rfl
          have hDc := hD.sub (ws' := []) [] (by decide) rfl
          refine jpI (rnS (As := [.int y.qk]) (rest := []) hx hb hml hown hE hK (hN _ _ hS) hPc hDc (v_QisOfTerm l D dA H.size y.qk) w1646 w1645 w1647 w665 rfl rfl ⟨⟨by decide, by decide⟩, rfl⟩ ⟨(by first | exact Nat.le_of_ble_eq_true rfl | (dsimp only; omega)), (by first | exact Nat.le_of_ble_eq_true rfl | (dsimp only; omega))⟩ rfl hl.1 rfl (by first | exact Nat.le_of_ble_eq_true rfl | (dsimp only; omega)) d_Q_readTerm_24 ⟨(show 8 * (rqP rp.1 rp.2.1 - x.qst) + 0 ≤ 8 * (rqP (pTm F x.tape x.qlen x.tk).1 (pTm F x.tape x.qlen x.tk).2.1 - x.qst) by omega), (show 64 * (rqP rp.1 rp.2.1 - x.qst) + 4 * (cpR g.eN g.sz rp.2.2.length - g.eN) + 0 ≤ 64 * (rqP (pTm F x.tape x.qlen x.tk).1 (pTm F x.tape x.qlen x.tk).2.1 - x.qst) + 4 * (cpR g.eN g.sz (pTm F x.tape x.qlen x.tk).2.2.length - g.eN) by omega)⟩) hP hD hS hA (fun r6 u9 H locs hp9 hP hD hS => ?_)
          have hP : va_P D vwCl (VW dA h ad y) H := hP
          have hD : va_D A (VW dA h ad y) := hD
          replace hp9 : bI (decide (y.qk = 42) || (decide (y.qk = 47) || decide (y.qk = 37))) = r6 := Eq.symm hp9
          subst hp9
          refine lv_if_eq hx hb d_Q_readTerm_27 (tgt := 74) rfl (fun g8 => ?_) (fun g8 => ?_)
          · have g8 := bI_0 g8
            refine lv_iload_n hx hb d_Q_readTerm_74 rfl (lv_at hl 0 rfl) ?_
            exact rfZ hx hb hr (bI_nar rp.1) hlk hS (⟨y, gq⟩) (by have E : rp = pTm F x.tape x.qlen x.tk := (opL_e (Or.inr (Or.inr (by rw [← hp.2.1]; exact (show isTq y.qk = false from g8))))).symm.trans er; exact ⟨by rw [← E], by rw [← E]; exact hp⟩) hP hD (show 8 * (rqP rp.1 rp.2.1 - x.qst) + 0 ≤ 8 * (rqP (pTm F x.tape x.qlen x.tk).1 (pTm F x.tape x.qlen x.tk).2.1 - x.qst) by omega) (show 64 * (rqP rp.1 rp.2.1 - x.qst) + 4 * (cpR g.eN g.sz rp.2.2.length - g.eN) + 0 ≤ 64 * (rqP (pTm F x.tape x.qlen x.tk).1 (pTm F x.tape x.qlen x.tk).2.1 - x.qst) + 4 * (cpR g.eN g.sz (pTm F x.tape x.qlen x.tk).2.2.length - g.eN) by omega) d_Q_readTerm_75
          · have g8 := bI_n0 g8
            have hPt : isTq rp.2.1.1 = true := by rw [← hp.2.1]; exact (show isTq y.qk = true from g8)
            obtain ⟨o1, o2, o3, o4⟩ := opS_P (f := x.tape) hgF isTq_o hg g4 hPt
            have er2 : opL F isTq x.tape x.qlen (x.qlen - i - 1) (opS F x.tape x.qlen rp) = pTm F x.tape x.qlen x.tk := by rw [← er, opL_s (w := x.qlen - i) (by omega) g4 hPt]
            have oL := opL_P (f := x.tape) hgF isTq_o (w := x.qlen - i - 1) o1
            rw [er2] at oL
            obtain ⟨-, oL1, oL2⟩ := oL
            have ey : y.qst = rp.2.1.2.1 := congrArg (fun q : TKQ => q.2.1) hp.2.1
            have rq : rqP rp.1 rp.2.1 = y.qst := by rw [g4]; exact ey.symm
            have lS : (opS F x.tape x.qlen rp).2.2.length = rp.2.2.length + ((F x.tape x.qlen (nxT x.tape x.qlen rp.2.1)).2.2.length + 1) := by show (rp.2.2 ++ ((F x.tape x.qlen (nxT x.tape x.qlen rp.2.1)).2.2 ++ [spO rp.2.1.1 rp.2.1.2.1 0])).length = _; rw [List.length_append, List.length_append]; rfl
            have rS : rqP (opS F x.tape x.qlen rp).1 (opS F x.tape x.qlen rp).2.1 = rqP (F x.tape x.qlen (nxT x.tape x.qlen rp.2.1)).1 (F x.tape x.qlen (nxT x.tape x.qlen rp.2.1)).2.1 := rfl
            have a0 := cpR_le g.eN g.sz rp.2.2.length
            have a1 : gq.eN = cpR g.eN g.sz rp.2.2.length := hp.2.2.2.2.1
            have a1s : gq.sz = g.sz + rp.2.2.length := hp.2.2.2.1
            have a3 : cpR g.eN g.sz (rp.2.2.length + (F x.tape x.qlen (nxT x.tape x.qlen rp.2.1)).2.2.length) ≤ cpR g.eN g.sz (opS F x.tape x.qlen rp).2.2.length := cpR_m _ _ (by omega)
            have a4 : cpR g.eN g.sz (opS F x.tape x.qlen rp).2.2.length ≤ cpR g.eN g.sz (pTm F x.tape x.qlen x.tk).2.2.length := cpR_m _ _ oL2
            have a5 : cpR g.eN g.sz rp.2.2.length ≤ cpR g.eN g.sz (rp.2.2.length + (F x.tape x.qlen (nxT x.tape x.qlen rp.2.1)).2.2.length) := cpR_m _ _ (by omega)
            have xy : x.qst ≤ y.qst := by have e9 : x.qst + rp.2.2.length ≤ rp.2.1.2.1 := hg.2.2; omega
            have k264 : ¬ y.qk = 264 := by rw [show y.qk = rp.2.1.1 from congrArg (fun q : TKQ => q.1) hp.2.1]; exact (isTq_o _ hPt).2
            refine nOf hx hb hown hE hK hP hD hS hA (ci := 13) rfl layE tyE tokE w1648 w859 w1496 (fs := [.int 0, .int 0, .long 0, .null, .int 0, .null, .null, .null]) dfE (show (8 * (rqP rp.1 rp.2.1 - x.qst) + 0) + 1 ≤ 8 * (rqP (pTm F x.tape x.qlen x.tk).1 (pTm F x.tape x.qlen x.tk).2.1 - x.qst) by omega) (show (64 * (rqP rp.1 rp.2.1 - x.qst) + 4 * (cpR g.eN g.sz rp.2.2.length - g.eN) + 0) + 8 ≤ 64 * (rqP (pTm F x.tape x.qlen x.tk).1 (pTm F x.tape x.qlen x.tk).2.1 - x.qst) + 4 * (cpR g.eN g.sz (pTm F x.tape x.qlen x.tk).2.2.length - g.eN) by omega) d_Q_readTerm_30 (fun sp H hP hD hS => ?_)
            have hP : va_P D vwCl ([(sp, .inr (13, [.int 0, .int 0, .long 0, .null, .int 0, .null, .null, .null]))] ++ (VW dA h ad y)) H := hP
            have hD : va_D A ([(sp, .inr (13, [.int 0, .int 0, .long 0, .null, .int 0, .null, .null, .null]))] ++ (VW dA h ad y)) := hD
            refine lv_dup hx hb d_Q_readTerm_33 rfl ?_
            refine lv_aload_n hx hb d_Q_readTerm_34 rfl (lv_at hl 3 rfl) ?_
            refine gF (v := .int y.qk) hx hb hown hE hK hP 37 rfl rfl layQ 2 (by decide) w663 rfl d_Q_readTerm_35 ?_
            refine lv_aload_n hx hb d_Q_readTerm_38 rfl (lv_at hl 3 rfl) ?_
            refine gF (v := .int (nI y.qst)) hx hb hown hE hK hP 37 rfl rfl layQ 3 (by decide) w662 rfl d_Q_readTerm_39 ?_
            refine lv_lconst (v := 0) hx hb d_Q_readTerm_42 (by decide) ?_
            refine jkV (wr := []) (rnIy (As := [.int y.qk, .int (nI y.qst), .long 0]) (rest := [.ref sp]) hx hb hml hown hE hK hZ hT hM hS (hN _ _ hS) hP hD (v_Einit_o l D dA H.size e0 mi (VW dA h ad y) sp y.qk y.qst 0 k264) w1651 w1650 w1652 w1496 rfl rfl rfl ⟨⟨by decide, by decide⟩, rfl⟩ ⟨(by first | exact Nat.le_of_ble_eq_true rfl | (dsimp only; omega)), (by first | exact Nat.le_of_ble_eq_true rfl | (dsimp only; omega))⟩ rfl hl.1 rfl (by first | exact Nat.le_of_ble_eq_true rfl | (dsimp only; omega)) d_Q_readTerm_43 ⟨(show 8 * (rqP rp.1 rp.2.1 - x.qst) + 0 + 1 + 4 ≤ 8 * (rqP (pTm F x.tape x.qlen x.tk).1 (pTm F x.tape x.qlen x.tk).2.1 - x.qst) by omega), (show 64 * (rqP rp.1 rp.2.1 - x.qst) + 4 * (cpR g.eN g.sz rp.2.2.length - g.eN) + 0 + 8 + 6 ≤ 64 * (rqP (pTm F x.tape x.qlen x.tk).1 (pTm F x.tape x.qlen x.tk).2.1 - x.qst) + 4 * (cpR g.eN g.sz (pTm F x.tape x.qlen x.tk).2.2.length - g.eN) by omega)⟩) hP hD hS hA (fun u10 H locs hp9 hP hD hS => ?_)
            obtain ⟨na, ln, lt, mk⟩ := u10
            have hP : va_P D vwCl ([(na, .inl (dA 6, 0, .inr (.inr (.inr (.inr (fun _ => none))))))] ++ ([(ln, .inr (6, [.ref e0, .int 0, .int 0]))] ++ ([(lt, .inr (6, [.ref e0, .int 0, .int 0]))] ++ ([(mk, .inl (dA 1, 0, .inl (fun _ => 0)))] ++ ([(sp, .inr (13, [.int y.qk, .int (nI y.qst), .long 0, .ref na, .int 0, .ref ln, .ref lt, .ref mk]))] ++ (VW dA h ad y)))))) H := hP
            have hD : va_D A ([(na, .inl (dA 6, 0, .inr (.inr (.inr (.inr (fun _ => none))))))] ++ ([(ln, .inr (6, [.ref e0, .int 0, .int 0]))] ++ ([(lt, .inr (6, [.ref e0, .int 0, .int 0]))] ++ ([(mk, .inl (dA 1, 0, .inl (fun _ => 0)))] ++ ([(sp, .inr (13, [.int y.qk, .int (nI y.qst), .long 0, .ref na, .int 0, .ref ln, .ref lt, .ref mk]))] ++ (VW dA h ad y)))))) := hD
            refine lv_astore hx hb d_Q_readTerm_46 hl (by decide) rfl (fun ls hl => ?_)
            have hl : lv_has ls 5 [(4, .ref sp), (2, .int (bI rp.1)), (3, .int (nI i)), (1, .int (nI o)), (0, .ref (ad 22))] := hl
            refine lv_aload_n hx hb d_Q_readTerm_48 rfl (lv_at hl 4 rfl) ?_
            have hP : va_P D vwCl (VW dA h ad (VS.s_pl y (y.pl ++ ([(na, .inl (dA 6, 0, .inr (.inr (.inr (.inr (fun _ => none))))))] ++ ([(ln, .inr (6, [.ref e0, .int 0, .int 0]))] ++ ([(lt, .inr (6, [.ref e0, .int 0, .int 0]))] ++ ([(mk, .inl (dA 1, 0, .inl (fun _ => 0)))] ++ ([(sp, .inr (13, [.int y.qk, .int (nI y.qst), .long 0, .ref na, .int 0, .ref ln, .ref lt, .ref mk]))])))))))) H := pmP (show List.Perm (α := Nat × va_E) ([(na, .inl (dA 6, 0, .inr (.inr (.inr (.inr (fun _ => none))))))] ++ ([(ln, .inr (6, [.ref e0, .int 0, .int 0]))] ++ ([(lt, .inr (6, [.ref e0, .int 0, .int 0]))] ++ ([(mk, .inl (dA 1, 0, .inl (fun _ => 0)))] ++ ([(sp, .inr (13, [.int y.qk, .int (nI y.qst), .long 0, .ref na, .int 0, .ref ln, .ref lt, .ref mk]))] ++ (VW dA h ad y)))))) (VW dA h ad (VS.s_pl y (y.pl ++ ([(na, .inl (dA 6, 0, .inr (.inr (.inr (.inr (fun _ => none))))))] ++ ([(ln, .inr (6, [.ref e0, .int 0, .int 0]))] ++ ([(lt, .inr (6, [.ref e0, .int 0, .int 0]))] ++ ([(mk, .inl (dA 1, 0, .inl (fun _ => 0)))] ++ ([(sp, .inr (13, [.int y.qk, .int (nI y.qst), .long 0, .ref na, .int 0, .ref ln, .ref lt, .ref mk]))])))))))) from plP5 (dA := dA) (h := h) (ad := ad) y ([(na, .inl (dA 6, 0, .inr (.inr (.inr (.inr (fun _ => none))))))]) ([(ln, .inr (6, [.ref e0, .int 0, .int 0]))]) ([(lt, .inr (6, [.ref e0, .int 0, .int 0]))]) ([(mk, .inl (dA 1, 0, .inl (fun _ => 0)))]) ([(sp, .inr (13, [.int y.qk, .int (nI y.qst), .long 0, .ref na, .int 0, .ref ln, .ref lt, .ref mk]))])) hP
            have hD : va_D A (VW dA h ad (VS.s_pl y (y.pl ++ ([(na, .inl (dA 6, 0, .inr (.inr (.inr (.inr (fun _ => none))))))] ++ ([(ln, .inr (6, [.ref e0, .int 0, .int 0]))] ++ ([(lt, .inr (6, [.ref e0, .int 0, .int 0]))] ++ ([(mk, .inl (dA 1, 0, .inl (fun _ => 0)))] ++ ([(sp, .inr (13, [.int y.qk, .int (nI y.qst), .long 0, .ref na, .int 0, .ref ln, .ref lt, .ref mk]))])))))))) := pmD (show List.Perm (α := Nat × va_E) ([(na, .inl (dA 6, 0, .inr (.inr (.inr (.inr (fun _ => none))))))] ++ ([(ln, .inr (6, [.ref e0, .int 0, .int 0]))] ++ ([(lt, .inr (6, [.ref e0, .int 0, .int 0]))] ++ ([(mk, .inl (dA 1, 0, .inl (fun _ => 0)))] ++ ([(sp, .inr (13, [.int y.qk, .int (nI y.qst), .long 0, .ref na, .int 0, .ref ln, .ref lt, .ref mk]))] ++ (VW dA h ad y)))))) (VW dA h ad (VS.s_pl y (y.pl ++ ([(na, .inl (dA 6, 0, .inr (.inr (.inr (.inr (fun _ => none))))))] ++ ([(ln, .inr (6, [.ref e0, .int 0, .int 0]))] ++ ([(lt, .inr (6, [.ref e0, .int 0, .int 0]))] ++ ([(mk, .inl (dA 1, 0, .inl (fun _ => 0)))] ++ ([(sp, .inr (13, [.int y.qk, .int (nI y.qst), .long 0, .ref na, .int 0, .ref ln, .ref lt, .ref mk]))])))))))) from plP5 (dA := dA) (h := h) (ad := ad) y ([(na, .inl (dA 6, 0, .inr (.inr (.inr (.inr (fun _ => none))))))]) ([(ln, .inr (6, [.ref e0, .int 0, .int 0]))]) ([(lt, .inr (6, [.ref e0, .int 0, .int 0]))]) ([(mk, .inl (dA 1, 0, .inl (fun _ => 0)))]) ([(sp, .inr (13, [.int y.qk, .int (nI y.qst), .long 0, .ref na, .int 0, .ref ln, .ref lt, .ref mk]))])) hD
            obtain ⟨pl11, e_pl11⟩ : ∃ z9, z9 = y.pl ++ ([(na, .inl (dA 6, 0, .inr (.inr (.inr (.inr (fun _ => none))))))] ++ ([(ln, .inr (6, [.ref e0, .int 0, .int 0]))] ++ ([(lt, .inr (6, [.ref e0, .int 0, .int 0]))] ++ ([(mk, .inl (dA 1, 0, .inl (fun _ => 0)))] ++ ([(sp, .inr (13, [.int y.qk, .int (nI y.qst), .long 0, .ref na, .int 0, .ref ln, .ref lt, .ref mk]))]))))) := ⟨_, rfl⟩
            rw [← e_pl11] at hP hD
            have s_pl11 : ∀ c, c ∈ y.pl → c ∈ pl11 := by rw [e_pl11]; exact fun _ hm => List.mem_append_left _ hm
            have t_pl11_0 : ((na, .inl (dA 6, 0, .inr (.inr (.inr (.inr (fun _ => none)))))) : Nat × va_E) ∈ pl11 := by rw [e_pl11]; exact List.mem_append_right _ (List.mem_of_getElem? (i := 0) rfl)
            have t_pl11_1 : ((ln, .inr (6, [.ref e0, .int 0, .int 0])) : Nat × va_E) ∈ pl11 := by rw [e_pl11]; exact List.mem_append_right _ (List.mem_of_getElem? (i := 1) rfl)
            have t_pl11_2 : ((lt, .inr (6, [.ref e0, .int 0, .int 0])) : Nat × va_E) ∈ pl11 := by rw [e_pl11]; exact List.mem_append_right _ (List.mem_of_getElem? (i := 2) rfl)
            have t_pl11_3 : ((mk, .inl (dA 1, 0, .inl (fun _ => 0))) : Nat × va_E) ∈ pl11 := by rw [e_pl11]; exact List.mem_append_right _ (List.mem_of_getElem? (i := 3) rfl)
            have t_pl11_4 : ((sp, .inr (13, [.int y.qk, .int (nI y.qst), .long 0, .ref na, .int 0, .ref ln, .ref lt, .ref mk])) : Nat × va_E) ∈ pl11 := by rw [e_pl11]; exact List.mem_append_right _ (List.mem_of_getElem? (i := 4) rfl)
            have hP : va_P D vwCl (VW dA h ad (VS.s_pl y pl11)) H := hP
            have hD : va_D A (VW dA h ad (VS.s_pl y pl11)) := hD
            obtain ⟨y1, e_y1⟩ : ∃ w9, w9 = VS.s_pl y pl11 := ⟨_, rfl⟩
            rw [← e_y1] at hP hD
            have hP : va_P D vwCl (VW dA h ad y1) H := hP
            have hD : va_D A (VW dA h ad y1) := hD
            have pk1 : y.pk y1 := by rw [e_y1]; exact ⟨rfl, s_pl11⟩
            have ep1 : y1.pl = pl11 := by rw [e_y1]
            obtain ⟨hk_y1, qq_y1, tk_y1⟩ := qok_pk hp.2.2.1.1 pk1
            have ms1 : (sp, .inr (13, [.int y.qk, .int (nI y.qst), .long 0, .ref na, .int 0, .ref ln, .ref lt, .ref mk])) ∈ y1.pl := by rw [ep1]; exact t_pl11_4
            have is1 : isSP dA y1.pl sp (spO y.qk y.qst 0) := by rw [ep1]; exact isSP_o t_pl11_4 t_pl11_0 t_pl11_1 t_pl11_2 t_pl11_3
            have kb_y1 : y1.qst ≤ y1.qen ∧ y1.qen ≤ y1.qlen ∧ y1.qlen ≤ y1.tpN ∧ y1.tpN ≤ 131072 ∧ y1.qlen ≤ 16384 := ⟨hk_y1.2.2.2.2.2.1, hk_y1.2.2.2.2.2.2.1, hk_y1.2.1, hk_y1.2.2.1, hk_y1.2.2.2.1⟩
            have kq_y1 : y1.qtp = y1.tpA := hk_y1.1
            refine jkV (wr := []) (rnV (As := []) (rest := []) hx hb hml hown hE hK (hN _ _ hS) hP hD (v_Qadvance l D dA H.size h ad y1 kq_y1 (show y1.qlen ≤ y1.tpN from by omega) (show y1.tpN ≤ 131072 from by omega) (show y1.qen ≤ y1.qlen from by omega)) (q0 := 36) rfl rfl w685 w684 w686 w687 w665 rfl rfl ⟨⟨by decide, by decide⟩, rfl⟩ ⟨(by first | exact Nat.le_of_ble_eq_true rfl | (dsimp only; omega)), (by first | exact Nat.le_of_ble_eq_true rfl | (dsimp only; omega))⟩ rfl hl.1 rfl (by first | exact Nat.le_of_ble_eq_true rfl | (dsimp only; omega)) d_Q_readTerm_49 ⟨(show 8 * (rqP rp.1 rp.2.1 - x.qst) + 0 + 1 + 4 + 0 ≤ 8 * (rqP (pTm F x.tape x.qlen x.tk).1 (pTm F x.tape x.qlen x.tk).2.1 - x.qst) by omega), (show 64 * (rqP rp.1 rp.2.1 - x.qst) + 4 * (cpR g.eN g.sz rp.2.2.length - g.eN) + 0 + 8 + 6 + 0 ≤ 64 * (rqP (pTm F x.tape x.qlen x.tk).1 (pTm F x.tape x.qlen x.tk).2.1 - x.qst) + 4 * (cpR g.eN g.sz (pTm F x.tape x.qlen x.tk).2.2.length - g.eN) by omega)⟩) hP hD hS hA (fun u13 H locs hp9 hP hD hS => ?_)
            obtain ⟨y2, h9u⟩ : ∃ z9, z9 = u13 := ⟨_, rfl⟩
            subst h9u
            have hP : va_P D vwCl (VW dA h ad y2) H := hP
            have hD : va_D A (VW dA h ad y2) := hD
            have f_e_14 := hp9
            refine lv_aload_n hx hb d_Q_readTerm_52 rfl (lv_at hl 4 rfl) ?_
            refine lv_iload_n hx hb d_Q_readTerm_53 rfl (lv_at hl 3 rfl) ?_
            obtain ⟨hk_y2, qq_y2, tk_y2⟩ := qok_adv hk_y1 f_e_14
            have q12 : y.qr y2 := qr_tr (qp_qr qq_y1) (qp_qr qq_y2)
            have kf1 : y1.tape = x.tape ∧ y1.qlen = x.qlen := ⟨((qr_f (qp_qr qq_y1)).2.2.1).trans kf_y.1, ((qr_f (qp_qr qq_y1)).2.1).trans kf_y.2⟩
            have kf2 : y2.tape = x.tape ∧ y2.qlen = x.qlen := ⟨((qr_f (qp_qr qq_y2)).2.2.1).trans kf1.1, ((qr_f (qp_qr qq_y2)).2.1).trans kf1.2⟩
            have tt2 : y2.tk = nxT x.tape x.qlen rp.2.1 := by rw [tk_y2, kf1.1, kf1.2, tk_y1, hp.2.1]
            have ey2 : y2.qst = (nxT x.tape x.qlen rp.2.1).2.1 := congrArg (fun q : TKQ => q.2.1) tt2
            have eR : F y2.tape y2.qlen y2.tk = F x.tape x.qlen (nxT x.tape x.qlen rp.2.1) := by rw [kf2.1, kf2.2, tt2]
            have rY : rqP (F y2.tape y2.qlen y2.tk).1 (F y2.tape y2.qlen y2.tk).2.1 = rqP (F x.tape x.qlen (nxT x.tape x.qlen rp.2.1)).1 (F x.tape x.qlen (nxT x.tape x.qlen rp.2.1)).2.1 := by rw [eR]
            have a2 : cpR gq.eN gq.sz (F y2.tape y2.qlen y2.tk).2.2.length = cpR g.eN g.sz (rp.2.2.length + (F x.tape x.qlen (nxT x.tape x.qlen rp.2.1)).2.2.length) := by rw [eR, a1, a1s, cpR_tr]
            have w2 : VS.pw dA e0 sa r y2 gq := ⟨hk_y2, (qp_ll qq_y2).trans ((qp_ll qq_y1).trans hp.2.2.1.2.1), stL_m q12.2 hp.2.2.1.2.2.1, by have e9 := hp.2.2.1.2.2.2; omega⟩
            refine jkI (wr := []) (rnVs (As := [.int (nI o)]) (rest := []) hx hb hml hown hE hK hZ hT hM hQ hS (hN _ _ hS) hP hD (hF l D dA H.size e0 mi kA vA fm h ad sa gq r y2 hsa w2) (q0 := 36) rfl rfl w670 w669 w671 w672 w665 rfl rfl ⟨⟨by decide, by decide⟩, rfl⟩ ⟨(by first | exact Nat.le_of_ble_eq_true rfl | (dsimp only; omega)), (by first | exact Nat.le_of_ble_eq_true rfl | (dsimp only; omega))⟩ rfl hl.1 rfl (by first | exact Nat.le_of_ble_eq_true rfl | (dsimp only; omega)) d_Q_readTerm_54 ⟨(show 8 * (rqP rp.1 rp.2.1 - x.qst) + 0 + 1 + 4 + 0 + (8 * (rqP (F y2.tape y2.qlen y2.tk).1 (F y2.tape y2.qlen y2.tk).2.1 - y2.qst)) ≤ 8 * (rqP (pTm F x.tape x.qlen x.tk).1 (pTm F x.tape x.qlen x.tk).2.1 - x.qst) by omega), (show 64 * (rqP rp.1 rp.2.1 - x.qst) + 4 * (cpR g.eN g.sz rp.2.2.length - g.eN) + 0 + 8 + 6 + 0 + (64 * (rqP (F y2.tape y2.qlen y2.tk).1 (F y2.tape y2.qlen y2.tk).2.1 - y2.qst) + 4 * (cpR gq.eN gq.sz (F y2.tape y2.qlen y2.tk).2.2.length - gq.eN)) ≤ 64 * (rqP (pTm F x.tape x.qlen x.tk).1 (pTm F x.tape x.qlen x.tk).2.1 - x.qst) + 4 * (cpR g.eN g.sz (pTm F x.tape x.qlen x.tk).2.2.length - g.eN) by omega)⟩) hP hD hS hA (fun r15 u16 H locs hp9 hP hD hS => ?_)
            obtain ⟨y3, gy2⟩ := u16
            have hP : va_P D vwCl (VW dA h ad y3) H := hP
            have hD : va_D A (VW dA h ad y3) := hD
            obtain ⟨hp9, f_p_17⟩ := hp9
            replace hp9 : bI (F y2.tape y2.qlen y2.tk).1 = r15 := Eq.symm hp9
            subst hp9
            refine tpi (y := bI (opS F x.tape x.qlen rp).1) (by rw [eR]; rfl) ?_
            refine lv_istore_n hx hb d_Q_readTerm_57 rfl hl (by decide) rfl (fun ls hl => ?_)
            have hl : lv_has ls 5 [(2, .int (bI (opS F x.tape x.qlen rp).1)), (4, .ref sp), (3, .int (nI i)), (1, .int (nI o)), (0, .ref (ad 22))] := hl
            refine lv_aload_n hx hb d_Q_readTerm_58 rfl (lv_at hl 4 rfl) ?_
            refine gF (v := .ref (ad 23)) hx hb hown hE hK hP 36 rfl rfl layQ 8 (by decide) w678 rfl d_Q_readTerm_59 ?_
            refine lv_aload hx hb d_Q_readTerm_62 (lv_at hl 1 rfl) ?_
            have hp2 := f_p_17
            rw [eR] at hp2
            have ms3 := hp2.1.2 _ (qq_y2.2 _ ms1)
            have is3 := isSP_m hp2.1.2 (isSP_m qq_y2.2 is1)
            have hl3 : y3.ll = LqW dA sa gy2 ++ r := hp2.2.2.1.2.1
            have b2 : gy2.eN = cpR gq.eN gq.sz (F x.tape x.qlen (nxT x.tape x.qlen rp.2.1)).2.2.length := hp2.2.2.2.2.1
            rw [a1, a1s, cpR_tr] at b2
            have b3 := gq_S gy2
            have b4 : gy2.sz = gq.sz + (F x.tape x.qlen (nxT x.tape x.qlen rp.2.1)).2.2.length := hp2.2.2.2.1
            have ey3 : y3.qst = (F x.tape x.qlen (nxT x.tape x.qlen rp.2.1)).2.1.2.1 := congrArg (fun q : TKQ => q.2.1) hp2.2.1
            have b5 := o4.2.2
            have b6 := hp.2.2.1.2.2.2
            have b7 : gy2.sz < y3.qst := by omega
            have b8 : gqN gy2 ≤ cpR g.eN g.sz (opS F x.tape x.qlen rp).2.2.length := by rw [lS, show rp.2.2.length + ((F x.tape x.qlen (nxT x.tape x.qlen rp.2.1)).2.2.length + 1) = rp.2.2.length + (F x.tape x.qlen (nxT x.tape x.qlen rp.2.1)).2.2.length + 1 by omega]; show gqN gy2 ≤ (if _ then _ else _); rw [← b2, show g.sz + (rp.2.2.length + (F x.tape x.qlen (nxT x.tape x.qlen rp.2.1)).2.2.length) = gy2.sz by omega]; exact Nat.le_refl _
            rw [← hsa]
            have hP := pmP (show List.Perm (α := Nat × va_E) (VW dA h ad y3) (LqW dA sa gy2 ++ (VW dA h ad (VS.s_ll y3 r))) from llP (dA := dA) (h := h) (ad := ad) (x := y3) (L := LqW dA sa gy2) (r := r) hl3) hP
            have hD := pmD (show List.Perm (α := Nat × va_E) (VW dA h ad y3) (LqW dA sa gy2 ++ (VW dA h ad (VS.s_ll y3 r))) from llP (dA := dA) (h := h) (ad := ad) (x := y3) (L := LqW dA sa gy2) (r := r) hl3) hD
            have hP : va_P D vwCl (LqW dA sa gy2 ++ (VW dA h ad (VS.s_ll y3 r))) H := hP
            have hD : va_D A (LqW dA sa gy2 ++ (VW dA h ad (VS.s_ll y3 r))) := hD
            refine jkI (wr := []) (rnVy (As := [.ref sp]) (rest := []) hx hb hml hown hE hK hZ hT hM hS (hN _ _ hS) hP hD (v_LaddQ_E l D dA H.size e0 mi (VW dA h ad (VS.s_ll y3 r)) sa gy2 sp ([.int y.qk, .int (nI y.qst), .long 0, .ref na, .int 0, .ref ln, .ref lt, .ref mk]) hp2.2.2.1.2.2.1.1 (fun i hi y hy => by obtain ⟨vs, hv⟩ := hp2.2.2.1.2.2.1.2 i hi y hy; have h9 : (y, .inr (13, vs)) ∈ (VS.s_ll y3 r).pl := hv; exact ⟨vs, (fun _ hm => (plm hm)) _ h9⟩) (by have h9 : (sp, .inr (13, [.int y.qk, .int (nI y.qst), .long 0, .ref na, .int 0, .ref ln, .ref lt, .ref mk])) ∈ (VS.s_ll y3 r).pl := ms3; exact ((fun _ hm => (plm hm)) _ h9))) (q0 := 0) rfl rfl w812 w1653 w813 w814 w680 rfl rfl ⟨⟨by decide, by decide⟩, rfl⟩ ⟨(by first | exact Nat.le_of_ble_eq_true rfl | (dsimp only; omega)), (by first | exact Nat.le_of_ble_eq_true rfl | (dsimp only; omega))⟩ rfl hl.1 rfl (by first | exact Nat.le_of_ble_eq_true rfl | (dsimp only; omega)) d_Q_readTerm_64 ⟨(show 8 * (rqP rp.1 rp.2.1 - x.qst) + 0 + 1 + 4 + 0 + (8 * (rqP (F y2.tape y2.qlen y2.tk).1 (F y2.tape y2.qlen y2.tk).2.1 - y2.qst)) + 1 ≤ 8 * (rqP (pTm F x.tape x.qlen x.tk).1 (pTm F x.tape x.qlen x.tk).2.1 - x.qst) by omega), (show 64 * (rqP rp.1 rp.2.1 - x.qst) + 4 * (cpR g.eN g.sz rp.2.2.length - g.eN) + 0 + 8 + 6 + 0 + (64 * (rqP (F y2.tape y2.qlen y2.tk).1 (F y2.tape y2.qlen y2.tk).2.1 - y2.qst) + 4 * (cpR gq.eN gq.sz (F y2.tape y2.qlen y2.tk).2.2.length - gq.eN)) + (gqS gy2) ≤ 64 * (rqP (pTm F x.tape x.qlen x.tk).1 (pTm F x.tape x.qlen x.tk).2.1 - x.qst) + 4 * (cpR g.eN g.sz (pTm F x.tape x.qlen x.tk).2.2.length - g.eN) by omega)⟩) hP hD hS hA (fun r18 u19 H locs hp9 hP hD hS => ?_)
            obtain ⟨gy3, h9u⟩ : ∃ z9, z9 = u19 := ⟨_, rfl⟩
            subst h9u
            have hP : va_P D vwCl (LqW dA sa gy3 ++ (VW dA h ad (VS.s_ll y3 r))) H := hP
            have hD : va_D A (LqW dA sa gy3 ++ (VW dA h ad (VS.s_ll y3 r))) := hD
            obtain ⟨hp9, f_f_20⟩ := hp9
            replace hp9 : 1 = r18 := Eq.symm hp9
            subst hp9
            refine lv_pop hx hb d_Q_readTerm_67 rfl ?_
            have hP := pmP (show List.Perm (α := Nat × va_E) (LqW dA sa gy3 ++ (VW dA h ad (VS.s_ll y3 r))) (VW dA h ad (VS.s_ll y3 (LqW dA sa gy3 ++ r))) from (llP (dA := dA) (h := h) (ad := ad) (x := (VS.s_ll y3 (LqW dA sa gy3 ++ r))) (L := LqW dA sa gy3) (r := r) rfl).symm) hP
            have hD := pmD (show List.Perm (α := Nat × va_E) (LqW dA sa gy3 ++ (VW dA h ad (VS.s_ll y3 r))) (VW dA h ad (VS.s_ll y3 (LqW dA sa gy3 ++ r))) from (llP (dA := dA) (h := h) (ad := ad) (x := (VS.s_ll y3 (LqW dA sa gy3 ++ r))) (L := LqW dA sa gy3) (r := r) rfl).symm) hD
            have hP : va_P D vwCl (VW dA h ad (VS.s_ll y3 (LqW dA sa gy3 ++ r))) H := hP
            have hD : va_D A (VW dA h ad (VS.s_ll y3 (LqW dA sa gy3 ++ r))) := hD
            obtain ⟨y4, e_y4⟩ : ∃ w9, w9 = VS.s_ll y3 (LqW dA sa gy3 ++ r) := ⟨_, rfl⟩
            rw [← e_y4] at hP hD
            have hP : va_P D vwCl (VW dA h ad y4) H := hP
            have hD : va_D A (VW dA h ad y4) := hD
            have is3b : isSP dA y3.pl sp (spO rp.2.1.1 rp.2.1.2.1 0) := by have e9 := is3; rw [show y.qk = rp.2.1.1 from congrArg (fun q : TKQ => q.1) hp.2.1, ey] at e9; exact e9
            have hp4 := pq_op hp g4 q12 hp2 ms3 is3b f_f_20 e_y4 b7
            have b9 : gy3.eN = gqN gy2 := f_f_20.2.1
            refine lv_iinc (k := 2) (v := nI (i + 1)) hx hb d_Q_readTerm_68 hl rfl (iincN (i) 1 1 (by decide)) (by decide) rfl (fun ls hl => ?_)
            have hl : lv_has ls 5 [(3, .int (nI (i + 1))), (2, .int (bI (opS F x.tape x.qlen rp).1)), (4, .ref sp), (1, .int (nI o)), (0, .ref (ad 22))] := hl
            refine lv_goto hx hb d_Q_readTerm_71 (tgt := 8) rfl ?_
            refine W.widen (k := 8 * (rqP (opS F x.tape x.qlen rp).1 (opS F x.tape x.qlen rp).2.1 - x.qst)) (n := 64 * (rqP (opS F x.tape x.qlen rp).1 (opS F x.tape x.qlen rp).2.1 - x.qst) + 4 * (cpR g.eN g.sz (opS F x.tape x.qlen rp).2.2.length - g.eN)) (show 8 * (rqP rp.1 rp.2.1 - x.qst) + 0 + 1 + 4 + 0 + (8 * (rqP (F y2.tape y2.qlen y2.tk).1 (F y2.tape y2.qlen y2.tk).2.1 - y2.qst)) + 1 ≤ 8 * (rqP (opS F x.tape x.qlen rp).1 (opS F x.tape x.qlen rp).2.1 - x.qst) from by omega) (show 64 * (rqP rp.1 rp.2.1 - x.qst) + 4 * (cpR g.eN g.sz rp.2.2.length - g.eN) + 0 + 8 + 6 + 0 + (64 * (rqP (F y2.tape y2.qlen y2.tk).1 (F y2.tape y2.qlen y2.tk).2.1 - y2.qst) + 4 * (cpR gq.eN gq.sz (F y2.tape y2.qlen y2.tk).2.2.length - gq.eN)) + (gqS gy2) ≤ 64 * (rqP (opS F x.tape x.qlen rp).1 (opS F x.tape x.qlen rp).2.1 - x.qst) + 4 * (cpR g.eN g.sz (opS F x.tape x.qlen rp).2.2.length - g.eN) from by omega) ?_
            exact ih8 _ (by omega) (i + 1) (opS F x.tape x.qlen rp) y4 gy3 (by omega) hp4 o1 (by rw [show x.qlen - (i + 1) = x.qlen - i - 1 by omega]; exact er2) rfl H _ ls hP hD hS (lv_sub hl [1, 0, 3, 4] rfl)
  refine W.widen (k := 8 * (rqP (F x.tape x.qlen x.tk).1 (F x.tape x.qlen x.tk).2.1 - x.qst)) (n := 64 * (rqP (F x.tape x.qlen x.tk).1 (F x.tape x.qlen x.tk).2.1 - x.qst) + 4 * (cpR g.eN g.sz (F x.tape x.qlen x.tk).2.2.length - g.eN)) (show 0 + (8 * (rqP (F x.tape x.qlen x.tk).1 (F x.tape x.qlen x.tk).2.1 - x.qst)) ≤ 8 * (rqP (F x.tape x.qlen x.tk).1 (F x.tape x.qlen x.tk).2.1 - x.qst) from by omega) (show 0 + (64 * (rqP (F x.tape x.qlen x.tk).1 (F x.tape x.qlen x.tk).2.1 - x.qst) + 4 * (cpR g.eN g.sz (F x.tape x.qlen x.tk).2.2.length - g.eN)) ≤ 64 * (rqP (F x.tape x.qlen x.tk).1 (F x.tape x.qlen x.tk).2.1 - x.qst) + 4 * (cpR g.eN g.sz (F x.tape x.qlen x.tk).2.2.length - g.eN) from by omega) ?_
  exact L8 _ 0 (F x.tape x.qlen x.tk) y0 gy1 (Nat.zero_le _) f_p_3 gx0 rfl rfl H _ ls hP hD hS (lv_sub hl [1, 0, 3, 2] rfl)
end
section
/-! Brackets. -/
theorem pq_pre {dA : Nat → ClassId} {e0 sa : Nat} {r : va_W} {x y z : VS} {g g1 : LI} {R : PR} (hq : x.qr y) (h : VS.pq dA e0 sa r y g R z g1) : VS.pq dA e0 sa r x g R z g1 := ⟨qr_tr hq h.1, h.2⟩
/-- a token taken behind it -/
theorem pq_tk {dA : Nat → ClassId} {e0 sa : Nat} {r : va_W} {x y z : VS} {g g1 : LI} {R : PR} {b : Bool} {t : TKQ} (h : VS.pq dA e0 sa r x g R y g1) (hR : R.1 = true) (hq : y.qp z) (hk : z.qok) (ht : z.tk = t) (hs : y.qst ≤ z.qst) : VS.pq dA e0 sa r x g (b, t, R.2.2) z g1 := by
  obtain ⟨k1, k2, ⟨w1, w2, w3, w4⟩, k3, k4, k5, k6⟩ := h
  exact ⟨qr_tr k1 (qp_qr hq), ht, ⟨hk, (qp_ll hq).trans w2, stL_m hq.2 w3, by omega⟩, k3, k4, k5, fun _ => stps_m (k6 hR) hq.2 (fun _ _ => rfl)⟩
theorem pw_nx {dA : Nat → ClassId} {e0 sa : Nat} {r : va_W} {x y : VS} {g : LI} (h : VS.pw dA e0 sa r x g) (hq : x.qp y) (hk : y.qok) (hs : x.qst ≤ y.qst) : VS.pw dA e0 sa r y g := ⟨hk, (qp_ll hq).trans h.2.1, stL_m hq.2 h.2.2.1, by have := h.2.2.2; omega⟩
theorem pq_sf {dA : Nat → ClassId} {e0 sa : Nat} {r : va_W} {x : VS} {g : LI} (h : VS.pw dA e0 sa r x g) (b : Bool) : VS.pq dA e0 sa r x g (b, x.tk, []) x g := ⟨qr_rf x, rfl, h, rfl, rfl, fun _ _ => rfl, fun _ i hi => absurd hi (Nat.not_lt_zero i)⟩
theorem pOp_b {F : PF} {f : Nat → Int32} {n : Nat} {t : TKQ} (h : t.1 = 40) : pOp F f n t = pOc f n (pEx (pTm F) f n (nxT f n t)) := if_pos h
theorem pOp_m {F : PF} {f : Nat → Int32} {n : Nat} {t : TKQ} (h : ¬ t.1 = 40) : pOp F f n t = ((F f n (nxT f n t)).1, (F f n (nxT f n t)).2.1, (F f n (nxT f n t)).2.2 ++ [spO 265 t.2.1 0]) := if_neg h
theorem pOc_f {f : Nat → Int32} {n : Nat} {e : PR} (h : e.1 = false) : pOc f n e = e := if_neg (by rw [h]; decide)
theorem pOc_t {f : Nat → Int32} {n : Nat} {e : PR} (h : e.1 = true) : pOc f n e = ((tkT f n e.2.1 41).1, (tkT f n e.2.1 41).2, e.2.2) := if_pos h
theorem ls4_40 : Op.lookupswitch.offset [(40, 81), (45, 81), (257, 44), (258, 76)] 107 ((40 : Int32).toInt) = 81 := by decide
theorem ls4_no {z : Int32} (h1 : ¬ z = 40) (h2 : ¬ z = 45) (h3 : ¬ z = 257) (h4 : ¬ z = 258) : Op.lookupswitch.offset [(40, 81), (45, 81), (257, 44), (258, 76)] 107 z.toInt = 107 := by
  have k : ∀ (a : Int32) (n : Int), a.toInt = n → ¬ z = a → ¬ n = z.toInt := fun a n e g q => g (Int32.toInt_inj.mp (by rw [e, q]))
  rw [Op.lookupswitch.offset_cons, if_neg (k 40 40 (by decide) h1), Op.lookupswitch.offset_cons, if_neg (k 45 45 (by decide) h2), Op.lookupswitch.offset_cons, if_neg (k 257 257 (by decide) h3), Op.lookupswitch.offset_cons, if_neg (k 258 258 (by decide) h4)]
  rfl
theorem fc4 (z : Int32) : z = 257 ∨ z = 258 ∨ isOo z ∨ (¬ z = 40 ∧ ¬ z = 45 ∧ ¬ z = 257 ∧ ¬ z = 258) := by
  by_cases h1 : z = 257
  · exact Or.inl h1
  · by_cases h2 : z = 258
    · exact Or.inr (Or.inl h2)
    · by_cases h3 : z = 40
      · exact Or.inr (Or.inr (Or.inl (Or.inl h3)))
      · by_cases h4 : z = 45
        · exact Or.inr (Or.inr (Or.inl (Or.inr h4)))
        · exact Or.inr (Or.inr (Or.inr ⟨h3, h4, h1, h2⟩))
theorem ls4_o {z : Int32} (h : isOo z) : Op.lookupswitch.offset [(40, 81), (45, 81), (257, 44), (258, 76)] 107 z.toInt = 81 := by
  rcases h with h | h <;> subst h <;> decide
theorem pFc_1 {O : PF} {f : Nat → Int32} {n : Nat} {t : TKQ} (h : t.1 = 257) : pFc O f n t = (true, nxT f n t, [spO 257 t.2.1 t.2.2.2.1]) := if_pos h
theorem pFc_2 {O : PF} {f : Nat → Int32} {n : Nat} {t : TKQ} (h : t.1 = 258) : pFc O f n t = pFn f n t := (if_neg (by rw [h]; decide)).trans (if_pos h)
theorem pFc_3 {O : PF} {f : Nat → Int32} {n : Nat} {t : TKQ} (h : isOo t.1) : pFc O f n t = O f n t := by
  unfold pFc
  rw [if_neg (by rcases h with h | h <;> rw [h] <;> decide), if_neg (by rcases h with h | h <;> rw [h] <;> decide), if_pos (show t.1 = 40 ∨ t.1 = 45 from h)]
theorem pFc_4 {O : PF} {f : Nat → Int32} {n : Nat} {t : TKQ} (h : ¬ t.1 = 40 ∧ ¬ t.1 = 45 ∧ ¬ t.1 = 257 ∧ ¬ t.1 = 258) : pFc O f n t = (false, rfT t 2 t.2.1, []) := by
  unfold pFc
  rw [if_neg h.2.2.1, if_neg h.2.2.2, if_neg (fun z => by rcases z with z | z; exact h.1 z; exact h.2.1 z)]
theorem pq_pk {dA : Nat → ClassId} {e0 sa : Nat} {r : va_W} {x y z : VS} {g g1 : LI} {R : PR} (h : VS.pq dA e0 sa r x g R y g1) (hp : y.pk z) : VS.pq dA e0 sa r x g R z g1 := by
  obtain ⟨k1, k2, ⟨w1, w2, w3, w4⟩, k3, k4, k5, k6⟩ := h
  obtain ⟨a1, a2, a3⟩ := qok_pk w1 hp
  have e : z.qst = y.qst := congrArg (fun q : TKQ => q.2.1) a3
  exact ⟨qr_tr k1 (qp_qr a2), a3.trans k2, ⟨a1, (qp_ll a2).trans w2, stL_m a2.2 w3, by omega⟩, k3, k4, k5, fun hR => stps_m (k6 hR) a2.2 (fun _ _ => rfl)⟩
theorem d_Q_readExp_12 : decode prog_6_method_4_code 12 = .ok (.iload_n 3, 1) := by decide +kernel
theorem d_Q_readExp_13 : decode prog_6_method_4_code 13 = .ok (.aload_n 0, 1) := by decide +kernel
theorem d_Q_readExp_14 : decode prog_6_method_4_code 14 = .ok (.getfield 22, 3) := by decide +kernel
theorem d_Q_readExp_17 : decode prog_6_method_4_code 17 = .ok (.if_icmp .ge 65, 3) := by decide +kernel
theorem d_Q_readExp_38 : decode prog_6_method_4_code 38 = .ok (.new 58, 3) := by decide +kernel
theorem d_Q_readExp_41 : decode prog_6_method_4_code 41 = .ok (.dup, 1) := by decide +kernel
theorem d_Q_readExp_42 : decode prog_6_method_4_code 42 = .ok (.aload_n 0, 1) := by decide +kernel
theorem d_Q_readExp_43 : decode prog_6_method_4_code 43 = .ok (.getfield 45, 3) := by decide +kernel
theorem d_Q_readExp_46 : decode prog_6_method_4_code 46 = .ok (.aload_n 0, 1) := by decide +kernel
theorem d_Q_readExp_47 : decode prog_6_method_4_code 47 = .ok (.getfield 48, 3) := by decide +kernel
theorem d_Q_readExp_50 : decode prog_6_method_4_code 50 = .ok (.lconst 0, 1) := by decide +kernel
theorem d_Q_readExp_51 : decode prog_6_method_4_code 51 = .ok (.invokespecial 60, 3) := by decide +kernel
theorem d_Q_readExp_54 : decode prog_6_method_4_code 54 = .ok (.astore 4, 2) := by decide +kernel
theorem d_Q_readExp_56 : decode prog_6_method_4_code 56 = .ok (.aload_n 0, 1) := by decide +kernel
theorem d_Q_readExp_57 : decode prog_6_method_4_code 57 = .ok (.invokevirtual 38, 3) := by decide +kernel
theorem d_Q_readExp_60 : decode prog_6_method_4_code 60 = .ok (.aload_n 0, 1) := by decide +kernel
theorem d_Q_readExp_61 : decode prog_6_method_4_code 61 = .ok (.iload_n 1, 1) := by decide +kernel
theorem d_Q_readExp_62 : decode prog_6_method_4_code 62 = .ok (.invokevirtual 55, 3) := by decide +kernel
theorem d_Q_readExp_65 : decode prog_6_method_4_code 65 = .ok (.istore_n 2, 1) := by decide +kernel
theorem d_Q_readExp_66 : decode prog_6_method_4_code 66 = .ok (.aload_n 0, 1) := by decide +kernel
theorem d_Q_readExp_67 : decode prog_6_method_4_code 67 = .ok (.getfield 18, 3) := by decide +kernel
theorem d_Q_readExp_70 : decode prog_6_method_4_code 70 = .ok (.aload 4, 2) := by decide +kernel
theorem d_Q_readExp_72 : decode prog_6_method_4_code 72 = .ok (.invokevirtual 63, 3) := by decide +kernel
theorem d_Q_readExp_75 : decode prog_6_method_4_code 75 = .ok (.pop, 1) := by decide +kernel
theorem d_Q_readExp_76 : decode prog_6_method_4_code 76 = .ok (.iinc 3 1, 3) := by decide +kernel
theorem d_Q_readExp_79 : decode prog_6_method_4_code 79 = .ok (.goto (-71), 3) := by decide +kernel
theorem d_Q_readExp_20 : decode prog_6_method_4_code 20 = .ok (.aload_n 0, 1) := by decide +kernel
theorem d_Q_readExp_21 : decode prog_6_method_4_code 21 = .ok (.getfield 45, 3) := by decide +kernel
theorem d_Q_readExp_24 : decode prog_6_method_4_code 24 = .ok (.bipush 43, 2) := by decide +kernel
theorem d_Q_readExp_26 : decode prog_6_method_4_code 26 = .ok (.if_icmp .eq 12, 3) := by decide +kernel
theorem d_Q_readExp_29 : decode prog_6_method_4_code 29 = .ok (.aload_n 0, 1) := by decide +kernel
theorem d_Q_readExp_30 : decode prog_6_method_4_code 30 = .ok (.getfield 45, 3) := by decide +kernel
theorem d_Q_readExp_33 : decode prog_6_method_4_code 33 = .ok (.bipush 45, 2) := by decide +kernel
theorem d_Q_readExp_35 : decode prog_6_method_4_code 35 = .ok (.if_icmp .ne 47, 3) := by decide +kernel
set_option maxHeartbeats 4000000 in
set_option maxRecDepth 100000 in
theorem v_QreadExp (l : Launch) (D : va_G) (dA : Nat → ClassId) (sz : Nat) (e0 mi : Nat) (kA vA : Nat → Nat) (fm : Nat) (h : Nat) (ad : Nat → Nat) (sa : Nat) (g : LI) (r : va_W) (x : VS) (o : Nat) (F : PF) (fr : Nat) (lo : Nat) (hsa : sa = ad 23) (hw : VS.pw dA e0 sa r x g) (hF : TrmC o F fr lo) (hgF : gdF F) (ho : o ≤ 8) : Met l ⟨"SeriesVault$Question", "readExp", "(I)Z"⟩ [Cond.code ⟨"SeriesVault$Question", "readExp", "(I)Z"⟩ prog_6_method_4_code 5 (some FieldType.boolean)] { frames := fr + 7, cells := 8 * (rqP (pEx F x.tape x.qlen x.tk).1 (pEx F x.tape x.qlen x.tk).2.1 - x.qst), slots := 64 * (rqP (pEx F x.tape x.qlen x.tk).1 (pEx F x.tape x.qlen x.tk).2.1 - x.qst) + 4 * (cpR g.eN g.sz (pEx F x.tape x.qlen x.tk).2.2.length - g.eN), locals := lo + 171 } (pCs D dA e0 mi kA vA fm [.ref (ad 22), .int (nI o)] (VW dA h ad x) sz) (va_Qi (fun (r9 : Int32) (u9 : VS × LI) => r9 = bI (pEx F x.tape x.qlen x.tk).1 ∧ VS.pq dA e0 sa r x g (pEx F x.tape x.qlen x.tk) u9.1 u9.2) (fun (u9 : VS × LI) t9 => bW D (va_A (VW dA h ad x) sz) (VW dA h ad u9.1) t9) (va_A (VW dA h ad x) sz)) (8 * (rqP (pEx F x.tape x.qlen x.tk).1 (pEx F x.tape x.qlen x.tk).2.1 - x.qst)) (64 * (rqP (pEx F x.tape x.qlen x.tk).1 (pEx F x.tape x.qlen x.tk).2.1 - x.qst) + 4 * (cpR g.eN g.sz (pEx F x.tape x.qlen x.tk).2.2.length - g.eN)) (va_A (VW dA h ad x) sz) := by
  refine mkS (y := ⟨"SeriesVault$Question", "readExp", "(I)Z"⟩) (cc := prog_6_method_4_code) (maxL := 5) (av := [.ref (ad 22), .int (nI o)]) (ws := VW dA h ad x) (sz := sz) (Qc := fun A => va_Qi (fun (r9 : Int32) (u9 : VS × LI) => r9 = bI (pEx F x.tape x.qlen x.tk).1 ∧ VS.pq dA e0 sa r x g (pEx F x.tape x.qlen x.tk) u9.1 u9.2) (fun (u9 : VS × LI) t9 => bW D A (VW dA h ad u9.1) t9) A) (by decide) (Nat.le_of_ble_eq_true rfl) ?_
  intro A p e s m below meth c ls hsz hZ hT hM hQ hB
  obtain ⟨hx, hb, hr, hml, hown, hin, hlk, hE, hK, hP, hD, hS, hA, hN, hl⟩ := hB
  have hown : s.vm.findClass "SeriesVault$Question" = some m.cls := hown
  have hl : lv_has ls 5 [(0, .ref (ad 22)), (1, .int (nI o))] := hl
  obtain ⟨H, hH⟩ : ∃ z, z = s.heap := ⟨_, rfl⟩
  have hP : va_P D vwCl (VW dA h ad x) H := by rw [hH]; exact hP
  have hS : va_S A s.heap H [] := by rw [hH]; exact hS
  rw [← hH]
  have kb : x.qst ≤ x.qen ∧ x.qen ≤ x.qlen ∧ x.qlen ≤ x.tpN ∧ x.tpN ≤ 131072 ∧ x.qlen ≤ 16384 := ⟨hw.1.2.2.2.2.2.1, hw.1.2.2.2.2.2.2.1, hw.1.2.1, hw.1.2.2.1, hw.1.2.2.2.1⟩
  have kq : x.qtp = x.tpA := hw.1.1
  have tx0 : tkok x.qlen x.tk := hw.1.2.2.2.2.2
  have gx0 := hgF x.tape x.qlen x.tk tx0
  have ox0 := opL_P (f := x.tape) hgF isAd_o (w := x.qlen) gx0
  have oz1 : rqP (F x.tape x.qlen x.tk).1 (F x.tape x.qlen x.tk).2.1 ≤ rqP (pEx F x.tape x.qlen x.tk).1 (pEx F x.tape x.qlen x.tk).2.1 := ox0.2.1
  have oz2 : cpR g.eN g.sz (F x.tape x.qlen x.tk).2.2.length ≤ cpR g.eN g.sz (pEx F x.tape x.qlen x.tk).2.2.length := cpR_m _ _ ox0.2.2
  refine lv_aload_n hx hb d_Q_readExp_0 rfl (lv_at hl 0 rfl) ?_
  refine lv_iload_n hx hb d_Q_readExp_1 rfl (lv_at hl 1 rfl) ?_
  refine jkI (wr := []) (rnVs (As := [.int (nI o)]) (rest := []) hx hb hml hown hE hK hZ hT hM hQ hS (hN _ _ hS) hP hD (hF l D dA H.size e0 mi kA vA fm h ad sa g r x hsa hw) (q0 := 36) rfl rfl w674 w673 w675 w676 w665 rfl rfl ⟨⟨by decide, by decide⟩, rfl⟩ ⟨(by first | exact Nat.le_of_ble_eq_true rfl | (dsimp only; omega)), (by first | exact Nat.le_of_ble_eq_true rfl | (dsimp only; omega))⟩ rfl hl.1 rfl (by first | exact Nat.le_of_ble_eq_true rfl | (dsimp only; omega)) d_Q_readExp_2 ⟨(show 0 + (8 * (rqP (F x.tape x.qlen x.tk).1 (F x.tape x.qlen x.tk).2.1 - x.qst)) ≤ 8 * (rqP (pEx F x.tape x.qlen x.tk).1 (pEx F x.tape x.qlen x.tk).2.1 - x.qst) by omega), (show 0 + (64 * (rqP (F x.tape x.qlen x.tk).1 (F x.tape x.qlen x.tk).2.1 - x.qst) + 4 * (cpR g.eN g.sz (F x.tape x.qlen x.tk).2.2.length - g.eN)) ≤ 64 * (rqP (pEx F x.tape x.qlen x.tk).1 (pEx F x.tape x.qlen x.tk).2.1 - x.qst) + 4 * (cpR g.eN g.sz (pEx F x.tape x.qlen x.tk).2.2.length - g.eN) by omega)⟩) hP hD hS hA (fun r1 u2 H locs hp9 hP hD hS => ?_)
  obtain ⟨y0, gy1⟩ := u2
  have hP : va_P D vwCl (VW dA h ad y0) H := hP
  have hD : va_D A (VW dA h ad y0) := hD
  obtain ⟨hp9, f_p_3⟩ := hp9
  replace hp9 : bI (F x.tape x.qlen x.tk).1 = r1 := Eq.symm hp9
  subst hp9
  refine lv_istore_n hx hb d_Q_readExp_5 rfl hl (by decide) rfl (fun ls hl => ?_)
  have hl : lv_has ls 5 [(2, .int (bI (F x.tape x.qlen x.tk).1)), (0, .ref (ad 22)), (1, .int (nI o))] := hl
  refine lv_iconst (v := 0) hx hb d_Q_readExp_6 (by decide) ?_
  refine lv_istore_n hx hb d_Q_readExp_7 rfl hl (by decide) rfl (fun ls hl => ?_)
  have hl : lv_has ls 5 [(3, .int 0), (2, .int (bI (F x.tape x.qlen x.tk).1)), (0, .ref (ad 22)), (1, .int (nI o))] := hl
  have L8 : ∀ (k9 : Nat) (i : Nat) (rp : PR) (y : VS) (gq : LI) (i1 : i ≤ x.qlen) (hp : VS.pq dA e0 sa r x g rp y gq) (hg : prG x.qlen x.tk rp) (er : opL F isAd x.tape x.qlen (x.qlen - i) rp = pEx F x.tape x.qlen x.tk) (hk9 : x.qlen - i = k9), ∀ (H : Heap) (locs : List Loc) (ls : Array Slot) (hP : va_P D vwCl (VW dA h ad y) H) (hD : va_D A (VW dA h ad y)) (hS : va_S A s.heap H locs) (hl : lv_has ls 5 [(2, .int (bI rp.1)), (3, .int (nI i)), (1, .int (nI o)), (0, .ref (ad 22))]), W p l e ({ frames := fr + 7, cells := 8 * (rqP (pEx F x.tape x.qlen x.tk).1 (pEx F x.tape x.qlen x.tk).2.1 - x.qst), slots := 64 * (rqP (pEx F x.tape x.qlen x.tk).1 (pEx F x.tape x.qlen x.tk).2.1 - x.qst) + 4 * (cpR g.eN g.sz (pEx F x.tape x.qlen x.tk).2.2.length - g.eN), locals := lo + 171 } : Room) s m ([.ref (ad 22), .int (nI o)] : List Value).toArray below meth c H locs (8 * (rqP rp.1 rp.2.1 - x.qst)) (64 * (rqP rp.1 rp.2.1 - x.qst) + 4 * (cpR g.eN g.sz rp.2.2.length - g.eN)) (MQ below (va_Qi (fun (r9 : Int32) (u9 : VS × LI) => r9 = bI (pEx F x.tape x.qlen x.tk).1 ∧ VS.pq dA e0 sa r x g (pEx F x.tape x.qlen x.tk) u9.1 u9.2) (fun (u9 : VS × LI) t9 => bW D A (VW dA h ad u9.1) t9) A) ([.ref (ad 22), .int (nI o)] : List Value).toArray s (8 * (rqP (pEx F x.tape x.qlen x.tk).1 (pEx F x.tape x.qlen x.tk).2.1 - x.qst)) (64 * (rqP (pEx F x.tape x.qlen x.tk).1 (pEx F x.tape x.qlen x.tk).2.1 - x.qst) + 4 * (cpR g.eN g.sz (pEx F x.tape x.qlen x.tk).2.2.length - g.eN)) A) (F0 m 8 ls []) := by
    intro k9
    induction k9 using Nat.strongRecOn with
    | ind k9 ih8 =>
      intro i rp y gq i1 hp hg er hk9 H locs ls hP hD hS hl
      have kly := (qr_f hp.1).2.1
      have kby : y.qlen ≤ 16384 := hp.2.2.1.1.2.2.2.1
      have om := opL_P (f := x.tape) hgF isAd_o (w := x.qlen - i) hg
      rw [er] at om
      have om1 := om.2.1
      have om2 : cpR g.eN g.sz rp.2.2.length ≤ cpR g.eN g.sz (pEx F x.tape x.qlen x.tk).2.2.length := cpR_m _ _ om.2.2
      refine lv_iload_n hx hb d_Q_readExp_8 rfl (lv_at hl 0 rfl) ?_
      refine lv_if_eq hx hb d_Q_readExp_9 (tgt := 82) rfl (fun g4 => ?_) (fun g4 => ?_)
      · have g4 := bI_0 g4
        refine lv_iload_n hx hb d_Q_readExp_82 rfl (lv_at hl 0 rfl) ?_
        exact rfZ hx hb hr (bI_nar rp.1) hlk hS (⟨y, gq⟩) (by have E : rp = pEx F x.tape x.qlen x.tk := (opL_e (Or.inr (Or.inl g4))).symm.trans er; exact ⟨by rw [← E], by rw [← E]; exact hp⟩) hP hD (show 8 * (rqP rp.1 rp.2.1 - x.qst) ≤ 8 * (rqP (pEx F x.tape x.qlen x.tk).1 (pEx F x.tape x.qlen x.tk).2.1 - x.qst) by omega) (show 64 * (rqP rp.1 rp.2.1 - x.qst) + 4 * (cpR g.eN g.sz rp.2.2.length - g.eN) ≤ 64 * (rqP (pEx F x.tape x.qlen x.tk).1 (pEx F x.tape x.qlen x.tk).2.1 - x.qst) + 4 * (cpR g.eN g.sz (pEx F x.tape x.qlen x.tk).2.2.length - g.eN) by omega) d_Q_readExp_83
      · have g4 := bI_n0 g4
        refine lv_iload_n hx hb d_Q_readExp_12 rfl (lv_at hl 1 rfl) ?_
        refine lv_aload_n hx hb d_Q_readExp_13 rfl (lv_at hl 3 rfl) ?_
        have kb_y : y.qst ≤ y.qen ∧ y.qen ≤ y.qlen ∧ y.qlen ≤ y.tpN ∧ y.tpN ≤ 131072 ∧ y.qlen ≤ 16384 := ⟨hp.2.2.1.1.2.2.2.2.2.1, hp.2.2.1.1.2.2.2.2.2.2.1, hp.2.2.1.1.2.1, hp.2.2.1.1.2.2.1, hp.2.2.1.1.2.2.2.1⟩
        have kq_y : y.qtp = y.tpA := hp.2.2.1.1.1
        have kf_y : y.tape = x.tape ∧ y.qlen = x.qlen := ⟨(qr_f hp.1).2.2.1, (qr_f hp.1).2.1⟩
        refine gF (v := .int (nI y.qlen)) hx hb hown hE hK hP 36 rfl rfl layQ 1 (by decide) w661 rfl d_Q_readExp_14 ?_
        refine lv_icmp_ge hx hb d_Q_readExp_17 (tgt := 82) rfl (fun g5 => ?_) (fun g5 => ?_)
        · have g5 := (nI_leI (a := y.qlen) (b := i) (by omega) (by omega)).mp g5
          refine lv_iload_n hx hb d_Q_readExp_82 rfl (lv_at hl 0 rfl) ?_
          exact rfZ hx hb hr (bI_nar rp.1) hlk hS (⟨y, gq⟩) (by have E : rp = pEx F x.tape x.qlen x.tk := (opL_e (Or.inl (by have e9 := (qr_f hp.1).2.1; omega))).symm.trans er; exact ⟨by rw [← E], by rw [← E]; exact hp⟩) hP hD (show 8 * (rqP rp.1 rp.2.1 - x.qst) ≤ 8 * (rqP (pEx F x.tape x.qlen x.tk).1 (pEx F x.tape x.qlen x.tk).2.1 - x.qst) by omega) (show 64 * (rqP rp.1 rp.2.1 - x.qst) + 4 * (cpR g.eN g.sz rp.2.2.length - g.eN) ≤ 64 * (rqP (pEx F x.tape x.qlen x.tk).1 (pEx F x.tape x.qlen x.tk).2.1 - x.qst) + 4 * (cpR g.eN g.sz (pEx F x.tape x.qlen x.tk).2.2.length - g.eN) by omega) d_Q_readExp_83
        · have g5 := mt (nI_leI (a := y.qlen) (b := i) (by omega) (by omega)).mpr g5
          have J38 : ∀ (hAd : isAd y.qk = true), ∀ (H : Heap) (locs : List Loc) (ls : Array Slot) (hP : va_P D vwCl (VW dA h ad y) H) (hD : va_D A (VW dA h ad y)) (hS : va_S A s.heap H locs) (hl : lv_has ls 5 [(2, .int (bI rp.1)), (3, .int (nI i)), (1, .int (nI o)), (0, .ref (ad 22))]), W p l e ({ frames := fr + 7, cells := 8 * (rqP (pEx F x.tape x.qlen x.tk).1 (pEx F x.tape x.qlen x.tk).2.1 - x.qst), slots := 64 * (rqP (pEx F x.tape x.qlen x.tk).1 (pEx F x.tape x.qlen x.tk).2.1 - x.qst) + 4 * (cpR g.eN g.sz (pEx F x.tape x.qlen x.tk).2.2.length - g.eN), locals := lo + 171 } : Room) s m ([.ref (ad 22), .int (nI o)] : List Value).toArray below meth c H locs (8 * (rqP rp.1 rp.2.1 - x.qst)) (64 * (rqP rp.1 rp.2.1 - x.qst) + 4 * (cpR g.eN g.sz rp.2.2.length - g.eN)) (MQ below (va_Qi (fun (r9 : Int32) (u9 : VS × LI) => r9 = bI (pEx F x.tape x.qlen x.tk).1 ∧ VS.pq dA e0 sa r x g (pEx F x.tape x.qlen x.tk) u9.1 u9.2) (fun (u9 : VS × LI) t9 => bW D A (VW dA h ad u9.1) t9) A) ([.ref (ad 22), .int (nI o)] : List Value).toArray s (8 * (rqP (pEx F x.tape x.qlen x.tk).1 (pEx F x.tape x.qlen x.tk).2.1 - x.qst)) (64 * (rqP (pEx F x.tape x.qlen x.tk).1 (pEx F x.tape x.qlen x.tk).2.1 - x.qst) + 4 * (cpR g.eN g.sz (pEx F x.tape x.qlen x.tk).2.2.length - g.eN)) A) (F0 m 38 ls []) := by
            intro hAd H locs ls hP hD hS hl
            have hPt : isAd rp.2.1.1 = true := by rw [← hp.2.1]; exact hAd
            obtain ⟨o1, o2, o3, o4⟩ := opS_P (f := x.tape) hgF isAd_o hg g4 hPt
            have er2 : opL F isAd x.tape x.qlen (x.qlen - i - 1) (opS F x.tape x.qlen rp) = pEx F x.tape x.qlen x.tk := by rw [← er, opL_s (w := x.qlen - i) (by omega) g4 hPt]
            have oL := opL_P (f := x.tape) hgF isAd_o (w := x.qlen - i - 1) o1
            rw [er2] at oL
            obtain ⟨-, oL1, oL2⟩ := oL
            have ey : y.qst = rp.2.1.2.1 := congrArg (fun q : TKQ => q.2.1) hp.2.1
            have rq : rqP rp.1 rp.2.1 = y.qst := by rw [g4]; exact ey.symm
            have lS : (opS F x.tape x.qlen rp).2.2.length = rp.2.2.length + ((F x.tape x.qlen (nxT x.tape x.qlen rp.2.1)).2.2.length + 1) := by show (rp.2.2 ++ ((F x.tape x.qlen (nxT x.tape x.qlen rp.2.1)).2.2 ++ [spO rp.2.1.1 rp.2.1.2.1 0])).length = _; rw [List.length_append, List.length_append]; rfl
            have rS : rqP (opS F x.tape x.qlen rp).1 (opS F x.tape x.qlen rp).2.1 = rqP (F x.tape x.qlen (nxT x.tape x.qlen rp.2.1)).1 (F x.tape x.qlen (nxT x.tape x.qlen rp.2.1)).2.1 := rfl
            have a0 := cpR_le g.eN g.sz rp.2.2.length
            have a1 : gq.eN = cpR g.eN g.sz rp.2.2.length := hp.2.2.2.2.1
            have a1s : gq.sz = g.sz + rp.2.2.length := hp.2.2.2.1
            have a3 : cpR g.eN g.sz (rp.2.2.length + (F x.tape x.qlen (nxT x.tape x.qlen rp.2.1)).2.2.length) ≤ cpR g.eN g.sz (opS F x.tape x.qlen rp).2.2.length := cpR_m _ _ (by omega)
            have a4 : cpR g.eN g.sz (opS F x.tape x.qlen rp).2.2.length ≤ cpR g.eN g.sz (pEx F x.tape x.qlen x.tk).2.2.length := cpR_m _ _ oL2
            have a5 : cpR g.eN g.sz rp.2.2.length ≤ cpR g.eN g.sz (rp.2.2.length + (F x.tape x.qlen (nxT x.tape x.qlen rp.2.1)).2.2.length) := cpR_m _ _ (by omega)
            have xy : x.qst ≤ y.qst := by have e9 : x.qst + rp.2.2.length ≤ rp.2.1.2.1 := hg.2.2; omega
            have k264 : ¬ y.qk = 264 := by rw [show y.qk = rp.2.1.1 from congrArg (fun q : TKQ => q.1) hp.2.1]; exact (isAd_o _ hPt).2
            refine nOf hx hb hown hE hK hP hD hS hA (ci := 13) rfl layE tyE tokE w1648 w859 w1496 (fs := [.int 0, .int 0, .long 0, .null, .int 0, .null, .null, .null]) dfE (show (8 * (rqP rp.1 rp.2.1 - x.qst)) + 1 ≤ 8 * (rqP (pEx F x.tape x.qlen x.tk).1 (pEx F x.tape x.qlen x.tk).2.1 - x.qst) by omega) (show (64 * (rqP rp.1 rp.2.1 - x.qst) + 4 * (cpR g.eN g.sz rp.2.2.length - g.eN)) + 8 ≤ 64 * (rqP (pEx F x.tape x.qlen x.tk).1 (pEx F x.tape x.qlen x.tk).2.1 - x.qst) + 4 * (cpR g.eN g.sz (pEx F x.tape x.qlen x.tk).2.2.length - g.eN) by omega) d_Q_readExp_38 (fun sp H hP hD hS => ?_)
            have hP : va_P D vwCl ([(sp, .inr (13, [.int 0, .int 0, .long 0, .null, .int 0, .null, .null, .null]))] ++ (VW dA h ad y)) H := hP
            have hD : va_D A ([(sp, .inr (13, [.int 0, .int 0, .long 0, .null, .int 0, .null, .null, .null]))] ++ (VW dA h ad y)) := hD
            refine lv_dup hx hb d_Q_readExp_41 rfl ?_
            refine lv_aload_n hx hb d_Q_readExp_42 rfl (lv_at hl 3 rfl) ?_
            refine gF (v := .int y.qk) hx hb hown hE hK hP 37 rfl rfl layQ 2 (by decide) w663 rfl d_Q_readExp_43 ?_
            refine lv_aload_n hx hb d_Q_readExp_46 rfl (lv_at hl 3 rfl) ?_
            refine gF (v := .int (nI y.qst)) hx hb hown hE hK hP 37 rfl rfl layQ 3 (by decide) w662 rfl d_Q_readExp_47 ?_
            refine lv_lconst (v := 0) hx hb d_Q_readExp_50 (by decide) ?_
            refine jkV (wr := []) (rnIy (As := [.int y.qk, .int (nI y.qst), .long 0]) (rest := [.ref sp]) hx hb hml hown hE hK hZ hT hM hS (hN _ _ hS) hP hD (v_Einit_o l D dA H.size e0 mi (VW dA h ad y) sp y.qk y.qst 0 k264) w1651 w1650 w1652 w1496 rfl rfl rfl ⟨⟨by decide, by decide⟩, rfl⟩ ⟨(by first | exact Nat.le_of_ble_eq_true rfl | (dsimp only; omega)), (by first | exact Nat.le_of_ble_eq_true rfl | (dsimp only; omega))⟩ rfl hl.1 rfl (by first | exact Nat.le_of_ble_eq_true rfl | (dsimp only; omega)) d_Q_readExp_51 ⟨(show 8 * (rqP rp.1 rp.2.1 - x.qst) + 1 + 4 ≤ 8 * (rqP (pEx F x.tape x.qlen x.tk).1 (pEx F x.tape x.qlen x.tk).2.1 - x.qst) by omega), (show 64 * (rqP rp.1 rp.2.1 - x.qst) + 4 * (cpR g.eN g.sz rp.2.2.length - g.eN) + 8 + 6 ≤ 64 * (rqP (pEx F x.tape x.qlen x.tk).1 (pEx F x.tape x.qlen x.tk).2.1 - x.qst) + 4 * (cpR g.eN g.sz (pEx F x.tape x.qlen x.tk).2.2.length - g.eN) by omega)⟩) hP hD hS hA (fun u7 H locs hp9 hP hD hS => ?_)
            obtain ⟨na, ln, lt, mk⟩ := u7
            have hP : va_P D vwCl ([(na, .inl (dA 6, 0, .inr (.inr (.inr (.inr (fun _ => none))))))] ++ ([(ln, .inr (6, [.ref e0, .int 0, .int 0]))] ++ ([(lt, .inr (6, [.ref e0, .int 0, .int 0]))] ++ ([(mk, .inl (dA 1, 0, .inl (fun _ => 0)))] ++ ([(sp, .inr (13, [.int y.qk, .int (nI y.qst), .long 0, .ref na, .int 0, .ref ln, .ref lt, .ref mk]))] ++ (VW dA h ad y)))))) H := hP
            have hD : va_D A ([(na, .inl (dA 6, 0, .inr (.inr (.inr (.inr (fun _ => none))))))] ++ ([(ln, .inr (6, [.ref e0, .int 0, .int 0]))] ++ ([(lt, .inr (6, [.ref e0, .int 0, .int 0]))] ++ ([(mk, .inl (dA 1, 0, .inl (fun _ => 0)))] ++ ([(sp, .inr (13, [.int y.qk, .int (nI y.qst), .long 0, .ref na, .int 0, .ref ln, .ref lt, .ref mk]))] ++ (VW dA h ad y)))))) := hD
            refine lv_astore hx hb d_Q_readExp_54 hl (by decide) rfl (fun ls hl => ?_)
            have hl : lv_has ls 5 [(4, .ref sp), (2, .int (bI rp.1)), (3, .int (nI i)), (1, .int (nI o)), (0, .ref (ad 22))] := hl
            refine lv_aload_n hx hb d_Q_readExp_56 rfl (lv_at hl 4 rfl) ?_
            have hP : va_P D vwCl (VW dA h ad (VS.s_pl y (y.pl ++ ([(na, .inl (dA 6, 0, .inr (.inr (.inr (.inr (fun _ => none))))))] ++ ([(ln, .inr (6, [.ref e0, .int 0, .int 0]))] ++ ([(lt, .inr (6, [.ref e0, .int 0, .int 0]))] ++ ([(mk, .inl (dA 1, 0, .inl (fun _ => 0)))] ++ ([(sp, .inr (13, [.int y.qk, .int (nI y.qst), .long 0, .ref na, .int 0, .ref ln, .ref lt, .ref mk]))])))))))) H := pmP (show List.Perm (α := Nat × va_E) ([(na, .inl (dA 6, 0, .inr (.inr (.inr (.inr (fun _ => none))))))] ++ ([(ln, .inr (6, [.ref e0, .int 0, .int 0]))] ++ ([(lt, .inr (6, [.ref e0, .int 0, .int 0]))] ++ ([(mk, .inl (dA 1, 0, .inl (fun _ => 0)))] ++ ([(sp, .inr (13, [.int y.qk, .int (nI y.qst), .long 0, .ref na, .int 0, .ref ln, .ref lt, .ref mk]))] ++ (VW dA h ad y)))))) (VW dA h ad (VS.s_pl y (y.pl ++ ([(na, .inl (dA 6, 0, .inr (.inr (.inr (.inr (fun _ => none))))))] ++ ([(ln, .inr (6, [.ref e0, .int 0, .int 0]))] ++ ([(lt, .inr (6, [.ref e0, .int 0, .int 0]))] ++ ([(mk, .inl (dA 1, 0, .inl (fun _ => 0)))] ++ ([(sp, .inr (13, [.int y.qk, .int (nI y.qst), .long 0, .ref na, .int 0, .ref ln, .ref lt, .ref mk]))])))))))) from plP5 (dA := dA) (h := h) (ad := ad) y ([(na, .inl (dA 6, 0, .inr (.inr (.inr (.inr (fun _ => none))))))]) ([(ln, .inr (6, [.ref e0, .int 0, .int 0]))]) ([(lt, .inr (6, [.ref e0, .int 0, .int 0]))]) ([(mk, .inl (dA 1, 0, .inl (fun _ => 0)))]) ([(sp, .inr (13, [.int y.qk, .int (nI y.qst), .long 0, .ref na, .int 0, .ref ln, .ref lt, .ref mk]))])) hP
            have hD : va_D A (VW dA h ad (VS.s_pl y (y.pl ++ ([(na, .inl (dA 6, 0, .inr (.inr (.inr (.inr (fun _ => none))))))] ++ ([(ln, .inr (6, [.ref e0, .int 0, .int 0]))] ++ ([(lt, .inr (6, [.ref e0, .int 0, .int 0]))] ++ ([(mk, .inl (dA 1, 0, .inl (fun _ => 0)))] ++ ([(sp, .inr (13, [.int y.qk, .int (nI y.qst), .long 0, .ref na, .int 0, .ref ln, .ref lt, .ref mk]))])))))))) := pmD (show List.Perm (α := Nat × va_E) ([(na, .inl (dA 6, 0, .inr (.inr (.inr (.inr (fun _ => none))))))] ++ ([(ln, .inr (6, [.ref e0, .int 0, .int 0]))] ++ ([(lt, .inr (6, [.ref e0, .int 0, .int 0]))] ++ ([(mk, .inl (dA 1, 0, .inl (fun _ => 0)))] ++ ([(sp, .inr (13, [.int y.qk, .int (nI y.qst), .long 0, .ref na, .int 0, .ref ln, .ref lt, .ref mk]))] ++ (VW dA h ad y)))))) (VW dA h ad (VS.s_pl y (y.pl ++ ([(na, .inl (dA 6, 0, .inr (.inr (.inr (.inr (fun _ => none))))))] ++ ([(ln, .inr (6, [.ref e0, .int 0, .int 0]))] ++ ([(lt, .inr (6, [.ref e0, .int 0, .int 0]))] ++ ([(mk, .inl (dA 1, 0, .inl (fun _ => 0)))] ++ ([(sp, .inr (13, [.int y.qk, .int (nI y.qst), .long 0, .ref na, .int 0, .ref ln, .ref lt, .ref mk]))])))))))) from plP5 (dA := dA) (h := h) (ad := ad) y ([(na, .inl (dA 6, 0, .inr (.inr (.inr (.inr (fun _ => none))))))]) ([(ln, .inr (6, [.ref e0, .int 0, .int 0]))]) ([(lt, .inr (6, [.ref e0, .int 0, .int 0]))]) ([(mk, .inl (dA 1, 0, .inl (fun _ => 0)))]) ([(sp, .inr (13, [.int y.qk, .int (nI y.qst), .long 0, .ref na, .int 0, .ref ln, .ref lt, .ref mk]))])) hD
            obtain ⟨pl8, e_pl8⟩ : ∃ z9, z9 = y.pl ++ ([(na, .inl (dA 6, 0, .inr (.inr (.inr (.inr (fun _ => none))))))] ++ ([(ln, .inr (6, [.ref e0, .int 0, .int 0]))] ++ ([(lt, .inr (6, [.ref e0, .int 0, .int 0]))] ++ ([(mk, .inl (dA 1, 0, .inl (fun _ => 0)))] ++ ([(sp, .inr (13, [.int y.qk, .int (nI y.qst), .long 0, .ref na, .int 0, .ref ln, .ref lt, .ref mk]))]))))) := ⟨_, rfl⟩
            rw [← e_pl8] at hP hD
            have s_pl8 : ∀ c, c ∈ y.pl → c ∈ pl8 := by rw [e_pl8]; exact fun _ hm => List.mem_append_left _ hm
            have t_pl8_0 : ((na, .inl (dA 6, 0, .inr (.inr (.inr (.inr (fun _ => none)))))) : Nat × va_E) ∈ pl8 := by rw [e_pl8]; exact List.mem_append_right _ (List.mem_of_getElem? (i := 0) rfl)
            have t_pl8_1 : ((ln, .inr (6, [.ref e0, .int 0, .int 0])) : Nat × va_E) ∈ pl8 := by rw [e_pl8]; exact List.mem_append_right _ (List.mem_of_getElem? (i := 1) rfl)
            have t_pl8_2 : ((lt, .inr (6, [.ref e0, .int 0, .int 0])) : Nat × va_E) ∈ pl8 := by rw [e_pl8]; exact List.mem_append_right _ (List.mem_of_getElem? (i := 2) rfl)
            have t_pl8_3 : ((mk, .inl (dA 1, 0, .inl (fun _ => 0))) : Nat × va_E) ∈ pl8 := by rw [e_pl8]; exact List.mem_append_right _ (List.mem_of_getElem? (i := 3) rfl)
            have t_pl8_4 : ((sp, .inr (13, [.int y.qk, .int (nI y.qst), .long 0, .ref na, .int 0, .ref ln, .ref lt, .ref mk])) : Nat × va_E) ∈ pl8 := by rw [e_pl8]; exact List.mem_append_right _ (List.mem_of_getElem? (i := 4) rfl)
            have hP : va_P D vwCl (VW dA h ad (VS.s_pl y pl8)) H := hP
            have hD : va_D A (VW dA h ad (VS.s_pl y pl8)) := hD
            obtain ⟨y1, e_y1⟩ : ∃ w9, w9 = VS.s_pl y pl8 := ⟨_, rfl⟩
            rw [← e_y1] at hP hD
            have hP : va_P D vwCl (VW dA h ad y1) H := hP
            have hD : va_D A (VW dA h ad y1) := hD
            have pk1 : y.pk y1 := by rw [e_y1]; exact ⟨rfl, s_pl8⟩
            have ep1 : y1.pl = pl8 := by rw [e_y1]
            obtain ⟨hk_y1, qq_y1, tk_y1⟩ := qok_pk hp.2.2.1.1 pk1
            have ms1 : (sp, .inr (13, [.int y.qk, .int (nI y.qst), .long 0, .ref na, .int 0, .ref ln, .ref lt, .ref mk])) ∈ y1.pl := by rw [ep1]; exact t_pl8_4
            have is1 : isSP dA y1.pl sp (spO y.qk y.qst 0) := by rw [ep1]; exact isSP_o t_pl8_4 t_pl8_0 t_pl8_1 t_pl8_2 t_pl8_3
            have kb_y1 : y1.qst ≤ y1.qen ∧ y1.qen ≤ y1.qlen ∧ y1.qlen ≤ y1.tpN ∧ y1.tpN ≤ 131072 ∧ y1.qlen ≤ 16384 := ⟨hk_y1.2.2.2.2.2.1, hk_y1.2.2.2.2.2.2.1, hk_y1.2.1, hk_y1.2.2.1, hk_y1.2.2.2.1⟩
            have kq_y1 : y1.qtp = y1.tpA := hk_y1.1
            refine jkV (wr := []) (rnV (As := []) (rest := []) hx hb hml hown hE hK (hN _ _ hS) hP hD (v_Qadvance l D dA H.size h ad y1 kq_y1 (show y1.qlen ≤ y1.tpN from by omega) (show y1.tpN ≤ 131072 from by omega) (show y1.qen ≤ y1.qlen from by omega)) (q0 := 36) rfl rfl w685 w684 w686 w687 w665 rfl rfl ⟨⟨by decide, by decide⟩, rfl⟩ ⟨(by first | exact Nat.le_of_ble_eq_true rfl | (dsimp only; omega)), (by first | exact Nat.le_of_ble_eq_true rfl | (dsimp only; omega))⟩ rfl hl.1 rfl (by first | exact Nat.le_of_ble_eq_true rfl | (dsimp only; omega)) d_Q_readExp_57 ⟨(show 8 * (rqP rp.1 rp.2.1 - x.qst) + 1 + 4 + 0 ≤ 8 * (rqP (pEx F x.tape x.qlen x.tk).1 (pEx F x.tape x.qlen x.tk).2.1 - x.qst) by omega), (show 64 * (rqP rp.1 rp.2.1 - x.qst) + 4 * (cpR g.eN g.sz rp.2.2.length - g.eN) + 8 + 6 + 0 ≤ 64 * (rqP (pEx F x.tape x.qlen x.tk).1 (pEx F x.tape x.qlen x.tk).2.1 - x.qst) + 4 * (cpR g.eN g.sz (pEx F x.tape x.qlen x.tk).2.2.length - g.eN) by omega)⟩) hP hD hS hA (fun u10 H locs hp9 hP hD hS => ?_)
            obtain ⟨y2, h9u⟩ : ∃ z9, z9 = u10 := ⟨_, rfl⟩
            subst h9u
            have hP : va_P D vwCl (VW dA h ad y2) H := hP
            have hD : va_D A (VW dA h ad y2) := hD
            have f_e_11 := hp9
            refine lv_aload_n hx hb d_Q_readExp_60 rfl (lv_at hl 4 rfl) ?_
            refine lv_iload_n hx hb d_Q_readExp_61 rfl (lv_at hl 3 rfl) ?_
            obtain ⟨hk_y2, qq_y2, tk_y2⟩ := qok_adv hk_y1 f_e_11
            have q12 : y.qr y2 := qr_tr (qp_qr qq_y1) (qp_qr qq_y2)
            have kf1 : y1.tape = x.tape ∧ y1.qlen = x.qlen := ⟨((qr_f (qp_qr qq_y1)).2.2.1).trans kf_y.1, ((qr_f (qp_qr qq_y1)).2.1).trans kf_y.2⟩
            have kf2 : y2.tape = x.tape ∧ y2.qlen = x.qlen := ⟨((qr_f (qp_qr qq_y2)).2.2.1).trans kf1.1, ((qr_f (qp_qr qq_y2)).2.1).trans kf1.2⟩
            have tt2 : y2.tk = nxT x.tape x.qlen rp.2.1 := by rw [tk_y2, kf1.1, kf1.2, tk_y1, hp.2.1]
            have ey2 : y2.qst = (nxT x.tape x.qlen rp.2.1).2.1 := congrArg (fun q : TKQ => q.2.1) tt2
            have eR : F y2.tape y2.qlen y2.tk = F x.tape x.qlen (nxT x.tape x.qlen rp.2.1) := by rw [kf2.1, kf2.2, tt2]
            have rY : rqP (F y2.tape y2.qlen y2.tk).1 (F y2.tape y2.qlen y2.tk).2.1 = rqP (F x.tape x.qlen (nxT x.tape x.qlen rp.2.1)).1 (F x.tape x.qlen (nxT x.tape x.qlen rp.2.1)).2.1 := by rw [eR]
            have a2 : cpR gq.eN gq.sz (F y2.tape y2.qlen y2.tk).2.2.length = cpR g.eN g.sz (rp.2.2.length + (F x.tape x.qlen (nxT x.tape x.qlen rp.2.1)).2.2.length) := by rw [eR, a1, a1s, cpR_tr]
            have w2 : VS.pw dA e0 sa r y2 gq := ⟨hk_y2, (qp_ll qq_y2).trans ((qp_ll qq_y1).trans hp.2.2.1.2.1), stL_m q12.2 hp.2.2.1.2.2.1, by have e9 := hp.2.2.1.2.2.2; omega⟩
            refine jkI (wr := []) (rnVs (As := [.int (nI o)]) (rest := []) hx hb hml hown hE hK hZ hT hM hQ hS (hN _ _ hS) hP hD (hF l D dA H.size e0 mi kA vA fm h ad sa gq r y2 hsa w2) (q0 := 36) rfl rfl w674 w673 w675 w676 w665 rfl rfl ⟨⟨by decide, by decide⟩, rfl⟩ ⟨(by first | exact Nat.le_of_ble_eq_true rfl | (dsimp only; omega)), (by first | exact Nat.le_of_ble_eq_true rfl | (dsimp only; omega))⟩ rfl hl.1 rfl (by first | exact Nat.le_of_ble_eq_true rfl | (dsimp only; omega)) d_Q_readExp_62 ⟨(show 8 * (rqP rp.1 rp.2.1 - x.qst) + 1 + 4 + 0 + (8 * (rqP (F y2.tape y2.qlen y2.tk).1 (F y2.tape y2.qlen y2.tk).2.1 - y2.qst)) ≤ 8 * (rqP (pEx F x.tape x.qlen x.tk).1 (pEx F x.tape x.qlen x.tk).2.1 - x.qst) by omega), (show 64 * (rqP rp.1 rp.2.1 - x.qst) + 4 * (cpR g.eN g.sz rp.2.2.length - g.eN) + 8 + 6 + 0 + (64 * (rqP (F y2.tape y2.qlen y2.tk).1 (F y2.tape y2.qlen y2.tk).2.1 - y2.qst) + 4 * (cpR gq.eN gq.sz (F y2.tape y2.qlen y2.tk).2.2.length - gq.eN)) ≤ 64 * (rqP (pEx F x.tape x.qlen x.tk).1 (pEx F x.tape x.qlen x.tk).2.1 - x.qst) + 4 * (cpR g.eN g.sz (pEx F x.tape x.qlen x.tk).2.2.length - g.eN) by omega)⟩) hP hD hS hA (fun r12 u13 H locs hp9 hP hD hS => ?_)
            obtain ⟨y3, gy2⟩ := u13
            have hP : va_P D vwCl (VW dA h ad y3) H := hP
            have hD : va_D A (VW dA h ad y3) := hD
            obtain ⟨hp9, f_p_14⟩ := hp9
            replace hp9 : bI (F y2.tape y2.qlen y2.tk).1 = r12 := Eq.symm hp9
            subst hp9
            refine tpi (y := bI (opS F x.tape x.qlen rp).1) (by rw [eR]; rfl) ?_
            refine lv_istore_n hx hb d_Q_readExp_65 rfl hl (by decide) rfl (fun ls hl => ?_)
            have hl : lv_has ls 5 [(2, .int (bI (opS F x.tape x.qlen rp).1)), (4, .ref sp), (3, .int (nI i)), (1, .int (nI o)), (0, .ref (ad 22))] := hl
            refine lv_aload_n hx hb d_Q_readExp_66 rfl (lv_at hl 4 rfl) ?_
            refine gF (v := .ref (ad 23)) hx hb hown hE hK hP 36 rfl rfl layQ 8 (by decide) w678 rfl d_Q_readExp_67 ?_
            refine lv_aload hx hb d_Q_readExp_70 (lv_at hl 1 rfl) ?_
            have hp2 := f_p_14
            rw [eR] at hp2
            have ms3 := hp2.1.2 _ (qq_y2.2 _ ms1)
            have is3 := isSP_m hp2.1.2 (isSP_m qq_y2.2 is1)
            have hl3 : y3.ll = LqW dA sa gy2 ++ r := hp2.2.2.1.2.1
            have b2 : gy2.eN = cpR gq.eN gq.sz (F x.tape x.qlen (nxT x.tape x.qlen rp.2.1)).2.2.length := hp2.2.2.2.2.1
            rw [a1, a1s, cpR_tr] at b2
            have b3 := gq_S gy2
            have b4 : gy2.sz = gq.sz + (F x.tape x.qlen (nxT x.tape x.qlen rp.2.1)).2.2.length := hp2.2.2.2.1
            have ey3 : y3.qst = (F x.tape x.qlen (nxT x.tape x.qlen rp.2.1)).2.1.2.1 := congrArg (fun q : TKQ => q.2.1) hp2.2.1
            have b5 := o4.2.2
            have b6 := hp.2.2.1.2.2.2
            have b7 : gy2.sz < y3.qst := by omega
            have b8 : gqN gy2 ≤ cpR g.eN g.sz (opS F x.tape x.qlen rp).2.2.length := by rw [lS, show rp.2.2.length + ((F x.tape x.qlen (nxT x.tape x.qlen rp.2.1)).2.2.length + 1) = rp.2.2.length + (F x.tape x.qlen (nxT x.tape x.qlen rp.2.1)).2.2.length + 1 by omega]; show gqN gy2 ≤ (if _ then _ else _); rw [← b2, show g.sz + (rp.2.2.length + (F x.tape x.qlen (nxT x.tape x.qlen rp.2.1)).2.2.length) = gy2.sz by omega]; exact Nat.le_refl _
            rw [← hsa]
            have hP := pmP (show List.Perm (α := Nat × va_E) (VW dA h ad y3) (LqW dA sa gy2 ++ (VW dA h ad (VS.s_ll y3 r))) from llP (dA := dA) (h := h) (ad := ad) (x := y3) (L := LqW dA sa gy2) (r := r) hl3) hP
            have hD := pmD (show List.Perm (α := Nat × va_E) (VW dA h ad y3) (LqW dA sa gy2 ++ (VW dA h ad (VS.s_ll y3 r))) from llP (dA := dA) (h := h) (ad := ad) (x := y3) (L := LqW dA sa gy2) (r := r) hl3) hD
            have hP : va_P D vwCl (LqW dA sa gy2 ++ (VW dA h ad (VS.s_ll y3 r))) H := hP
            have hD : va_D A (LqW dA sa gy2 ++ (VW dA h ad (VS.s_ll y3 r))) := hD
            refine jkI (wr := []) (rnVy (As := [.ref sp]) (rest := []) hx hb hml hown hE hK hZ hT hM hS (hN _ _ hS) hP hD (v_LaddQ_E l D dA H.size e0 mi (VW dA h ad (VS.s_ll y3 r)) sa gy2 sp ([.int y.qk, .int (nI y.qst), .long 0, .ref na, .int 0, .ref ln, .ref lt, .ref mk]) hp2.2.2.1.2.2.1.1 (fun i hi y hy => by obtain ⟨vs, hv⟩ := hp2.2.2.1.2.2.1.2 i hi y hy; have h9 : (y, .inr (13, vs)) ∈ (VS.s_ll y3 r).pl := hv; exact ⟨vs, (fun _ hm => (plm hm)) _ h9⟩) (by have h9 : (sp, .inr (13, [.int y.qk, .int (nI y.qst), .long 0, .ref na, .int 0, .ref ln, .ref lt, .ref mk])) ∈ (VS.s_ll y3 r).pl := ms3; exact ((fun _ hm => (plm hm)) _ h9))) (q0 := 0) rfl rfl w812 w1653 w813 w814 w680 rfl rfl ⟨⟨by decide, by decide⟩, rfl⟩ ⟨(by first | exact Nat.le_of_ble_eq_true rfl | (dsimp only; omega)), (by first | exact Nat.le_of_ble_eq_true rfl | (dsimp only; omega))⟩ rfl hl.1 rfl (by first | exact Nat.le_of_ble_eq_true rfl | (dsimp only; omega)) d_Q_readExp_72 ⟨(show 8 * (rqP rp.1 rp.2.1 - x.qst) + 1 + 4 + 0 + (8 * (rqP (F y2.tape y2.qlen y2.tk).1 (F y2.tape y2.qlen y2.tk).2.1 - y2.qst)) + 1 ≤ 8 * (rqP (pEx F x.tape x.qlen x.tk).1 (pEx F x.tape x.qlen x.tk).2.1 - x.qst) by omega), (show 64 * (rqP rp.1 rp.2.1 - x.qst) + 4 * (cpR g.eN g.sz rp.2.2.length - g.eN) + 8 + 6 + 0 + (64 * (rqP (F y2.tape y2.qlen y2.tk).1 (F y2.tape y2.qlen y2.tk).2.1 - y2.qst) + 4 * (cpR gq.eN gq.sz (F y2.tape y2.qlen y2.tk).2.2.length - gq.eN)) + (gqS gy2) ≤ 64 * (rqP (pEx F x.tape x.qlen x.tk).1 (pEx F x.tape x.qlen x.tk).2.1 - x.qst) + 4 * (cpR g.eN g.sz (pEx F x.tape x.qlen x.tk).2.2.length - g.eN) by omega)⟩) hP hD hS hA (fun r15 u16 H locs hp9 hP hD hS => ?_)
            obtain ⟨gy3, h9u⟩ : ∃ z9, z9 = u16 := ⟨_, rfl⟩
            subst h9u
            have hP : va_P D vwCl (LqW dA sa gy3 ++ (VW dA h ad (VS.s_ll y3 r))) H := hP
            have hD : va_D A (LqW dA sa gy3 ++ (VW dA h ad (VS.s_ll y3 r))) := hD
            obtain ⟨hp9, f_f_17⟩ := hp9
            replace hp9 : 1 = r15 := Eq.symm hp9
            subst hp9
            refine lv_pop hx hb d_Q_readExp_75 rfl ?_
            have hP := pmP (show List.Perm (α := Nat × va_E) (LqW dA sa gy3 ++ (VW dA h ad (VS.s_ll y3 r))) (VW dA h ad (VS.s_ll y3 (LqW dA sa gy3 ++ r))) from (llP (dA := dA) (h := h) (ad := ad) (x := (VS.s_ll y3 (LqW dA sa gy3 ++ r))) (L := LqW dA sa gy3) (r := r) rfl).symm) hP
            have hD := pmD (show List.Perm (α := Nat × va_E) (LqW dA sa gy3 ++ (VW dA h ad (VS.s_ll y3 r))) (VW dA h ad (VS.s_ll y3 (LqW dA sa gy3 ++ r))) from (llP (dA := dA) (h := h) (ad := ad) (x := (VS.s_ll y3 (LqW dA sa gy3 ++ r))) (L := LqW dA sa gy3) (r := r) rfl).symm) hD
            have hP : va_P D vwCl (VW dA h ad (VS.s_ll y3 (LqW dA sa gy3 ++ r))) H := hP
            have hD : va_D A (VW dA h ad (VS.s_ll y3 (LqW dA sa gy3 ++ r))) := hD
            obtain ⟨y4, e_y4⟩ : ∃ w9, w9 = VS.s_ll y3 (LqW dA sa gy3 ++ r) := ⟨_, rfl⟩
            rw [← e_y4] at hP hD
            have hP : va_P D vwCl (VW dA h ad y4) H := hP
            have hD : va_D A (VW dA h ad y4) := hD
            have is3b : isSP dA y3.pl sp (spO rp.2.1.1 rp.2.1.2.1 0) := by have e9 := is3; rw [show y.qk = rp.2.1.1 from congrArg (fun q : TKQ => q.1) hp.2.1, ey] at e9; exact e9
            have hp4 := pq_op hp g4 q12 hp2 ms3 is3b f_f_17 e_y4 b7
            have b9 : gy3.eN = gqN gy2 := f_f_17.2.1
            refine lv_iinc (k := 2) (v := nI (i + 1)) hx hb d_Q_readExp_76 hl rfl (iincN (i) 1 1 (by decide)) (by decide) rfl (fun ls hl => ?_)
            have hl : lv_has ls 5 [(3, .int (nI (i + 1))), (2, .int (bI (opS F x.tape x.qlen rp).1)), (4, .ref sp), (1, .int (nI o)), (0, .ref (ad 22))] := hl
            refine lv_goto hx hb d_Q_readExp_79 (tgt := 8) rfl ?_
            refine W.widen (k := 8 * (rqP (opS F x.tape x.qlen rp).1 (opS F x.tape x.qlen rp).2.1 - x.qst)) (n := 64 * (rqP (opS F x.tape x.qlen rp).1 (opS F x.tape x.qlen rp).2.1 - x.qst) + 4 * (cpR g.eN g.sz (opS F x.tape x.qlen rp).2.2.length - g.eN)) (show 8 * (rqP rp.1 rp.2.1 - x.qst) + 1 + 4 + 0 + (8 * (rqP (F y2.tape y2.qlen y2.tk).1 (F y2.tape y2.qlen y2.tk).2.1 - y2.qst)) + 1 ≤ 8 * (rqP (opS F x.tape x.qlen rp).1 (opS F x.tape x.qlen rp).2.1 - x.qst) from by omega) (show 64 * (rqP rp.1 rp.2.1 - x.qst) + 4 * (cpR g.eN g.sz rp.2.2.length - g.eN) + 8 + 6 + 0 + (64 * (rqP (F y2.tape y2.qlen y2.tk).1 (F y2.tape y2.qlen y2.tk).2.1 - y2.qst) + 4 * (cpR gq.eN gq.sz (F y2.tape y2.qlen y2.tk).2.2.length - gq.eN)) + (gqS gy2) ≤ 64 * (rqP (opS F x.tape x.qlen rp).1 (opS F x.tape x.qlen rp).2.1 - x.qst) + 4 * (cpR g.eN g.sz (opS F x.tape x.qlen rp).2.2.length - g.eN) from by omega) ?_
            exact ih8 _ (by omega) (i + 1) (opS F x.tape x.qlen rp) y4 gy3 (by omega) hp4 o1 (by rw [show x.qlen - (i + 1) = x.qlen - i - 1 by omega]; exact er2) rfl H _ ls hP hD hS (lv_sub hl [1, 0, 3, 4] rfl)
          refine lv_aload_n hx hb d_Q_readExp_20 rfl (lv_at hl 3 rfl) ?_
          refine gF (v := .int y.qk) hx hb hown hE hK hP 36 rfl rfl layQ 2 (by decide) w663 rfl d_Q_readExp_21 ?_
          refine lv_bipush (v := 43) hx hb d_Q_readExp_24 (by decide) ?_
          refine lv_icmp_eq hx hb d_Q_readExp_26 (tgt := 38) rfl (fun g18 => ?_) (fun g18 => ?_)
          · have g18 := g18
            exact J38 (show isAd y.qk = true by rw [g18]; rfl) H _ ls hP hD hS (lv_sub hl [0, 1, 2, 3] rfl)
          · have g18 := g18
            refine lv_aload_n hx hb d_Q_readExp_29 rfl (lv_at hl 3 rfl) ?_
            refine gF (v := .int y.qk) hx hb hown hE hK hP 36 rfl rfl layQ 2 (by decide) w663 rfl d_Q_readExp_30 ?_
            refine lv_bipush (v := 45) hx hb d_Q_readExp_33 (by decide) ?_
            refine lv_icmp_ne hx hb d_Q_readExp_35 (tgt := 82) rfl (fun g19 => ?_) (fun g19 => ?_)
            · have g19 := g19
              refine lv_iload_n hx hb d_Q_readExp_82 rfl (lv_at hl 0 rfl) ?_
              exact rfZ hx hb hr (bI_nar rp.1) hlk hS (⟨y, gq⟩) (by have E : rp = pEx F x.tape x.qlen x.tk := (opL_e (Or.inr (Or.inr (by rw [← hp.2.1]; exact (show isAd y.qk = false by show (decide (y.qk = 43) || decide (y.qk = 45)) = false; rw [decide_eq_false g18, decide_eq_false g19]; rfl))))).symm.trans er; exact ⟨by rw [← E], by rw [← E]; exact hp⟩) hP hD (show 8 * (rqP rp.1 rp.2.1 - x.qst) ≤ 8 * (rqP (pEx F x.tape x.qlen x.tk).1 (pEx F x.tape x.qlen x.tk).2.1 - x.qst) by omega) (show 64 * (rqP rp.1 rp.2.1 - x.qst) + 4 * (cpR g.eN g.sz rp.2.2.length - g.eN) ≤ 64 * (rqP (pEx F x.tape x.qlen x.tk).1 (pEx F x.tape x.qlen x.tk).2.1 - x.qst) + 4 * (cpR g.eN g.sz (pEx F x.tape x.qlen x.tk).2.2.length - g.eN) by omega) d_Q_readExp_83
            · have g19 := g19
              exact J38 (show isAd y.qk = true by rw [g19]; rfl) H _ ls hP hD hS (lv_sub hl [0, 1, 2, 3] rfl)
  refine W.widen (k := 8 * (rqP (F x.tape x.qlen x.tk).1 (F x.tape x.qlen x.tk).2.1 - x.qst)) (n := 64 * (rqP (F x.tape x.qlen x.tk).1 (F x.tape x.qlen x.tk).2.1 - x.qst) + 4 * (cpR g.eN g.sz (F x.tape x.qlen x.tk).2.2.length - g.eN)) (show 0 + (8 * (rqP (F x.tape x.qlen x.tk).1 (F x.tape x.qlen x.tk).2.1 - x.qst)) ≤ 8 * (rqP (F x.tape x.qlen x.tk).1 (F x.tape x.qlen x.tk).2.1 - x.qst) from by omega) (show 0 + (64 * (rqP (F x.tape x.qlen x.tk).1 (F x.tape x.qlen x.tk).2.1 - x.qst) + 4 * (cpR g.eN g.sz (F x.tape x.qlen x.tk).2.2.length - g.eN)) ≤ 64 * (rqP (F x.tape x.qlen x.tk).1 (F x.tape x.qlen x.tk).2.1 - x.qst) + 4 * (cpR g.eN g.sz (F x.tape x.qlen x.tk).2.2.length - g.eN) from by omega) ?_
  exact L8 _ 0 (F x.tape x.qlen x.tk) y0 gy1 (Nat.zero_le _) f_p_3 gx0 rfl rfl H _ ls hP hD hS (lv_sub hl [1, 0, 3, 2] rfl)
end
section
theorem d_Q_readOpened_0 : decode prog_6_method_8_code 0 = .ok (.aload_n 0, 1) := by decide +kernel
theorem d_Q_readOpened_1 : decode prog_6_method_8_code 1 = .ok (.getfield 45, 3) := by decide +kernel
theorem d_Q_readOpened_4 : decode prog_6_method_8_code 4 = .ok (.istore_n 2, 1) := by decide +kernel
theorem d_Q_readOpened_5 : decode prog_6_method_8_code 5 = .ok (.aload_n 0, 1) := by decide +kernel
theorem d_Q_readOpened_6 : decode prog_6_method_8_code 6 = .ok (.getfield 48, 3) := by decide +kernel
theorem d_Q_readOpened_9 : decode prog_6_method_8_code 9 = .ok (.istore_n 3, 1) := by decide +kernel
theorem d_Q_readOpened_10 : decode prog_6_method_8_code 10 = .ok (.aload_n 0, 1) := by decide +kernel
theorem d_Q_readOpened_11 : decode prog_6_method_8_code 11 = .ok (.invokevirtual 38, 3) := by decide +kernel
theorem d_Q_readOpened_14 : decode prog_6_method_8_code 14 = .ok (.iload_n 2, 1) := by decide +kernel
theorem d_Q_readOpened_15 : decode prog_6_method_8_code 15 = .ok (.bipush 40, 2) := by decide +kernel
theorem d_Q_readOpened_17 : decode prog_6_method_8_code 17 = .ok (.if_icmp .ne 26, 3) := by decide +kernel
theorem d_Q_readOpened_43 : decode prog_6_method_8_code 43 = .ok (.aload_n 0, 1) := by decide +kernel
theorem d_Q_readOpened_44 : decode prog_6_method_8_code 44 = .ok (.iload_n 1, 1) := by decide +kernel
theorem d_Q_readOpened_45 : decode prog_6_method_8_code 45 = .ok (.invokevirtual 67, 3) := by decide +kernel
theorem d_Q_readOpened_48 : decode prog_6_method_8_code 48 = .ok (.istore 4, 2) := by decide +kernel
theorem d_Q_readOpened_50 : decode prog_6_method_8_code 50 = .ok (.aload_n 0, 1) := by decide +kernel
theorem d_Q_readOpened_51 : decode prog_6_method_8_code 51 = .ok (.getfield 18, 3) := by decide +kernel
theorem d_Q_readOpened_54 : decode prog_6_method_8_code 54 = .ok (.new 58, 3) := by decide +kernel
theorem d_Q_readOpened_57 : decode prog_6_method_8_code 57 = .ok (.dup, 1) := by decide +kernel
theorem d_Q_readOpened_58 : decode prog_6_method_8_code 58 = .ok (.sipush 265, 3) := by decide +kernel
theorem d_Q_readOpened_61 : decode prog_6_method_8_code 61 = .ok (.iload_n 3, 1) := by decide +kernel
theorem d_Q_readOpened_62 : decode prog_6_method_8_code 62 = .ok (.lconst 0, 1) := by decide +kernel
theorem d_Q_readOpened_63 : decode prog_6_method_8_code 63 = .ok (.invokespecial 60, 3) := by decide +kernel
theorem d_Q_readOpened_66 : decode prog_6_method_8_code 66 = .ok (.invokevirtual 63, 3) := by decide +kernel
theorem d_Q_readOpened_69 : decode prog_6_method_8_code 69 = .ok (.pop, 1) := by decide +kernel
theorem d_Q_readOpened_70 : decode prog_6_method_8_code 70 = .ok (.iload 4, 2) := by decide +kernel
theorem d_Q_readOpened_72 : decode prog_6_method_8_code 72 = .ok (.ireturn, 1) := by decide +kernel
theorem d_Q_readOpened_20 : decode prog_6_method_8_code 20 = .ok (.aload_n 0, 1) := by decide +kernel
theorem d_Q_readOpened_21 : decode prog_6_method_8_code 21 = .ok (.iload_n 1, 1) := by decide +kernel
theorem d_Q_readOpened_22 : decode prog_6_method_8_code 22 = .ok (.invokevirtual 41, 3) := by decide +kernel
theorem d_Q_readOpened_25 : decode prog_6_method_8_code 25 = .ok (.ifCond .eq 16, 3) := by decide +kernel
theorem d_Q_readOpened_41 : decode prog_6_method_8_code 41 = .ok (.iconst 0, 1) := by decide +kernel
theorem d_Q_readOpened_42 : decode prog_6_method_8_code 42 = .ok (.ireturn, 1) := by decide +kernel
theorem d_Q_readOpened_28 : decode prog_6_method_8_code 28 = .ok (.aload_n 0, 1) := by decide +kernel
theorem d_Q_readOpened_29 : decode prog_6_method_8_code 29 = .ok (.bipush 41, 2) := by decide +kernel
theorem d_Q_readOpened_31 : decode prog_6_method_8_code 31 = .ok (.invokevirtual 84, 3) := by decide +kernel
theorem d_Q_readOpened_34 : decode prog_6_method_8_code 34 = .ok (.ifCond .eq 7, 3) := by decide +kernel
theorem d_Q_readOpened_37 : decode prog_6_method_8_code 37 = .ok (.iconst 1, 1) := by decide +kernel
theorem d_Q_readOpened_38 : decode prog_6_method_8_code 38 = .ok (.goto 4, 3) := by decide +kernel
theorem w1654 : Cond.methodLink "SeriesVault$Question" 84 ⟨"SeriesVault$Question", "take", "(I)Z"⟩ ∈ aW := aw_of (tb_7 (List.mem_of_getElem? (i := 89) rfl)) rfl
theorem w1655 : Cond.code ⟨"SeriesVault$Question", "take", "(I)Z"⟩ prog_6_method_9_code 2 (some FieldType.boolean) ∈ aW := aw_of (tb_7 (List.mem_of_getElem? (i := 92) rfl)) rfl
theorem w1656 : Cond.instanceMethod ⟨"SeriesVault$Question", "take", "(I)Z"⟩ ∈ aW := aw_of (tb_7 (List.mem_of_getElem? (i := 91) rfl)) rfl
theorem w1657 : Cond.selects "SeriesVault$Question" ⟨"SeriesVault$Question", "take", "(I)Z"⟩ ⟨"SeriesVault$Question", "take", "(I)Z"⟩ ∈ aW := aw_pr (List.mem_map.mpr ⟨_, pv_3 (List.mem_of_getElem? (i := 15) rfl), rfl⟩) rfl
set_option maxHeartbeats 4000000 in
set_option maxRecDepth 100000 in
theorem v_QreadOpened (l : Launch) (D : va_G) (dA : Nat → ClassId) (sz : Nat) (e0 mi : Nat) (kA vA : Nat → Nat) (fm : Nat) (h : Nat) (ad : Nat → Nat) (sa : Nat) (g : LI) (r : va_W) (x : VS) (o : Nat) (F : PF) (fr : Nat) (lo : Nat) (hsa : sa = ad 23) (hw : VS.pw dA e0 sa r x g) (hoo : isOo x.qk) (hF : FacC o F fr lo) (hX : ExpC o (pEx (pTm F)) fr lo) (hgF : gdF F) (ho : o ≤ 8) : Met l ⟨"SeriesVault$Question", "readOpened", "(I)Z"⟩ [Cond.code ⟨"SeriesVault$Question", "readOpened", "(I)Z"⟩ prog_6_method_8_code 5 (some FieldType.boolean)] { frames := fr + 7, cells := 8 * (rqP (pOp F x.tape x.qlen x.tk).1 (pOp F x.tape x.qlen x.tk).2.1 - x.qst), slots := 64 * (rqP (pOp F x.tape x.qlen x.tk).1 (pOp F x.tape x.qlen x.tk).2.1 - x.qst) + 4 * (cpR g.eN g.sz (pOp F x.tape x.qlen x.tk).2.2.length - g.eN), locals := lo + 171 } (pCs D dA e0 mi kA vA fm [.ref (ad 22), .int (nI o)] (VW dA h ad x) sz) (va_Qi (fun (r9 : Int32) (u9 : VS × LI) => r9 = bI (pOp F x.tape x.qlen x.tk).1 ∧ VS.pq dA e0 sa r x g (pOp F x.tape x.qlen x.tk) u9.1 u9.2) (fun (u9 : VS × LI) t9 => bW D (va_A (VW dA h ad x) sz) (VW dA h ad u9.1) t9) (va_A (VW dA h ad x) sz)) (8 * (rqP (pOp F x.tape x.qlen x.tk).1 (pOp F x.tape x.qlen x.tk).2.1 - x.qst)) (64 * (rqP (pOp F x.tape x.qlen x.tk).1 (pOp F x.tape x.qlen x.tk).2.1 - x.qst) + 4 * (cpR g.eN g.sz (pOp F x.tape x.qlen x.tk).2.2.length - g.eN)) (va_A (VW dA h ad x) sz) := by
  refine mkS (y := ⟨"SeriesVault$Question", "readOpened", "(I)Z"⟩) (cc := prog_6_method_8_code) (maxL := 5) (av := [.ref (ad 22), .int (nI o)]) (ws := VW dA h ad x) (sz := sz) (Qc := fun A => va_Qi (fun (r9 : Int32) (u9 : VS × LI) => r9 = bI (pOp F x.tape x.qlen x.tk).1 ∧ VS.pq dA e0 sa r x g (pOp F x.tape x.qlen x.tk) u9.1 u9.2) (fun (u9 : VS × LI) t9 => bW D A (VW dA h ad u9.1) t9) A) (by decide) (Nat.le_of_ble_eq_true rfl) ?_
  intro A p e s m below meth c ls hsz hZ hT hM hQ hB
  obtain ⟨hx, hb, hr, hml, hown, hin, hlk, hE, hK, hP, hD, hS, hA, hN, hl⟩ := hB
  have hown : s.vm.findClass "SeriesVault$Question" = some m.cls := hown
  have hl : lv_has ls 5 [(0, .ref (ad 22)), (1, .int (nI o))] := hl
  obtain ⟨H, hH⟩ : ∃ z, z = s.heap := ⟨_, rfl⟩
  have hP : va_P D vwCl (VW dA h ad x) H := by rw [hH]; exact hP
  have hS : va_S A s.heap H [] := by rw [hH]; exact hS
  rw [← hH]
  have kb : x.qst ≤ x.qen ∧ x.qen ≤ x.qlen ∧ x.qlen ≤ x.tpN ∧ x.tpN ≤ 131072 ∧ x.qlen ≤ 16384 := ⟨hw.1.2.2.2.2.2.1, hw.1.2.2.2.2.2.2.1, hw.1.2.1, hw.1.2.2.1, hw.1.2.2.2.1⟩
  have kq : x.qtp = x.tpA := hw.1.1
  have tx0 : tkok x.qlen x.tk := hw.1.2.2.2.2.2
  have nx0 : x.qst < x.qen := tx0.2.2.1 (by rcases hoo with h9 | h9 <;> rw [show x.tk.1 = _ from h9] <;> decide)
  have gz0 : x.qen ≤ rqP (pOp F x.tape x.qlen x.tk).1 (pOp F x.tape x.qlen x.tk).2.1 := (pOp_P hgF tx0 (by rcases hoo with h9 | h9 <;> rw [show x.tk.1 = _ from h9] <;> decide)).2.1
  refine lv_aload_n hx hb d_Q_readOpened_0 rfl (lv_at hl 0 rfl) ?_
  refine gF (v := .int x.qk) hx hb hown hE hK hP 36 rfl rfl layQ 2 (by decide) w663 rfl d_Q_readOpened_1 ?_
  refine lv_istore_n hx hb d_Q_readOpened_4 rfl hl (by decide) rfl (fun ls hl => ?_)
  have hl : lv_has ls 5 [(2, .int x.qk), (0, .ref (ad 22)), (1, .int (nI o))] := hl
  refine lv_aload_n hx hb d_Q_readOpened_5 rfl (lv_at hl 1 rfl) ?_
  refine gF (v := .int (nI x.qst)) hx hb hown hE hK hP 36 rfl rfl layQ 3 (by decide) w662 rfl d_Q_readOpened_6 ?_
  refine lv_istore_n hx hb d_Q_readOpened_9 rfl hl (by decide) rfl (fun ls hl => ?_)
  have hl : lv_has ls 5 [(3, .int (nI x.qst)), (2, .int x.qk), (0, .ref (ad 22)), (1, .int (nI o))] := hl
  refine lv_aload_n hx hb d_Q_readOpened_10 rfl (lv_at hl 2 rfl) ?_
  refine jkV (wr := []) (rnV (As := []) (rest := []) hx hb hml hown hE hK (hN _ _ hS) hP hD (v_Qadvance l D dA H.size h ad x kq (show x.qlen ≤ x.tpN from by omega) (show x.tpN ≤ 131072 from by omega) (show x.qen ≤ x.qlen from by omega)) (q0 := 36) rfl rfl w685 w684 w686 w687 w665 rfl rfl ⟨⟨by decide, by decide⟩, rfl⟩ ⟨(by first | exact Nat.le_of_ble_eq_true rfl | (dsimp only; omega)), (by first | exact Nat.le_of_ble_eq_true rfl | (dsimp only; omega))⟩ rfl hl.1 rfl (by first | exact Nat.le_of_ble_eq_true rfl | (dsimp only; omega)) d_Q_readOpened_11 ⟨(show 0 + 0 ≤ 8 * (rqP (pOp F x.tape x.qlen x.tk).1 (pOp F x.tape x.qlen x.tk).2.1 - x.qst) by omega), (show 0 + 0 ≤ 64 * (rqP (pOp F x.tape x.qlen x.tk).1 (pOp F x.tape x.qlen x.tk).2.1 - x.qst) + 4 * (cpR g.eN g.sz (pOp F x.tape x.qlen x.tk).2.2.length - g.eN) by omega)⟩) hP hD hS hA (fun u2 H locs hp9 hP hD hS => ?_)
  obtain ⟨y1, h9u⟩ : ∃ z9, z9 = u2 := ⟨_, rfl⟩
  subst h9u
  have hP : va_P D vwCl (VW dA h ad y1) H := hP
  have hD : va_D A (VW dA h ad y1) := hD
  have f_e_3 := hp9
  refine lv_iload_n hx hb d_Q_readOpened_14 rfl (lv_at hl 1 rfl) ?_
  refine lv_bipush (v := 40) hx hb d_Q_readOpened_15 (by decide) ?_
  refine lv_icmp_ne hx hb d_Q_readOpened_17 (tgt := 43) rfl (fun g4 => ?_) (fun g4 => ?_)
  · have g4 := g4
    refine lv_aload_n hx hb d_Q_readOpened_43 rfl (lv_at hl 2 rfl) ?_
    refine lv_iload_n hx hb d_Q_readOpened_44 rfl (lv_at hl 3 rfl) ?_
    obtain ⟨hk_y1, qq_y1, tk_y1⟩ := qok_adv hw.1 f_e_3
    have kf1 : y1.tape = x.tape ∧ y1.qlen = x.qlen := ⟨(qr_f (qp_qr qq_y1)).2.2.1, (qr_f (qp_qr qq_y1)).2.1⟩
    have tn1 := nx_ok (f := x.tape) tx0.2.1
    have ey1 : y1.qst = (nxT x.tape x.qlen x.tk).2.1 := congrArg (fun q : TKQ => q.2.1) tk_y1
    have st1 : x.qen ≤ (nxT x.tape x.qlen x.tk).2.1 := tn1.2
    have w1 : VS.pw dA e0 sa r y1 g := pw_nx hw qq_y1 hk_y1 (by omega)
    have E0 : pOp F x.tape x.qlen x.tk = ((F x.tape x.qlen (nxT x.tape x.qlen x.tk)).1, (F x.tape x.qlen (nxT x.tape x.qlen x.tk)).2.1, (F x.tape x.qlen (nxT x.tape x.qlen x.tk)).2.2 ++ [spO 265 x.tk.2.1 0]) := pOp_m g4
    have eRF : F y1.tape y1.qlen y1.tk = F x.tape x.qlen (nxT x.tape x.qlen x.tk) := by rw [kf1.1, kf1.2, tk_y1]
    have gdx := hgF x.tape x.qlen _ tn1.1
    have rF : rqP (F y1.tape y1.qlen y1.tk).1 (F y1.tape y1.qlen y1.tk).2.1 = rqP (pOp F x.tape x.qlen x.tk).1 (pOp F x.tape x.qlen x.tk).2.1 := by rw [eRF, E0]
    have lF : (pOp F x.tape x.qlen x.tk).2.2.length = (F y1.tape y1.qlen y1.tk).2.2.length + 1 := by rw [E0, eRF]; exact List.length_append
    have cF : cpR g.eN g.sz (F y1.tape y1.qlen y1.tk).2.2.length ≤ cpR g.eN g.sz (pOp F x.tape x.qlen x.tk).2.2.length := cpR_m _ _ (by omega)
    have sF := gdx.2.1
    have sF2 := tn1.1.1
    have sF3 : rqP (F y1.tape y1.qlen y1.tk).1 (F y1.tape y1.qlen y1.tk).2.1 = rqP (F x.tape x.qlen (nxT x.tape x.qlen x.tk)).1 (F x.tape x.qlen (nxT x.tape x.qlen x.tk)).2.1 := by rw [eRF]
    have aF := cpR_le g.eN g.sz (F y1.tape y1.qlen y1.tk).2.2.length
    refine jkI (wr := []) (rnVs (As := [.int (nI o)]) (rest := []) hx hb hml hown hE hK hZ hT hM hQ hS (hN _ _ hS) hP hD (hF l D dA H.size e0 mi kA vA fm h ad sa g r y1 hsa w1) (q0 := 36) rfl rfl w670 w669 w671 w672 w665 rfl rfl ⟨⟨by decide, by decide⟩, rfl⟩ ⟨(by first | exact Nat.le_of_ble_eq_true rfl | (dsimp only; omega)), (by first | exact Nat.le_of_ble_eq_true rfl | (dsimp only; omega))⟩ rfl hl.1 rfl (by first | exact Nat.le_of_ble_eq_true rfl | (dsimp only; omega)) d_Q_readOpened_45 ⟨(show 0 + 0 + (8 * (rqP (F y1.tape y1.qlen y1.tk).1 (F y1.tape y1.qlen y1.tk).2.1 - y1.qst)) ≤ 8 * (rqP (pOp F x.tape x.qlen x.tk).1 (pOp F x.tape x.qlen x.tk).2.1 - x.qst) by omega), (show 0 + 0 + (64 * (rqP (F y1.tape y1.qlen y1.tk).1 (F y1.tape y1.qlen y1.tk).2.1 - y1.qst) + 4 * (cpR g.eN g.sz (F y1.tape y1.qlen y1.tk).2.2.length - g.eN)) ≤ 64 * (rqP (pOp F x.tape x.qlen x.tk).1 (pOp F x.tape x.qlen x.tk).2.1 - x.qst) + 4 * (cpR g.eN g.sz (pOp F x.tape x.qlen x.tk).2.2.length - g.eN) by omega)⟩) hP hD hS hA (fun r5 u6 H locs hp9 hP hD hS => ?_)
    obtain ⟨y5, gy5⟩ := u6
    have hP : va_P D vwCl (VW dA h ad y5) H := hP
    have hD : va_D A (VW dA h ad y5) := hD
    obtain ⟨hp9, f_p_7⟩ := hp9
    replace hp9 : bI (F y1.tape y1.qlen y1.tk).1 = r5 := Eq.symm hp9
    subst hp9
    refine lv_istore hx hb d_Q_readOpened_48 hl (by decide) rfl (fun ls hl => ?_)
    have hl : lv_has ls 5 [(4, .int (bI (F y1.tape y1.qlen y1.tk).1)), (3, .int (nI x.qst)), (2, .int x.qk), (0, .ref (ad 22)), (1, .int (nI o))] := hl
    refine lv_aload_n hx hb d_Q_readOpened_50 rfl (lv_at hl 3 rfl) ?_
    have hp5 := pq_pre (qp_qr qq_y1) f_p_7
    rw [eRF] at hp5
    refine gF (v := .ref (ad 23)) hx hb hown hE hK hP 36 rfl rfl layQ 8 (by decide) w678 rfl d_Q_readOpened_51 ?_
    refine nOf hx hb hown hE hK hP hD hS hA (ci := 13) rfl layE tyE tokE w1648 w859 w1496 (fs := [.int 0, .int 0, .long 0, .null, .int 0, .null, .null, .null]) dfE (show (0 + 0 + (8 * (rqP (F y1.tape y1.qlen y1.tk).1 (F y1.tape y1.qlen y1.tk).2.1 - y1.qst))) + 1 ≤ 8 * (rqP (pOp F x.tape x.qlen x.tk).1 (pOp F x.tape x.qlen x.tk).2.1 - x.qst) by omega) (show (0 + 0 + (64 * (rqP (F y1.tape y1.qlen y1.tk).1 (F y1.tape y1.qlen y1.tk).2.1 - y1.qst) + 4 * (cpR g.eN g.sz (F y1.tape y1.qlen y1.tk).2.2.length - g.eN))) + 8 ≤ 64 * (rqP (pOp F x.tape x.qlen x.tk).1 (pOp F x.tape x.qlen x.tk).2.1 - x.qst) + 4 * (cpR g.eN g.sz (pOp F x.tape x.qlen x.tk).2.2.length - g.eN) by omega) d_Q_readOpened_54 (fun sp H hP hD hS => ?_)
    have hP : va_P D vwCl ([(sp, .inr (13, [.int 0, .int 0, .long 0, .null, .int 0, .null, .null, .null]))] ++ (VW dA h ad y5)) H := hP
    have hD : va_D A ([(sp, .inr (13, [.int 0, .int 0, .long 0, .null, .int 0, .null, .null, .null]))] ++ (VW dA h ad y5)) := hD
    refine lv_dup hx hb d_Q_readOpened_57 rfl ?_
    refine lv_sipush (v := 265) hx hb d_Q_readOpened_58 (by decide) ?_
    refine lv_iload_n hx hb d_Q_readOpened_61 rfl (lv_at hl 1 rfl) ?_
    refine lv_lconst (v := 0) hx hb d_Q_readOpened_62 (by decide) ?_
    refine jkV (wr := []) (rnIy (As := [.int 265, .int (nI x.qst), .long 0]) (rest := [.ref sp, .ref (ad 23)]) hx hb hml hown hE hK hZ hT hM hS (hN _ _ hS) hP hD (v_Einit_o l D dA H.size e0 mi (VW dA h ad y5) sp 265 x.qst 0 (by decide)) w1651 w1650 w1652 w1496 rfl rfl rfl ⟨⟨by decide, by decide⟩, rfl⟩ ⟨(by first | exact Nat.le_of_ble_eq_true rfl | (dsimp only; omega)), (by first | exact Nat.le_of_ble_eq_true rfl | (dsimp only; omega))⟩ rfl hl.1 rfl (by first | exact Nat.le_of_ble_eq_true rfl | (dsimp only; omega)) d_Q_readOpened_63 ⟨(show 0 + 0 + (8 * (rqP (F y1.tape y1.qlen y1.tk).1 (F y1.tape y1.qlen y1.tk).2.1 - y1.qst)) + 1 + 4 ≤ 8 * (rqP (pOp F x.tape x.qlen x.tk).1 (pOp F x.tape x.qlen x.tk).2.1 - x.qst) by omega), (show 0 + 0 + (64 * (rqP (F y1.tape y1.qlen y1.tk).1 (F y1.tape y1.qlen y1.tk).2.1 - y1.qst) + 4 * (cpR g.eN g.sz (F y1.tape y1.qlen y1.tk).2.2.length - g.eN)) + 8 + 6 ≤ 64 * (rqP (pOp F x.tape x.qlen x.tk).1 (pOp F x.tape x.qlen x.tk).2.1 - x.qst) + 4 * (cpR g.eN g.sz (pOp F x.tape x.qlen x.tk).2.2.length - g.eN) by omega)⟩) hP hD hS hA (fun u9 H locs hp9 hP hD hS => ?_)
    obtain ⟨na, ln, lt, mk⟩ := u9
    have hP : va_P D vwCl ([(na, .inl (dA 6, 0, .inr (.inr (.inr (.inr (fun _ => none))))))] ++ ([(ln, .inr (6, [.ref e0, .int 0, .int 0]))] ++ ([(lt, .inr (6, [.ref e0, .int 0, .int 0]))] ++ ([(mk, .inl (dA 1, 0, .inl (fun _ => 0)))] ++ ([(sp, .inr (13, [.int 265, .int (nI x.qst), .long 0, .ref na, .int 0, .ref ln, .ref lt, .ref mk]))] ++ (VW dA h ad y5)))))) H := hP
    have hD : va_D A ([(na, .inl (dA 6, 0, .inr (.inr (.inr (.inr (fun _ => none))))))] ++ ([(ln, .inr (6, [.ref e0, .int 0, .int 0]))] ++ ([(lt, .inr (6, [.ref e0, .int 0, .int 0]))] ++ ([(mk, .inl (dA 1, 0, .inl (fun _ => 0)))] ++ ([(sp, .inr (13, [.int 265, .int (nI x.qst), .long 0, .ref na, .int 0, .ref ln, .ref lt, .ref mk]))] ++ (VW dA h ad y5)))))) := hD
    have hP : va_P D vwCl (VW dA h ad (VS.s_pl y5 (y5.pl ++ ([(na, .inl (dA 6, 0, .inr (.inr (.inr (.inr (fun _ => none))))))] ++ ([(ln, .inr (6, [.ref e0, .int 0, .int 0]))] ++ ([(lt, .inr (6, [.ref e0, .int 0, .int 0]))] ++ ([(mk, .inl (dA 1, 0, .inl (fun _ => 0)))] ++ ([(sp, .inr (13, [.int 265, .int (nI x.qst), .long 0, .ref na, .int 0, .ref ln, .ref lt, .ref mk]))])))))))) H := pmP (show List.Perm (α := Nat × va_E) ([(na, .inl (dA 6, 0, .inr (.inr (.inr (.inr (fun _ => none))))))] ++ ([(ln, .inr (6, [.ref e0, .int 0, .int 0]))] ++ ([(lt, .inr (6, [.ref e0, .int 0, .int 0]))] ++ ([(mk, .inl (dA 1, 0, .inl (fun _ => 0)))] ++ ([(sp, .inr (13, [.int 265, .int (nI x.qst), .long 0, .ref na, .int 0, .ref ln, .ref lt, .ref mk]))] ++ (VW dA h ad y5)))))) (VW dA h ad (VS.s_pl y5 (y5.pl ++ ([(na, .inl (dA 6, 0, .inr (.inr (.inr (.inr (fun _ => none))))))] ++ ([(ln, .inr (6, [.ref e0, .int 0, .int 0]))] ++ ([(lt, .inr (6, [.ref e0, .int 0, .int 0]))] ++ ([(mk, .inl (dA 1, 0, .inl (fun _ => 0)))] ++ ([(sp, .inr (13, [.int 265, .int (nI x.qst), .long 0, .ref na, .int 0, .ref ln, .ref lt, .ref mk]))])))))))) from plP5 (dA := dA) (h := h) (ad := ad) y5 ([(na, .inl (dA 6, 0, .inr (.inr (.inr (.inr (fun _ => none))))))]) ([(ln, .inr (6, [.ref e0, .int 0, .int 0]))]) ([(lt, .inr (6, [.ref e0, .int 0, .int 0]))]) ([(mk, .inl (dA 1, 0, .inl (fun _ => 0)))]) ([(sp, .inr (13, [.int 265, .int (nI x.qst), .long 0, .ref na, .int 0, .ref ln, .ref lt, .ref mk]))])) hP
    have hD : va_D A (VW dA h ad (VS.s_pl y5 (y5.pl ++ ([(na, .inl (dA 6, 0, .inr (.inr (.inr (.inr (fun _ => none))))))] ++ ([(ln, .inr (6, [.ref e0, .int 0, .int 0]))] ++ ([(lt, .inr (6, [.ref e0, .int 0, .int 0]))] ++ ([(mk, .inl (dA 1, 0, .inl (fun _ => 0)))] ++ ([(sp, .inr (13, [.int 265, .int (nI x.qst), .long 0, .ref na, .int 0, .ref ln, .ref lt, .ref mk]))])))))))) := pmD (show List.Perm (α := Nat × va_E) ([(na, .inl (dA 6, 0, .inr (.inr (.inr (.inr (fun _ => none))))))] ++ ([(ln, .inr (6, [.ref e0, .int 0, .int 0]))] ++ ([(lt, .inr (6, [.ref e0, .int 0, .int 0]))] ++ ([(mk, .inl (dA 1, 0, .inl (fun _ => 0)))] ++ ([(sp, .inr (13, [.int 265, .int (nI x.qst), .long 0, .ref na, .int 0, .ref ln, .ref lt, .ref mk]))] ++ (VW dA h ad y5)))))) (VW dA h ad (VS.s_pl y5 (y5.pl ++ ([(na, .inl (dA 6, 0, .inr (.inr (.inr (.inr (fun _ => none))))))] ++ ([(ln, .inr (6, [.ref e0, .int 0, .int 0]))] ++ ([(lt, .inr (6, [.ref e0, .int 0, .int 0]))] ++ ([(mk, .inl (dA 1, 0, .inl (fun _ => 0)))] ++ ([(sp, .inr (13, [.int 265, .int (nI x.qst), .long 0, .ref na, .int 0, .ref ln, .ref lt, .ref mk]))])))))))) from plP5 (dA := dA) (h := h) (ad := ad) y5 ([(na, .inl (dA 6, 0, .inr (.inr (.inr (.inr (fun _ => none))))))]) ([(ln, .inr (6, [.ref e0, .int 0, .int 0]))]) ([(lt, .inr (6, [.ref e0, .int 0, .int 0]))]) ([(mk, .inl (dA 1, 0, .inl (fun _ => 0)))]) ([(sp, .inr (13, [.int 265, .int (nI x.qst), .long 0, .ref na, .int 0, .ref ln, .ref lt, .ref mk]))])) hD
    obtain ⟨pl10, e_pl10⟩ : ∃ z9, z9 = y5.pl ++ ([(na, .inl (dA 6, 0, .inr (.inr (.inr (.inr (fun _ => none))))))] ++ ([(ln, .inr (6, [.ref e0, .int 0, .int 0]))] ++ ([(lt, .inr (6, [.ref e0, .int 0, .int 0]))] ++ ([(mk, .inl (dA 1, 0, .inl (fun _ => 0)))] ++ ([(sp, .inr (13, [.int 265, .int (nI x.qst), .long 0, .ref na, .int 0, .ref ln, .ref lt, .ref mk]))]))))) := ⟨_, rfl⟩
    rw [← e_pl10] at hP hD
    have s_pl10 : ∀ c, c ∈ y5.pl → c ∈ pl10 := by rw [e_pl10]; exact fun _ hm => List.mem_append_left _ hm
    have t_pl10_0 : ((na, .inl (dA 6, 0, .inr (.inr (.inr (.inr (fun _ => none)))))) : Nat × va_E) ∈ pl10 := by rw [e_pl10]; exact List.mem_append_right _ (List.mem_of_getElem? (i := 0) rfl)
    have t_pl10_1 : ((ln, .inr (6, [.ref e0, .int 0, .int 0])) : Nat × va_E) ∈ pl10 := by rw [e_pl10]; exact List.mem_append_right _ (List.mem_of_getElem? (i := 1) rfl)
    have t_pl10_2 : ((lt, .inr (6, [.ref e0, .int 0, .int 0])) : Nat × va_E) ∈ pl10 := by rw [e_pl10]; exact List.mem_append_right _ (List.mem_of_getElem? (i := 2) rfl)
    have t_pl10_3 : ((mk, .inl (dA 1, 0, .inl (fun _ => 0))) : Nat × va_E) ∈ pl10 := by rw [e_pl10]; exact List.mem_append_right _ (List.mem_of_getElem? (i := 3) rfl)
    have t_pl10_4 : ((sp, .inr (13, [.int 265, .int (nI x.qst), .long 0, .ref na, .int 0, .ref ln, .ref lt, .ref mk])) : Nat × va_E) ∈ pl10 := by rw [e_pl10]; exact List.mem_append_right _ (List.mem_of_getElem? (i := 4) rfl)
    have hP : va_P D vwCl (VW dA h ad (VS.s_pl y5 pl10)) H := hP
    have hD : va_D A (VW dA h ad (VS.s_pl y5 pl10)) := hD
    obtain ⟨y6, e_y6⟩ : ∃ w9, w9 = VS.s_pl y5 pl10 := ⟨_, rfl⟩
    rw [← e_y6] at hP hD
    have hP : va_P D vwCl (VW dA h ad y6) H := hP
    have hD : va_D A (VW dA h ad y6) := hD
    have pk6 : y5.pk y6 := by rw [e_y6]; exact ⟨rfl, s_pl10⟩
    have ep6 : y6.pl = pl10 := by rw [e_y6]
    have hp6 := pq_pk hp5 pk6
    have ms6 : (sp, .inr (13, [.int 265, .int (nI x.qst), .long 0, .ref na, .int 0, .ref ln, .ref lt, .ref mk])) ∈ y6.pl := by rw [ep6]; exact t_pl10_4
    have is6 : isSP dA y6.pl sp (spO 265 x.qst 0) := by rw [ep6]; exact isSP_o t_pl10_4 t_pl10_0 t_pl10_1 t_pl10_2 t_pl10_3
    have hl6 : y6.ll = LqW dA sa gy5 ++ r := hp6.2.2.1.2.1
    have b4 : gy5.sz = g.sz + (F x.tape x.qlen (nxT x.tape x.qlen x.tk)).2.2.length := hp6.2.2.2.1
    have b5 : gy5.eN = cpR g.eN g.sz (F y1.tape y1.qlen y1.tk).2.2.length := by rw [eRF]; exact hp6.2.2.2.2.1
    have b3 := gq_S gy5
    have b6 := gdx.2.2
    have b7 := hw.2.2.2
    have ey6 : y6.qst = (F x.tape x.qlen (nxT x.tape x.qlen x.tk)).2.1.2.1 := congrArg (fun q : TKQ => q.2.1) hp6.2.1
    have b8 : gy5.sz < y6.qst := by omega
    have b9 : gqN gy5 = cpR g.eN g.sz (pOp F x.tape x.qlen x.tk).2.2.length := by rw [lF, eRF]; show gqN gy5 = (if _ then _ else _); rw [← eRF, ← b5, show g.sz + (F y1.tape y1.qlen y1.tk).2.2.length = gy5.sz by rw [eRF]; omega]; rfl
    rw [← hsa]
    have hP := pmP (show List.Perm (α := Nat × va_E) (VW dA h ad y6) (LqW dA sa gy5 ++ (VW dA h ad (VS.s_ll y6 r))) from llP (dA := dA) (h := h) (ad := ad) (x := y6) (L := LqW dA sa gy5) (r := r) hl6) hP
    have hD := pmD (show List.Perm (α := Nat × va_E) (VW dA h ad y6) (LqW dA sa gy5 ++ (VW dA h ad (VS.s_ll y6 r))) from llP (dA := dA) (h := h) (ad := ad) (x := y6) (L := LqW dA sa gy5) (r := r) hl6) hD
    have hP : va_P D vwCl (LqW dA sa gy5 ++ (VW dA h ad (VS.s_ll y6 r))) H := hP
    have hD : va_D A (LqW dA sa gy5 ++ (VW dA h ad (VS.s_ll y6 r))) := hD
    refine jkI (wr := []) (rnVy (As := [.ref sp]) (rest := []) hx hb hml hown hE hK hZ hT hM hS (hN _ _ hS) hP hD (v_LaddQ_E l D dA H.size e0 mi (VW dA h ad (VS.s_ll y6 r)) sa gy5 sp ([.int 265, .int (nI x.qst), .long 0, .ref na, .int 0, .ref ln, .ref lt, .ref mk]) hp6.2.2.1.2.2.1.1 (fun i hi y hy => by obtain ⟨vs, hv⟩ := hp6.2.2.1.2.2.1.2 i hi y hy; have h9 : (y, .inr (13, vs)) ∈ (VS.s_ll y6 r).pl := hv; exact ⟨vs, (fun _ hm => (plm hm)) _ h9⟩) (by have h9 : (sp, .inr (13, [.int 265, .int (nI x.qst), .long 0, .ref na, .int 0, .ref ln, .ref lt, .ref mk])) ∈ (VS.s_ll y6 r).pl := ms6; exact ((fun _ hm => (plm hm)) _ h9))) (q0 := 0) rfl rfl w812 w1653 w813 w814 w680 rfl rfl ⟨⟨by decide, by decide⟩, rfl⟩ ⟨(by first | exact Nat.le_of_ble_eq_true rfl | (dsimp only; omega)), (by first | exact Nat.le_of_ble_eq_true rfl | (dsimp only; omega))⟩ rfl hl.1 rfl (by first | exact Nat.le_of_ble_eq_true rfl | (dsimp only; omega)) d_Q_readOpened_66 ⟨(show 0 + 0 + (8 * (rqP (F y1.tape y1.qlen y1.tk).1 (F y1.tape y1.qlen y1.tk).2.1 - y1.qst)) + 1 + 4 + 1 ≤ 8 * (rqP (pOp F x.tape x.qlen x.tk).1 (pOp F x.tape x.qlen x.tk).2.1 - x.qst) by omega), (show 0 + 0 + (64 * (rqP (F y1.tape y1.qlen y1.tk).1 (F y1.tape y1.qlen y1.tk).2.1 - y1.qst) + 4 * (cpR g.eN g.sz (F y1.tape y1.qlen y1.tk).2.2.length - g.eN)) + 8 + 6 + (gqS gy5) ≤ 64 * (rqP (pOp F x.tape x.qlen x.tk).1 (pOp F x.tape x.qlen x.tk).2.1 - x.qst) + 4 * (cpR g.eN g.sz (pOp F x.tape x.qlen x.tk).2.2.length - g.eN) by omega)⟩) hP hD hS hA (fun r11 u12 H locs hp9 hP hD hS => ?_)
    obtain ⟨gy3, h9u⟩ : ∃ z9, z9 = u12 := ⟨_, rfl⟩
    subst h9u
    have hP : va_P D vwCl (LqW dA sa gy3 ++ (VW dA h ad (VS.s_ll y6 r))) H := hP
    have hD : va_D A (LqW dA sa gy3 ++ (VW dA h ad (VS.s_ll y6 r))) := hD
    obtain ⟨hp9, f_f_13⟩ := hp9
    replace hp9 : 1 = r11 := Eq.symm hp9
    subst hp9
    refine lv_pop hx hb d_Q_readOpened_69 rfl ?_
    refine lv_iload hx hb d_Q_readOpened_70 (lv_at hl 0 rfl) ?_
    have hP := pmP (show List.Perm (α := Nat × va_E) (LqW dA sa gy3 ++ (VW dA h ad (VS.s_ll y6 r))) (VW dA h ad (VS.s_ll y6 (LqW dA sa gy3 ++ r))) from (llP (dA := dA) (h := h) (ad := ad) (x := (VS.s_ll y6 (LqW dA sa gy3 ++ r))) (L := LqW dA sa gy3) (r := r) rfl).symm) hP
    have hD := pmD (show List.Perm (α := Nat × va_E) (LqW dA sa gy3 ++ (VW dA h ad (VS.s_ll y6 r))) (VW dA h ad (VS.s_ll y6 (LqW dA sa gy3 ++ r))) from (llP (dA := dA) (h := h) (ad := ad) (x := (VS.s_ll y6 (LqW dA sa gy3 ++ r))) (L := LqW dA sa gy3) (r := r) rfl).symm) hD
    have hP : va_P D vwCl (VW dA h ad (VS.s_ll y6 (LqW dA sa gy3 ++ r))) H := hP
    have hD : va_D A (VW dA h ad (VS.s_ll y6 (LqW dA sa gy3 ++ r))) := hD
    obtain ⟨y7, e_y7⟩ : ∃ w9, w9 = VS.s_ll y6 (LqW dA sa gy3 ++ r) := ⟨_, rfl⟩
    rw [← e_y7] at hP hD
    have hP : va_P D vwCl (VW dA h ad y7) H := hP
    have hD : va_D A (VW dA h ad y7) := hD
    have hp7 := pq_add (s := spO 265 x.qst 0) (n := y6.qlen) hp6 ms6 (fun _ => is6) f_f_13 e_y7 (Nat.le_refl _) hp6.2.2.1.1.2.2.2.1 b8
    exact rfZ hx hb hr (bI_nar ((F y1.tape y1.qlen y1.tk).1)) hlk hS (⟨y7, gy3⟩) ⟨by rw [E0, eRF], by rw [E0]; exact hp7⟩ hP hD (show 0 + 0 + (8 * (rqP (F y1.tape y1.qlen y1.tk).1 (F y1.tape y1.qlen y1.tk).2.1 - y1.qst)) + 1 + 4 + 1 ≤ 8 * (rqP (pOp F x.tape x.qlen x.tk).1 (pOp F x.tape x.qlen x.tk).2.1 - x.qst) by omega) (show 0 + 0 + (64 * (rqP (F y1.tape y1.qlen y1.tk).1 (F y1.tape y1.qlen y1.tk).2.1 - y1.qst) + 4 * (cpR g.eN g.sz (F y1.tape y1.qlen y1.tk).2.2.length - g.eN)) + 8 + 6 + (gqS gy5) ≤ 64 * (rqP (pOp F x.tape x.qlen x.tk).1 (pOp F x.tape x.qlen x.tk).2.1 - x.qst) + 4 * (cpR g.eN g.sz (pOp F x.tape x.qlen x.tk).2.2.length - g.eN) by omega) d_Q_readOpened_72
  · have g4 := g4
    refine lv_aload_n hx hb d_Q_readOpened_20 rfl (lv_at hl 2 rfl) ?_
    refine lv_iload_n hx hb d_Q_readOpened_21 rfl (lv_at hl 3 rfl) ?_
    obtain ⟨hk_y1, qq_y1, tk_y1⟩ := qok_adv hw.1 f_e_3
    have kf1 : y1.tape = x.tape ∧ y1.qlen = x.qlen := ⟨(qr_f (qp_qr qq_y1)).2.2.1, (qr_f (qp_qr qq_y1)).2.1⟩
    have tn1 := nx_ok (f := x.tape) tx0.2.1
    have ey1 : y1.qst = (nxT x.tape x.qlen x.tk).2.1 := congrArg (fun q : TKQ => q.2.1) tk_y1
    have st1 : x.qen ≤ (nxT x.tape x.qlen x.tk).2.1 := tn1.2
    have w1 : VS.pw dA e0 sa r y1 g := pw_nx hw qq_y1 hk_y1 (by omega)
    have E0 : pOp F x.tape x.qlen x.tk = pOc x.tape x.qlen (pEx (pTm F) x.tape x.qlen (nxT x.tape x.qlen x.tk)) := pOp_b g4
    have eRE : pEx (pTm F) y1.tape y1.qlen y1.tk = pEx (pTm F) x.tape x.qlen (nxT x.tape x.qlen x.tk) := by rw [kf1.1, kf1.2, tk_y1]
    have gde := pEx_g (pTm_g hgF) x.tape x.qlen _ tn1.1
    obtain ⟨-, oc2, oc3⟩ := pOc_P (f := x.tape) gde
    rw [← E0] at oc2 oc3
    have rE : rqP (pEx (pTm F) y1.tape y1.qlen y1.tk).1 (pEx (pTm F) y1.tape y1.qlen y1.tk).2.1 = rqP (pEx (pTm F) x.tape x.qlen (nxT x.tape x.qlen x.tk)).1 (pEx (pTm F) x.tape x.qlen (nxT x.tape x.qlen x.tk)).2.1 := by rw [eRE]
    have lE : (pEx (pTm F) y1.tape y1.qlen y1.tk).2.2.length = (pOp F x.tape x.qlen x.tk).2.2.length := by rw [eRE, oc3]
    have cE : cpR g.eN g.sz (pEx (pTm F) y1.tape y1.qlen y1.tk).2.2.length = cpR g.eN g.sz (pOp F x.tape x.qlen x.tk).2.2.length := by rw [lE]
    have sE := gde.2.1
    have sE2 := tn1.1.1
    refine jkI (wr := []) (rnVs (As := [.int (nI o)]) (rest := []) hx hb hml hown hE hK hZ hT hM hQ hS (hN _ _ hS) hP hD (hX l D dA H.size e0 mi kA vA fm h ad sa g r y1 hsa w1) (q0 := 36) rfl rfl w689 w688 w690 w691 w665 rfl rfl ⟨⟨by decide, by decide⟩, rfl⟩ ⟨(by first | exact Nat.le_of_ble_eq_true rfl | (dsimp only; omega)), (by first | exact Nat.le_of_ble_eq_true rfl | (dsimp only; omega))⟩ rfl hl.1 rfl (by first | exact Nat.le_of_ble_eq_true rfl | (dsimp only; omega)) d_Q_readOpened_22 ⟨(show 0 + 0 + (8 * (rqP (pEx (pTm F) y1.tape y1.qlen y1.tk).1 (pEx (pTm F) y1.tape y1.qlen y1.tk).2.1 - y1.qst)) ≤ 8 * (rqP (pOp F x.tape x.qlen x.tk).1 (pOp F x.tape x.qlen x.tk).2.1 - x.qst) by omega), (show 0 + 0 + (64 * (rqP (pEx (pTm F) y1.tape y1.qlen y1.tk).1 (pEx (pTm F) y1.tape y1.qlen y1.tk).2.1 - y1.qst) + 4 * (cpR g.eN g.sz (pEx (pTm F) y1.tape y1.qlen y1.tk).2.2.length - g.eN)) ≤ 64 * (rqP (pOp F x.tape x.qlen x.tk).1 (pOp F x.tape x.qlen x.tk).2.1 - x.qst) + 4 * (cpR g.eN g.sz (pOp F x.tape x.qlen x.tk).2.2.length - g.eN) by omega)⟩) hP hD hS hA (fun r14 u15 H locs hp9 hP hD hS => ?_)
    obtain ⟨y2, gy2⟩ := u15
    have hP : va_P D vwCl (VW dA h ad y2) H := hP
    have hD : va_D A (VW dA h ad y2) := hD
    obtain ⟨hp9, f_p_16⟩ := hp9
    replace hp9 : bI (pEx (pTm F) y1.tape y1.qlen y1.tk).1 = r14 := Eq.symm hp9
    subst hp9
    have hp2 := pq_pre (qp_qr qq_y1) f_p_16
    rw [eRE] at hp2
    refine lv_if_eq hx hb d_Q_readOpened_25 (tgt := 41) rfl (fun g17 => ?_) (fun g17 => ?_)
    · have g17 := bI_0 g17
      refine lv_iconst (v := 0) hx hb d_Q_readOpened_41 (by decide) ?_
      exact rfZ hx hb hr (bI_nar false) hlk hS (⟨y2, gy2⟩) (by have E1 := E0.trans (pOc_f (by rw [← eRE]; exact g17)); exact ⟨by rw [E1, ← eRE, g17]; rfl, by rw [E1]; exact hp2⟩) hP hD (show 0 + 0 + (8 * (rqP (pEx (pTm F) y1.tape y1.qlen y1.tk).1 (pEx (pTm F) y1.tape y1.qlen y1.tk).2.1 - y1.qst)) ≤ 8 * (rqP (pOp F x.tape x.qlen x.tk).1 (pOp F x.tape x.qlen x.tk).2.1 - x.qst) by omega) (show 0 + 0 + (64 * (rqP (pEx (pTm F) y1.tape y1.qlen y1.tk).1 (pEx (pTm F) y1.tape y1.qlen y1.tk).2.1 - y1.qst) + 4 * (cpR g.eN g.sz (pEx (pTm F) y1.tape y1.qlen y1.tk).2.2.length - g.eN)) ≤ 64 * (rqP (pOp F x.tape x.qlen x.tk).1 (pOp F x.tape x.qlen x.tk).2.1 - x.qst) + 4 * (cpR g.eN g.sz (pOp F x.tape x.qlen x.tk).2.2.length - g.eN) by omega) d_Q_readOpened_42
    · have g17 := bI_n0 g17
      refine lv_aload_n hx hb d_Q_readOpened_28 rfl (lv_at hl 2 rfl) ?_
      refine lv_bipush (v := 41) hx hb d_Q_readOpened_29 (by decide) ?_
      have kb_y2 : y2.qst ≤ y2.qen ∧ y2.qen ≤ y2.qlen ∧ y2.qlen ≤ y2.tpN ∧ y2.tpN ≤ 131072 ∧ y2.qlen ≤ 16384 := ⟨hp2.2.2.1.1.2.2.2.2.2.1, hp2.2.2.1.1.2.2.2.2.2.2.1, hp2.2.2.1.1.2.1, hp2.2.2.1.1.2.2.1, hp2.2.2.1.1.2.2.2.1⟩
      have kq_y2 : y2.qtp = y2.tpA := hp2.2.2.1.1.1
      refine jkI (wr := []) (rnV (As := [.int 41]) (rest := []) hx hb hml hown hE hK (hN _ _ hS) hP hD (v_Qtake l D dA H.size h ad y2 41 kq_y2 (show y2.qlen ≤ y2.tpN from by omega) (show y2.tpN ≤ 131072 from by omega) (show y2.qen ≤ y2.qlen from by omega) (show y2.qst ≤ y2.qlen from by omega)) (q0 := 36) rfl rfl w1655 w1654 w1656 w1657 w665 rfl rfl ⟨⟨by decide, by decide⟩, rfl⟩ ⟨(by first | exact Nat.le_of_ble_eq_true rfl | (dsimp only; omega)), (by first | exact Nat.le_of_ble_eq_true rfl | (dsimp only; omega))⟩ rfl hl.1 rfl (by first | exact Nat.le_of_ble_eq_true rfl | (dsimp only; omega)) d_Q_readOpened_31 ⟨(show 0 + 0 + (8 * (rqP (pEx (pTm F) y1.tape y1.qlen y1.tk).1 (pEx (pTm F) y1.tape y1.qlen y1.tk).2.1 - y1.qst)) + 0 ≤ 8 * (rqP (pOp F x.tape x.qlen x.tk).1 (pOp F x.tape x.qlen x.tk).2.1 - x.qst) by omega), (show 0 + 0 + (64 * (rqP (pEx (pTm F) y1.tape y1.qlen y1.tk).1 (pEx (pTm F) y1.tape y1.qlen y1.tk).2.1 - y1.qst) + 4 * (cpR g.eN g.sz (pEx (pTm F) y1.tape y1.qlen y1.tk).2.2.length - g.eN)) + 0 ≤ 64 * (rqP (pOp F x.tape x.qlen x.tk).1 (pOp F x.tape x.qlen x.tk).2.1 - x.qst) + 4 * (cpR g.eN g.sz (pOp F x.tape x.qlen x.tk).2.2.length - g.eN) by omega)⟩) hP hD hS hA (fun r18 u19 H locs hp9 hP hD hS => ?_)
      obtain ⟨y3, h9u⟩ : ∃ z9, z9 = u19 := ⟨_, rfl⟩
      subst h9u
      have hP : va_P D vwCl (VW dA h ad y3) H := hP
      have hD : va_D A (VW dA h ad y3) := hD
      obtain ⟨hp9, f_e_20⟩ := hp9
      replace hp9 : bI (decide (y2.qk = 41)) = r18 := Eq.symm hp9
      subst hp9
      obtain ⟨hk_y3, qq_y3, tk_y3⟩ := qok_take hp2.2.2.1.1 f_e_20
      have kf2 : y2.tape = x.tape ∧ y2.qlen = x.qlen := ⟨(qr_f hp2.1).2.2.1, (qr_f hp2.1).2.1⟩
      have tt3 : y3.tk = (tkT x.tape x.qlen (pEx (pTm F) x.tape x.qlen (nxT x.tape x.qlen x.tk)).2.1 41).2 := by rw [tk_y3, kf2.1, kf2.2, hp2.2.1]
      have sm3 : y2.qst ≤ y3.qst := by have e9 := (tk_P (f := y2.tape) (n := y2.qlen) (t := y2.tk) (k := 41) hp2.2.2.1.1.2.2.2.2.2).2.2; rw [← tk_y3] at e9; exact e9
      refine lv_if_eq hx hb d_Q_readOpened_34 (tgt := 41) rfl (fun g21 => ?_) (fun g21 => ?_)
      · have g21 := bI_0 g21
        refine lv_iconst (v := 0) hx hb d_Q_readOpened_41 (by decide) ?_
        exact rfZ hx hb hr (bI_nar false) hlk hS (⟨y3, gy2⟩) (by have E1 := E0.trans (pOc_t (show (pEx (pTm F) x.tape x.qlen (nxT x.tape x.qlen x.tk)).1 = true by rw [← eRE]; exact g17)); have T1 : (tkT x.tape x.qlen (pEx (pTm F) x.tape x.qlen (nxT x.tape x.qlen x.tk)).2.1 41).1 = false := tk_b (by rw [← hp2.2.1]; exact g21); exact ⟨by rw [E1]; show _ = bI (tkT x.tape x.qlen (pEx (pTm F) x.tape x.qlen (nxT x.tape x.qlen x.tk)).2.1 41).1; rw [T1]; rfl, by rw [E1]; exact pq_tk hp2 (show (pEx (pTm F) x.tape x.qlen (nxT x.tape x.qlen x.tk)).1 = true by rw [← eRE]; exact g17) qq_y3 hk_y3 tt3 sm3⟩) hP hD (show 0 + 0 + (8 * (rqP (pEx (pTm F) y1.tape y1.qlen y1.tk).1 (pEx (pTm F) y1.tape y1.qlen y1.tk).2.1 - y1.qst)) + 0 ≤ 8 * (rqP (pOp F x.tape x.qlen x.tk).1 (pOp F x.tape x.qlen x.tk).2.1 - x.qst) by omega) (show 0 + 0 + (64 * (rqP (pEx (pTm F) y1.tape y1.qlen y1.tk).1 (pEx (pTm F) y1.tape y1.qlen y1.tk).2.1 - y1.qst) + 4 * (cpR g.eN g.sz (pEx (pTm F) y1.tape y1.qlen y1.tk).2.2.length - g.eN)) + 0 ≤ 64 * (rqP (pOp F x.tape x.qlen x.tk).1 (pOp F x.tape x.qlen x.tk).2.1 - x.qst) + 4 * (cpR g.eN g.sz (pOp F x.tape x.qlen x.tk).2.2.length - g.eN) by omega) d_Q_readOpened_42
      · have g21 := bI_n0 g21
        refine lv_iconst (v := 1) hx hb d_Q_readOpened_37 (by decide) ?_
        refine lv_goto hx hb d_Q_readOpened_38 (tgt := 42) rfl ?_
        exact rfZ hx hb hr (bI_nar true) hlk hS (⟨y3, gy2⟩) (by have E1 := E0.trans (pOc_t (show (pEx (pTm F) x.tape x.qlen (nxT x.tape x.qlen x.tk)).1 = true by rw [← eRE]; exact g17)); have T1 : (tkT x.tape x.qlen (pEx (pTm F) x.tape x.qlen (nxT x.tape x.qlen x.tk)).2.1 41).1 = true := tk_b (by rw [← hp2.2.1]; exact g21); exact ⟨by rw [E1]; show _ = bI (tkT x.tape x.qlen (pEx (pTm F) x.tape x.qlen (nxT x.tape x.qlen x.tk)).2.1 41).1; rw [T1]; rfl, by rw [E1]; exact pq_tk hp2 (show (pEx (pTm F) x.tape x.qlen (nxT x.tape x.qlen x.tk)).1 = true by rw [← eRE]; exact g17) qq_y3 hk_y3 tt3 sm3⟩) hP hD (show 0 + 0 + (8 * (rqP (pEx (pTm F) y1.tape y1.qlen y1.tk).1 (pEx (pTm F) y1.tape y1.qlen y1.tk).2.1 - y1.qst)) + 0 ≤ 8 * (rqP (pOp F x.tape x.qlen x.tk).1 (pOp F x.tape x.qlen x.tk).2.1 - x.qst) by omega) (show 0 + 0 + (64 * (rqP (pEx (pTm F) y1.tape y1.qlen y1.tk).1 (pEx (pTm F) y1.tape y1.qlen y1.tk).2.1 - y1.qst) + 4 * (cpR g.eN g.sz (pEx (pTm F) y1.tape y1.qlen y1.tk).2.2.length - g.eN)) + 0 ≤ 64 * (rqP (pOp F x.tape x.qlen x.tk).1 (pOp F x.tape x.qlen x.tk).2.1 - x.qst) + 4 * (cpR g.eN g.sz (pOp F x.tape x.qlen x.tk).2.2.length - g.eN) by omega) d_Q_readOpened_42
end
