section
/-! A fault stops the class's reading. -/
/-- with a fault the token is none -/
def gtT (t : TKQ) : Prop := ¬ t.2.2.2.2.1 = 0 → t.1 = 263
def gtP (b : Bool) (u : TKQ) : Prop := b = true → gtT u
section GT
variable {f : Nat → Int32} {n : Nat} {t : TKQ}
theorem gt_0 (h : t.2.2.2.2.1 = 0) : gtT t := fun e => absurd h e
theorem gt_k {k : Int32} (h : gtT t) (e : t.1 = k) (hk : ¬ k = 263) : t.2.2.2.2.1 = 0 := by
  by_cases c : t.2.2.2.2.1 = 0
  · exact c
  · exact absurd (e.symm.trans (h c)) hk
theorem nxT_g (h : t.2.2.2.2.1 = 0) : gtT (nxT f n t) := by
  unfold nxT adX
  split
  · rename_i g
    intro _
    rw [rfT_0 (t := mkT _ t) h]
    exact g
  · exact gt_0 h
theorem nx_g {k : Int32} (h : gtT t) (e : t.1 = k) (hk : ¬ k = 263) : gtT (nxT f n t) := nxT_g (gt_k h e hk)
theorem tkT_g {k : Int32} (h : gtT t) (hk : ¬ k = 263) : gtP (tkT f n t k).1 (tkT f n t k).2 := by
  unfold tkT
  split
  · rename_i g
    exact fun _ => nx_g h g hk
  · exact fun e => by cases e
theorem rnG_g : ∀ {w : Nat} {t : TKQ} {k : Nat} {NL : Nat → List Int32}, gtT t → gtP (rnG f n w t k NL).1 (rnG f n w t k NL).2.1
  | 0, t, k, NL, h => fun e => by cases e
  | w + 1, t, k, NL, h => by
    unfold rnG
    split
    · exact fun e => by cases e
    · rename_i g
      have g := Classical.not_not.mp g
      have h1 : gtT (nxT f n t) := nx_g h g (by decide)
      split
      · exact fun e => by cases e
      · split
        · exact fun _ => h1
        · rename_i g2
          exact rnG_g (nx_g h1 (Classical.not_not.mp g2) (by decide))
theorem isMk_n {z : Int32} (h : ¬ isMk z = false) : ¬ z = 263 := fun e => h (by rw [e]; decide)
theorem rmG_g : ∀ {w : Nat} {t : TKQ} {k : Nat} {KD : Nat → Int32} {MN MT : Nat → List Int32}, gtT t → gtP (rmG f n w t k KD MN MT).1 (rmG f n w t k KD MN MT).2.1 := by
  intro w
  induction w with
  | zero => intro t k KD MN MT h e; exact Bool.noConfusion e
  | succ w ih =>
    intro t k KD MN MT h
    obtain ⟨t1, e1⟩ : ∃ t1, t1 = nxT f n t := ⟨_, rfl⟩
    obtain ⟨t2, e2⟩ : ∃ t2, t2 = nxT f n t1 := ⟨_, rfl⟩
    obtain ⟨t3, e3⟩ : ∃ t3, t3 = nxT f n t2 := ⟨_, rfl⟩
    obtain ⟨t4, e4⟩ : ∃ t4, t4 = nxT f n t3 := ⟨_, rfl⟩
    by_cases g1 : t.1 = 258
    · have h1 : gtT t1 := by rw [e1]; exact nx_g h g1 (by decide)
      by_cases g2 : isMk t1.1 = false
      · rw [rm_m g1 e1 g2]
        exact fun e => Bool.noConfusion e
      · have h2 : gtT t2 := by rw [e2]; exact nx_g h1 rfl (isMk_n g2)
        by_cases g3 : t2.1 = 259
        · have h3 : gtT t3 := by rw [e3]; exact nx_g h2 g3 (by decide)
          by_cases g4 : t3.1 = 44
          · have h4 : gtT t4 := by rw [e4]; exact nx_g h3 g4 (by decide)
            rw [rm_s g1 e1 g2 e2 g3 e3 g4 e4]
            exact ih h4
          · rw [rm_e g1 e1 g2 e2 g3 e3 g4]
            exact fun _ => h3
        · rw [rm_t g1 e1 g2 e2 g3]
          exact fun e => Bool.noConfusion e
    · rw [rm_k g1]
      exact fun e => Bool.noConfusion e
theorem byT_g (h : gtT t) : gtP (byT f n t).1 (byT f n t).2.1 := by
  unfold byT
  split
  · rename_i g
    have h1 := tkT_g (f := f) (n := n) (k := 40) h (by decide) g
    unfold byC
    split
    · rename_i g2
      exact tkT_g (rnG_g h1 g2) (by decide)
    · rename_i g2
      exact fun e => absurd e g2
  · exact fun e => by cases e
theorem fbT_g (h : gtT t) : gtP (fbT f n t).1 (fbT f n t).2.1 := by
  unfold fbT
  split
  · rename_i g
    exact byT_g (nx_g h g.1 (by decide))
  · exact fun _ => h
theorem tlT_g (h : gtT t) : gtP (tlT f n t).1 (tlT f n t).2.1 := by
  unfold tlT
  split
  · rename_i g
    have h1 := tkT_g (f := f) (n := n) (k := 40) h (by decide) g
    unfold tlB
    split
    · rename_i g1
      have h2 := tkT_g (f := f) (n := n) (k := 123) h1 (by decide) g1
      have h3 : gtP (msT f n (tkT f n (tkT f n t 40).2 123).2).1 (msT f n (tkT f n (tkT f n t 40).2 123).2).2.1 := by
        unfold msT
        split
        · exact fun _ => h2
        · exact rmG_g h2
      unfold tlC
      split
      · rename_i g2
        have h4 := tkT_g (f := f) (n := n) (k := 125) (h3 g2) (by decide)
        unfold tlD
        split
        · rename_i g3
          exact tkT_g (h4 g3) (by decide)
        · rename_i g3
          exact fun e => absurd e g3
      · rename_i g2
        exact fun e => absurd e g2
    · exact fun e => by cases e
  · exact fun e => by cases e
theorem pFn_gt (h : gtT t) (h0 : t.1 = 258) : gtP (pFn f n t).1 (pFn f n t).2.1 := by
  unfold pFn
  split
  · exact fun e => by cases e
  · unfold pfB
    split
    · rename_i g
      exact tlT_g (fbT_g (nx_g h h0 (by decide)) g)
    · exact fun e => by cases e
/-- a reader that keeps this -/
def gFq (F : PF) : Prop := ∀ (f : Nat → Int32) (n : Nat) (t : TKQ), (gtT t → gtP (F f n t).1 (F f n t).2.1) ∧ (t.1 = 263 → ¬ t.2.2.2.2.1 = 0 → ∃ X, F f n t = (false, t, X))
theorem opL_g {F : PF} {P : Int32 → Bool} (hF : gFq F) (hP : P 263 = false) : ∀ {w : Nat} {r : PR}, gtP r.1 r.2.1 → gtP (opL F P f n w r).1 (opL F P f n w r).2.1
  | 0, r, h => h
  | w + 1, r, h => by
    unfold opL
    split
    · rename_i g
      have c : ¬ r.2.1.1 = 263 := fun e => by rw [e, hP] at g; exact absurd g.2 (by decide)
      exact opL_g hF hP (w := w) (r := opS F f n r) ((hF f n (nxT f n r.2.1)).1 (nx_g (h g.1) rfl c))
    · exact h
theorem opL_x {F : PF} {P : Int32 → Bool} : ∀ {w : Nat} {r : PR}, ∃ X, (opL F P f n w r).2.2 = r.2.2 ++ X
  | 0, r => ⟨[], (List.append_nil _).symm⟩
  | w + 1, r => by
    unfold opL
    split
    · obtain ⟨X, e⟩ := opL_x (F := F) (P := P) (w := w) (r := opS F f n r)
      exact ⟨_, by rw [e]; exact List.append_assoc _ _ _⟩
    · exact ⟨[], (List.append_nil _).symm⟩
/-- behind a fault nothing is read -/
theorem opL_b {F : PF} {P : Int32 → Bool} (hP : P 263 = false) {w : Nat} {r : PR} (h : gtP r.1 r.2.1) (hc : ¬ r.2.1.2.2.2.2.1 = 0) : opL F P f n w r = r := by
  cases w with
  | zero => rfl
  | succ w =>
    unfold opL
    split
    · rename_i g
      rw [h g.1 hc, hP] at g
      exact absurd g.2 (by decide)
    · rfl
theorem opF_g {F : PF} {P : Int32 → Bool} (hF : gFq F) (hP : P 263 = false) : gFq (fun f n t => opL F P f n n (F f n t)) := fun f n t => ⟨fun h => opL_g hF hP ((hF f n t).1 h), fun h hc => by
  obtain ⟨X, e⟩ := (hF f n t).2 h hc
  refine ⟨X, ?_⟩
  show opL F P f n n (F f n t) = _
  rw [e]
  exact opL_b hP (fun e => by cases e) hc⟩
theorem pFc_gF {O : PF} (hO : ∀ (f : Nat → Int32) (n : Nat) (t : TKQ), isOo t.1 → gtT t → gtP (O f n t).1 (O f n t).2.1) : gFq (pFc O) := fun f n t => ⟨fun h => by
  unfold pFc
  split
  · rename_i g
    exact fun _ => nx_g h g (by decide)
  · split
    · rename_i g
      exact pFn_gt h g
    · split
      · rename_i g
        exact hO f n t g h
      · exact fun e => Bool.noConfusion e, fun h hc => ⟨[], by
    unfold pFc
    rw [if_neg (by rw [h]; decide), if_neg (by rw [h]; decide), if_neg (by rw [h]; decide), rfT_1 hc]⟩⟩
theorem pOp_gt {F : PF} (hF : gFq F) {f : Nat → Int32} {n : Nat} {t : TKQ} (h0 : isOo t.1) (h : gtT t) : gtP (pOp F f n t).1 (pOp F f n t).2.1 := by
  have h1 : gtT (nxT f n t) := by
    rcases h0 with e | e
    · exact nx_g h e (by decide)
    · exact nx_g h e (by decide)
  unfold pOp
  split
  · have h2 := (opF_g (opF_g hF (P := isTq) (by decide)) (P := isAd) (by decide) f n (nxT f n t)).1 h1
    unfold pOc
    split
    · rename_i g
      exact tkT_g (h2 g) (by decide)
    · rename_i g
      exact fun e => absurd e g
  · exact (hF f n (nxT f n t)).1 h1
theorem pFd_gF : ∀ d, gFq (pFd d)
  | 0 => pFc_gF (fun f n t _ _ => fun e => by cases e)
  | d + 1 => pFc_gF (fun f n t h0 h => pOp_gt (pFd_gF d) h0 h)
end GT
end
section
/-! A question read by signs and by descent: what both keep. -/
theorem dn_fp (x : MS) (h : x.dnF.1 = true) : x.dnF.2.faultPlace = x.faultPlace ∧ x.dnF.2.amount = x.amount := by
  unfold MS.dnF at h ⊢
  split
  · rename_i g
    rw [if_pos g] at h
    split
    · exact ⟨rfl, rfl⟩
    · rename_i g2
      rw [if_neg g2] at h
      have h : x.pop.opB = true := h
      show (x.pop.opS _ _).faultPlace = _ ∧ (x.pop.opS _ _).amount = _
      rw [op_v h]
      show (x.pop.opM _).faultPlace = _ ∧ (x.pop.opM _).amount = _
      have T := tb_opM x.pop (nI x.top)
      exact ⟨tb_f T MS.faultPlace rfl, tb_f T MS.amount rfl⟩
  · exact ⟨rfl, rfl⟩
theorem dt_fp {rk : Nat} : ∀ {w : Nat} {x : MS}, (MS.dtF rk w x).1 = true → (MS.dtF rk w x).2.faultPlace = x.faultPlace ∧ (MS.dtF rk w x).2.amount = x.amount
  | 0, x, _ => ⟨rfl, rfl⟩
  | w + 1, x, h => by
    unfold MS.dtF at h ⊢
    split
    · exact ⟨rfl, rfl⟩
    · rename_i g0
      rw [if_neg g0] at h
      split
      · exact ⟨rfl, rfl⟩
      · rename_i g1
        rw [if_neg g1] at h
        split
        · rename_i g2
          rw [if_pos g2] at h
          obtain ⟨a, b⟩ := dn_fp x g2
          obtain ⟨c, d⟩ := dt_fp (w := w) h
          exact ⟨c.trans a, d.trans b⟩
        · rename_i g2
          rw [if_neg g2] at h
          cases h
theorem tkR_dt {y v : MS} {rk : Nat} {t : TKQ} (hr : 1 ≤ rk) (h : y.oI 1) (hd : y.dt rk = (true, v)) (ht : tkR y t) : tkR v t ∧ v.oI 1 ∧ y.dk v := by
  obtain ⟨a, b, ⟨c1, c2, c3⟩, -⟩ := dt_oI hr h hd
  have ev : v = (MS.dtF rk y.signCount y).2 := by
    show v = (y.dt rk).2
    rw [hd]
  obtain ⟨e1, e2⟩ := dt_fp (rk := rk) (w := y.signCount) (x := y) (by
    show (y.dt rk).1 = true
    rw [hd])
  rw [← ev] at e1 e2
  obtain ⟨h1, h2, h3, h4, h5, h6, h7⟩ := ht
  refine ⟨⟨by rw [c1]; exact h1, c2.trans h2, c3.trans h3, fun g => ?_, a.1.2.2.2, h6, e1.trans h7⟩, a, b⟩
  rw [c1] at g
  exact e2.trans (h4 g)
theorem kR_rk {a b : Int32} (h : kR a b) (hr : rkN b = 1 ∨ rkN b = 2) : a = b := by
  rcases h with ⟨-, e⟩ | ⟨-, e⟩ | ⟨-, e⟩ | ⟨-, e⟩ | ⟨-, e⟩ | ⟨-, e⟩ | ⟨-, e⟩ | ⟨-, e⟩
  · subst e; exfalso; revert hr; decide
  · subst e; exfalso; revert hr; decide
  · subst e; exfalso; revert hr; decide
  · subst e; exfalso; revert hr; decide
  · subst e; exfalso; revert hr; decide
  · subst e; exfalso; revert hr; decide
  · subst e; exfalso; revert hr; decide
  · exact e.symm
/-- how many of the signs open -/
def cO : List (Nat × Nat) → Nat
  | [] => 0
  | a :: S => cO S + (if isOpS a.1 then 1 else 0)
theorem cO_st (s p : Nat → Nat) : ∀ k, cO (stG s p k) = cnt k (fun i => isOpS (s i))
  | 0 => rfl
  | k + 1 => by
    show cO (stG s p k) + (if isOpS (s k) then 1 else 0) = cnt k (fun i => isOpS (s i)) + (if isOpS (s k) then 1 else 0)
    rw [cO_st s p k]
theorem opn_cO {y : MS} (h : y.lI) : y.opn = cO y.stk := by
  have : ∀ e, y.oI e → y.opn = cO y.stk := fun e g => by
    unfold MS.stk
    rw [cO_st]
    exact g.2.2.2.1.2.1.symm
  rcases h with ⟨-, g⟩ | ⟨-, g⟩
  · exact this 0 g
  · exact this 1 g
/-- the reference at a token -/
def MS.qat (x y : MS) (t : TKQ) (w : Bool) (S : List (Nat × Nat)) : Prop := y.lI ∧ x.qk y ∧ y.wants = w ∧ tkR y t ∧ y.stk = S
section QA
variable {x y : MS} {t : TKQ} {w : Bool} {S : List (Nat × Nat)}
theorem lI_lx (h : y.lI) : y.lx := by
  rcases h with ⟨-, g⟩ | ⟨-, g⟩
  · exact g.1
  · exact g.1
theorem lI_fr (h : y.lI) : y.kind = 0 ∨ y.frm < y.too := by
  rcases h with ⟨-, g⟩ | ⟨-, g⟩
  · exact g.2.2.1
  · exact g.2.2.1
theorem qat_f (h : x.qat y t w S) : y.tape = x.tape ∧ y.length = x.length ∧ y.works = x.works := ⟨qk_f h.2.1 MS.tape rfl, qk_f h.2.1 MS.length rfl, qk_f h.2.1 MS.works rfl⟩
end QA
/-- the signs from here on bind no more than rk -/
def hdK (S : List (Nat × Nat)) (rk : Nat) : Prop := S = [] ∨ ∃ b S', S = b :: S' ∧ rkM b.1 ≤ rk
theorem hdK_m {S : List (Nat × Nat)} {a b : Nat} (h : hdK S a) (hab : a ≤ b) : hdK S b := h.imp id (fun ⟨c, S', e, g⟩ => ⟨c, S', e, Nat.le_trans g hab⟩)
/-- a part of a question read: steps done and signs that wait, or a step not done; or a fault -/
def SubG (x : MS) (J : List SP1 → MS → Prop) (Jf : List SP1 → SP1 → MS → Prop) (L : List SP1) (y : MS) (S : List (Nat × Nat)) (rk : Nat) (R : PR) : Prop :=
  (R.2.1.2.2.2.2.1 = 0 → (∃ (y' : MS) (S0 : List SP1) (P : List (Nat × Nat)), R.1 = true ∧ (∀ k, rk < k → k ≤ 2 → ¬ rkN R.2.1.1 = k) ∧ R.2.2 = S0 ++ P.map fls ∧ (∀ a, a ∈ P → binS a.1 = true ∧ rk < rkM a.1) ∧ y.QR = y'.QR ∧ y.frm < y'.frm ∧ x.qat y' R.2.1 false (P ++ S) ∧ J (L ++ S0) y') ∨ (x.works = true ∧ ∃ v, y.QR = (false, v) ∧ FFq Jf (L ++ R.2.2) v)) ∧
  (¬ R.2.1.2.2.2.2.1 = 0 → x.works = false → ∃ v, y.QR = (false, v) ∧ flR v R.2.1)
def SubS (x : MS) (J : List SP1 → MS → Prop) (Jf : List SP1 → SP1 → MS → Prop) (d : Nat) (F : PF) (rk : Nat) : Prop := ∀ (L : List SP1) (y : MS) (t : TKQ) (S : List (Nat × Nat)), x.qat y t true S → hdK S rk → cO S + d = 8 → J L y → SubG x J Jf L y S rk (F x.tape x.length t)
section OL
variable {x : MS} {J : List SP1 → MS → Prop} {Jf : List SP1 → SP1 → MS → Prop} {d rk : Nat} {F : PF} {Pk : Int32 → Bool}
theorem psh_st {v : MS} : v.psh.stk = (i2n v.kind, v.frm) :: v.stk := stG_up _ _ _ _ _
theorem fls_b {k : Int32} {q : Nat} (h : rkN k = 1 ∨ rkN k = 2) : fls (i2n k, q) = spO k q 0 := by
  obtain ⟨h1, h2, -, -⟩ := rkN_c h
  have b := bin_c h1
  unfold fls
  rw [if_neg b.2.2.2.2.1, ← i2n_nI h2]
theorem op_D {L : List SP1} {y : MS} {S : List (Nat × Nat)} {r : PR} {yi : MS} {S0 : List SP1} {P : List (Nat × Nat)} (h1 : r.1 = true) (h2 : r.2.1.2.2.2.2.1 = 0) (h3 : r.2.2 = S0 ++ P.map fls) (h4 : ∀ a, a ∈ P → binS a.1 = true ∧ rk - 1 < rkM a.1) (h5 : ∀ k, rk < k → k ≤ 2 → ¬ rkN r.2.1.1 = k) (h7 : y.QR = yi.QR) (h8 : y.frm < yi.frm) (h9 : x.qat yi r.2.1 false (P ++ S)) (h10 : J (L ++ S0) yi) (g : ¬ rkN r.2.1.1 = rk) : SubG x J Jf L y S (rk - 1) r :=
  ⟨fun _ => Or.inl ⟨yi, S0, P, h1, fun k k1 k2 => by
      by_cases e : k = rk
      · rw [e]; exact g
      · exact h5 k (by omega) k2, h3, h4, h7, h8, h9, h10⟩, fun e => absurd h2 e⟩
theorem op_L (hJ : JK x.tape x.length J Jf) (hby : byteF x.tape) (hg : gFq F) (hF : SubS x J Jf d F rk) (hr : 1 ≤ rk) (hr2 : rk ≤ 2) (hPk : ∀ z, Pk z = true ↔ rkN z = rk) {L : List SP1} {y : MS} {S : List (Nat × Nat)} (hS : hdK S (rk - 1)) (hc : cO S + d = 8) : ∀ {w : Nat} {r : PR} {yi : MS} {S0 : List SP1} {P : List (Nat × Nat)}, r.1 = true → r.2.1.2.2.2.2.1 = 0 → r.2.2 = S0 ++ P.map fls → (∀ a, a ∈ P → binS a.1 = true ∧ rk - 1 < rkM a.1) → (∀ k, rk < k → k ≤ 2 → ¬ rkN r.2.1.1 = k) → x.length ≤ w + r.2.1.2.1 → y.QR = yi.QR → y.frm < yi.frm → x.qat yi r.2.1 false (P ++ S) → J (L ++ S0) yi → SubG x J Jf L y S (rk - 1) (opL F Pk x.tape x.length w r)
  | 0, r, yi, S0, P, h1, h2, h3, h4, h5, h6, h7, h8, h9, h10 => by
    have tk := h9.2.2.2.1
    refine op_D h1 h2 h3 h4 h5 h7 h8 h9 h10 (fun g => ?_)
    have g : rkN r.2.1.1 = rk := g
    have e := kR_rk tk.1 (by omega)
    have fr := lI_fr h9.1
    have lx := lI_lx h9.1
    have ln := (qat_f h9).2.1
    have fq := tk.2.1
    rcases fr with k0 | k0
    · rw [← e, k0] at g
      have g : 0 = rk := g
      omega
    · have := lx.2.2.1
      omega
  | w + 1, r, yi, S0, P, h1, h2, h3, h4, h5, h6, h7, h8, h9, h10 => by
    have tk := h9.2.2.2.1
    by_cases c : rkN r.2.1.1 = rk
    · have hp : Pk r.2.1.1 = true := (hPk _).mpr c
      rw [show opL F Pk x.tape x.length (w + 1) r = opL F Pk x.tape x.length w (opS F x.tape x.length r) from if_pos ⟨h1, hp⟩]
      have hP263 : Pk 263 = false := by
        cases q : Pk 263 with
        | false => rfl
        | true =>
          have := (hPk 263).mp q
          have q0 : rkN 263 = 0 := by decide
          omega
      have r12 : rkN r.2.1.1 = 1 ∨ rkN r.2.1.1 = 2 := by omega
      have ek : yi.kind = r.2.1.1 := kR_rk tk.1 r12
      obtain ⟨b1, b2, b3, b4⟩ := rkN_c r12
      have oi := lI_1 h9.1 h9.2.2.1
      have k0 : ¬ yi.kind = 0 ∨ yi.wants = true := Or.inl (by rw [ek]; exact b4)
      have q1e : yi.q1 = yi.opr1 rk := by
        unfold MS.q1 MS.opr
        rw [if_neg (by rw [h9.2.2.1]; decide), ek, if_pos r12, c]
      have hS' : S = [] ∨ ∃ b S', S = b :: S' ∧ rkM b.1 < rk := hS.imp id (fun ⟨b, S', e, g⟩ => ⟨b, S', e, by omega⟩)
      obtain ⟨X, eX⟩ := opL_x (F := F) (P := Pk) (f := x.tape) (n := x.length) (w := w) (r := opS F x.tape x.length r)
      obtain ⟨ft, fl, fw⟩ := qat_f h9
      rcases dt_J hJ hr hS' (oI_dI oi) h9.2.2.2.2 (fun a ha => by have := (h4 a ha).2; omega) h10 with ⟨a1, a2, a3⟩ | ⟨a1, a2, a3⟩
      · obtain ⟨v, ev⟩ : ∃ v, v = (yi.dt rk).2 := ⟨_, rfl⟩
        obtain ⟨t1, t2, t3⟩ := tkR_dt hr oi (show yi.dt rk = (true, v) from Prod.ext a1 ev.symm) tk
        rw [← ev] at a2 a3
        have q1f : yi.q1 = v.psh.nx := by
          rw [q1e]
          unfold MS.opr1
          rw [if_pos a1, ev]
        have vt : v.psh.tape = x.tape := (dk_f t3 MS.tape rfl).trans ft
        have vl : v.psh.length = x.length := (dk_f t3 MS.length rfl).trans fl
        have tp : tkR v.psh r.2.1 := t1
        have lp : v.psh.lx := t2.1
        have sp := psh_st (v := v)
        have ev1 : i2n v.kind = i2n r.2.1.1 := by rw [kR_rk t1.1 r12]
        have ev2 : v.frm = r.2.1.2.1 := t1.2.1
        rw [a3, ev1, ev2] at sp
        have jp : J (L ++ r.2.2) v.psh := by
          rw [h3, ← List.append_assoc]
          exact hJ.1 _ v v.psh a2 rfl
        rcases nx_c vt vl hby tp lp with ⟨n1, n2, n3, n4⟩ | ⟨n1, n2, n3, n4⟩
        · obtain ⟨y1, ey1⟩ : ∃ y1, y1 = yi.q1.2 := ⟨_, rfl⟩
          obtain ⟨z1, z2, z3, z4⟩ := QR_t h9.1 k0 (by rw [q1f]; exact n1) ey1
          have e1 : y1 = v.psh.nx.2 := by rw [ey1, q1f]
          have T := tk_nx v.psh
          rw [← e1] at n2 n3 T
          have sy : y1.stk = (i2n r.2.1.1, r.2.1.2.1) :: S := (stk_ck (ck_tk T)).trans sp
          have wy : y1.wants = true := tk_f T MS.wants rfl
          have jy := hJ.1 _ v.psh y1 jp (sg_tk T)
          have qy : x.qat y1 (nxT x.tape x.length r.2.1) true ((i2n r.2.1.1, r.2.1.2.1) :: S) := ⟨z2, qk_tr h9.2.1 z3, wy, n2, sy⟩
          have bc := bin_c b1
          have hh : hdK ((i2n r.2.1.1, r.2.1.2.1) :: S) rk := Or.inr ⟨_, _, rfl, by rw [b3, c]; exact Nat.le_refl _⟩
          have hcc : cO ((i2n r.2.1.1, r.2.1.2.1) :: S) + d = 8 := by
            show cO S + (if isOpS (i2n r.2.1.1) then 1 else 0) + d = 8
            rw [bc.2.1]
            exact hc
          obtain ⟨s1, s2⟩ := hF (L ++ r.2.2) y1 (nxT x.tape x.length r.2.1) _ qy hh hcc jy
          have gR := (hg x.tape x.length (nxT x.tape x.length r.2.1)).1 (nxT_g h2)
          have eo : opS F x.tape x.length r = ((F x.tape x.length (nxT x.tape x.length r.2.1)).1, (F x.tape x.length (nxT x.tape x.length r.2.1)).2.1, r.2.2 ++ ((F x.tape x.length (nxT x.tape x.length r.2.1)).2.2 ++ [spO r.2.1.1 r.2.1.2.1 0])) := rfl
          generalize F x.tape x.length (nxT x.tape x.length r.2.1) = R' at s1 s2 gR eo
          by_cases g : R'.2.1.2.2.2.2.1 = 0
          · rcases s1 g with ⟨y2, S1, P1, u1, u2, u3, u4, u5, u6, u7, u8⟩ | ⟨u0, v', u1, u2⟩
            · rw [eo]
              refine op_L hJ hby hg hF hr hr2 hPk hS hc (w := w) (yi := y2) (S0 := r.2.2 ++ S1) (P := P1 ++ [(i2n r.2.1.1, r.2.1.2.1)]) u1 g ?_ ?_ u2 ?_ (h7.trans (z1.trans u5)) (by omega) ?_ ?_
              · show r.2.2 ++ (R'.2.2 ++ [spO r.2.1.1 r.2.1.2.1 0]) = _
                rw [List.map_append, List.map_cons, List.map_nil, fls_b r12, u3]
                simp only [List.append_assoc]
              · intro a ha
                rcases List.mem_append.mp ha with ha | ha
                · exact ⟨(u4 a ha).1, by have := (u4 a ha).2; omega⟩
                · rw [List.mem_singleton] at ha
                  rw [ha]
                  exact ⟨b1, by show rk - 1 < rkM (i2n r.2.1.1); rw [b3, c]; omega⟩
              · show x.length ≤ w + R'.2.1.2.1
                have q1 := u7.2.2.2.1.2.1
                have q2 := n2.2.1
                have q3 := tk.2.1
                omega
              · rw [List.append_assoc]
                exact u7
              · rw [← List.append_assoc]
                exact u8
            · refine ⟨fun _ => Or.inr ⟨u0, v', (h7.trans z1).trans u1, ?_⟩, fun _ e => by rw [u0] at e; cases e⟩
              rw [eX, eo]
              show FFq Jf (L ++ ((r.2.2 ++ (R'.2.2 ++ [spO r.2.1.1 r.2.1.2.1 0])) ++ X)) v'
              have := FF_m u2 ([spO r.2.1.1 r.2.1.2.1 0] ++ X)
              simp only [List.append_assoc] at this ⊢
              exact this
          · have eb : opL F Pk x.tape x.length w (opS F x.tape x.length r) = opS F x.tape x.length r := opL_b hP263 (by rw [eo]; exact gR) (by rw [eo]; exact g)
            rw [eb, eo]
            refine ⟨fun e => absurd e g, fun _ e => ?_⟩
            obtain ⟨v', w1, w2⟩ := s2 g e
            exact ⟨v', (h7.trans z1).trans w1, w2⟩
        · obtain ⟨X', eX'⟩ := (hg x.tape x.length (nxT x.tape x.length r.2.1)).2 n2 n3
          have eo : opS F x.tape x.length r = (false, nxT x.tape x.length r.2.1, r.2.2 ++ (X' ++ [spO r.2.1.1 r.2.1.2.1 0])) := by
            show ((F x.tape x.length (nxT x.tape x.length r.2.1)).1, (F x.tape x.length (nxT x.tape x.length r.2.1)).2.1, r.2.2 ++ ((F x.tape x.length (nxT x.tape x.length r.2.1)).2.2 ++ [spO r.2.1.1 r.2.1.2.1 0])) = _
            rw [eX']
          have eb : opL F Pk x.tape x.length w (opS F x.tape x.length r) = opS F x.tape x.length r := opL_b hP263 (by rw [eo]; exact fun e => by cases e) (by rw [eo]; exact n3)
          rw [eb, eo]
          refine ⟨fun e => absurd e n3, fun _ _ => ⟨v.psh.nx.2, ?_, n4⟩⟩
          rw [h7, QR_f h9.1 k0 (by rw [q1f]; exact n1), q1f]
      · have wt : x.works = true := fw.symm.trans a3
        refine ⟨fun _ => Or.inr ⟨wt, (yi.dt rk).2, ?_, ?_⟩, fun _ e => by rw [wt] at e; cases e⟩
        · have q1f : yi.q1 = (false, (yi.dt rk).2) := by
            rw [q1e]
            unfold MS.opr1
            rw [if_neg (by rw [a1]; decide)]
          rw [h7, QR_f h9.1 k0 (by rw [q1f]), q1f]
        · rw [eX]
          show FFq Jf (L ++ ((r.2.2 ++ ((F x.tape x.length (nxT x.tape x.length r.2.1)).2.2 ++ [spO r.2.1.1 r.2.1.2.1 0])) ++ X)) _
          have := FF_m a2 (((F x.tape x.length (nxT x.tape x.length r.2.1)).2.2 ++ [spO r.2.1.1 r.2.1.2.1 0]) ++ X)
          rw [h3]
          simp only [List.append_assoc] at this ⊢
          exact this
    · have hp : ¬ (r.1 = true ∧ Pk r.2.1.1 = true) := fun e => c ((hPk _).mp e.2)
      rw [show opL F Pk x.tape x.length (w + 1) r = r from if_neg hp]
      exact op_D h1 h2 h3 h4 h5 h7 h8 h9 h10 c
end OL
end
section
/-! Terms and sums out of factors; the end of an operand. -/
theorem isTq_rk (z : Int32) : isTq z = true ↔ rkN z = 2 := by
  unfold isTq rkN
  rw [Bool.or_eq_true, Bool.or_eq_true, decide_eq_true_eq, decide_eq_true_eq, decide_eq_true_eq]
  by_cases h1 : z = 43 ∨ z = 45
  · rw [if_pos h1]
    constructor
    · intro h
      rcases h1 with e | e <;> subst e <;> revert h <;> decide
    · intro h; cases h
  · rw [if_neg h1]
    by_cases h2 : z = 42 ∨ z = 47 ∨ z = 37
    · rw [if_pos h2]
      exact ⟨fun _ => rfl, fun _ => h2⟩
    · rw [if_neg h2]
      constructor
      · intro h; exact absurd h h2
      · intro h; split at h <;> cases h
theorem isAd_rk (z : Int32) : isAd z = true ↔ rkN z = 1 := by
  unfold isAd rkN
  rw [Bool.or_eq_true, decide_eq_true_eq, decide_eq_true_eq]
  by_cases h1 : z = 43 ∨ z = 45
  · rw [if_pos h1]
    exact ⟨fun _ => rfl, fun _ => h1⟩
  · rw [if_neg h1]
    constructor
    · intro h; exact absurd h h1
    · intro h
      split at h
      · cases h
      · split at h <;> cases h
section SL
variable {x : MS} {J : List SP1 → MS → Prop} {Jf : List SP1 → SP1 → MS → Prop} {d rk : Nat} {F : PF} {Pk : Int32 → Bool}
theorem sub_L (hJ : JK x.tape x.length J Jf) (hby : byteF x.tape) (hg : gFq F) (hF : SubS x J Jf d F rk) (hr : 1 ≤ rk) (hr2 : rk ≤ 2) (hPk : ∀ z, Pk z = true ↔ rkN z = rk) : SubS x J Jf d (fun f n t => opL F Pk f n n (F f n t)) (rk - 1) := by
  intro L y t S q hh hc j
  obtain ⟨s1, s2⟩ := hF L y t S q (hdK_m hh (by omega)) hc j
  have gR := (hg x.tape x.length t).1 (gt_0 q.2.2.2.1.2.2.2.2.2.1)
  show SubG x J Jf L y S (rk - 1) (opL F Pk x.tape x.length x.length (F x.tape x.length t))
  have hP263 : Pk 263 = false := by
    cases q : Pk 263 with
    | false => rfl
    | true =>
      have := (hPk 263).mp q
      have q0 : rkN 263 = 0 := by decide
      omega
  generalize F x.tape x.length t = R at s1 s2 gR
  by_cases g : R.2.1.2.2.2.2.1 = 0
  · rcases s1 g with ⟨y2, S0, P, u1, u2, u3, u4, u5, u6, u7, u8⟩ | ⟨u0, v, u1, u2⟩
    · exact op_L hJ hby hg hF hr hr2 hPk hh hc u1 g u3 (fun a ha => ⟨(u4 a ha).1, by have := (u4 a ha).2; omega⟩) u2 (by omega) u5 u6 u7 u8
    · obtain ⟨X, eX⟩ := opL_x (F := F) (P := Pk) (f := x.tape) (n := x.length) (w := x.length) (r := R)
      refine ⟨fun _ => Or.inr ⟨u0, v, u1, ?_⟩, fun _ e => by rw [u0] at e; cases e⟩
      rw [eX, ← List.append_assoc]
      exact FF_m u2 X
  · rw [opL_b hP263 gR g]
    exact ⟨fun e => absurd e g, s2⟩
theorem sub_E (hJ : JK x.tape x.length J Jf) (hby : byteF x.tape) (hg : gFq F) (hF : SubS x J Jf d F 2) : SubS x J Jf d (pEx (pTm F)) 0 :=
  sub_L (rk := 1) (F := pTm F) (Pk := isAd) hJ hby (opF_g hg (by decide)) (sub_L (rk := 2) (Pk := isTq) hJ hby hg hF (by decide) (by decide) isTq_rk) (by decide) (by decide) isAd_rk
end SL
/-- the minuses on top, and what is below them -/
def topsM : List (Nat × Nat) → List (Nat × Nat)
  | [] => []
  | a :: S => if a.1 = 109 then a :: topsM S else []
def restM : List (Nat × Nat) → List (Nat × Nat)
  | [] => []
  | a :: S => if a.1 = 109 then restM S else a :: S
theorem tr_M : ∀ S, topsM S ++ restM S = S
  | [] => rfl
  | a :: S => by
    unfold topsM restM
    split
    · show a :: (topsM S ++ restM S) = _
      rw [tr_M S]
    · rfl
theorem tops_e : ∀ {S : List (Nat × Nat)} {a : Nat × Nat}, a ∈ topsM S → a.1 = 109
  | [], a, h => by cases h
  | b :: S, a, h => by
    unfold topsM at h
    split at h
    · rename_i g
      rcases List.mem_cons.mp h with e | e
      · rw [e]; exact g
      · exact tops_e e
    · cases h
theorem rest_h : ∀ {S : List (Nat × Nat)}, (∀ a, a ∈ S → isOpS a.1 = true ∨ binS a.1 = true) → (restM S = [] ∨ ∃ b S', restM S = b :: S' ∧ rkM b.1 < 3)
  | [], _ => Or.inl rfl
  | b :: S, h => by
    unfold restM
    split
    · exact rest_h (fun a ha => h a (List.mem_cons_of_mem _ ha))
    · rename_i g
      refine Or.inr ⟨b, S, rfl, ?_⟩
      rcases h b (List.mem_cons_self ..) with e | e
      · rcases opn_c e with e | e
        · exact absurd e g
        · rw [e]; decide
      · rcases (bin_c e).1 with e | e <;> omega
theorem st_el {s p : Nat → Nat} : ∀ {k : Nat} {a : Nat × Nat}, a ∈ stG s p k → ∃ i, i < k ∧ a.1 = s i
  | 0, a, h => by cases h
  | k + 1, a, h => by
    rcases List.mem_cons.mp h with e | e
    · exact ⟨k, Nat.lt_succ_self k, by rw [e]⟩
    · obtain ⟨i, h1, h2⟩ := st_el e
      exact ⟨i, by omega, h2⟩
theorem stk_el {y : MS} {e : Nat} (h : y.sI e) {a : Nat × Nat} (ha : a ∈ y.stk) : isOpS a.1 = true ∨ binS a.1 = true := by
  obtain ⟨i, h1, h2⟩ := st_el ha
  rw [h2]
  exact h.2.2.1 i h1
/-- a factor read -/
def FacG (x : MS) (J : List SP1 → MS → Prop) (Jf : List SP1 → SP1 → MS → Prop) (L : List SP1) (y : MS) (S : List (Nat × Nat)) (R : PR) : Prop :=
  (R.2.1.2.2.2.2.1 = 0 → (∃ y' : MS, R.1 = true ∧ y.QR = y'.QR ∧ y.frm < y'.frm ∧ x.qat y' R.2.1 false (restM S) ∧ J (L ++ (R.2.2 ++ (topsM S).map fls)) y') ∨ (x.works = true ∧ ∃ v, y.QR = (false, v) ∧ FFq Jf (L ++ (R.2.2 ++ (topsM S).map fls)) v)) ∧
  (¬ R.2.1.2.2.2.2.1 = 0 → x.works = false → ∃ v, y.QR = (false, v) ∧ flR v R.2.1)
def FacS (x : MS) (J : List SP1 → MS → Prop) (Jf : List SP1 → SP1 → MS → Prop) (d : Nat) : Prop := ∀ (L : List SP1) (y : MS) (t : TKQ) (S : List (Nat × Nat)), x.qat y t true S → cO S + d = 8 → J L y → FacG x J Jf L y S (pFd d x.tape x.length t)
section FE
variable {x : MS} {J : List SP1 → MS → Prop} {Jf : List SP1 → SP1 → MS → Prop} {d : Nat}
theorem hdK_t {S : List (Nat × Nat)} (h : hdK S 2) : topsM S = [] ∧ restM S = S := by
  rcases h with e | ⟨b, S', e, g⟩
  · subst e; exact ⟨rfl, rfl⟩
  · subst e
    have n : ¬ b.1 = 109 := fun c => by
      rw [c] at g
      revert g
      decide
    exact ⟨if_neg n, if_neg n⟩
theorem fac_sub (h : FacS x J Jf d) : SubS x J Jf d (pFd d) 2 := by
  intro L y t S q hh hc j
  obtain ⟨s1, s2⟩ := h L y t S q hc j
  obtain ⟨e1, e2⟩ := hdK_t hh
  rw [e1, e2, List.map_nil, List.append_nil] at s1
  refine ⟨fun g => ?_, s2⟩
  rcases s1 g with ⟨y', u1, u2, u3, u4, u5⟩ | u
  · exact Or.inl ⟨y', (pFd d x.tape x.length t).2.2, [], u1, fun k k1 k2 => by omega, (List.append_nil _).symm, (fun a ha => by cases ha), u2, u3, u4, u5⟩
  · exact Or.inr u
/-- behind an operand -/
theorem fac_end (hJ : JK x.tape x.length J Jf) {y m : MS} {u : TKQ} {S : List (Nat × Nat)} {L : List SP1} (hy : y.lI) (hw : ¬ y.kind = 0 ∨ y.wants = true) (qx : x.qk y) (q1e : y.q1 = m.dt 3) (hm : m.oI 1) (mw : m.wants = false) (mt : tkR m u) (ms : m.stk = S) (mx : m.works = x.works) (j : J L m) : (∃ y' : MS, y.QR = y'.QR ∧ y.frm < y'.frm ∧ x.qat y' u false (restM S) ∧ J (L ++ (topsM S).map fls) y') ∨ (x.works = true ∧ ∃ v, y.QR = (false, v) ∧ FFq Jf (L ++ (topsM S).map fls) v) := by
  have hS := rest_h (S := S) (fun a ha => stk_el hm.2.2.2.1 (by rw [ms]; exact ha))
  rcases dt_J hJ (rk := 3) (by decide) hS (oI_dI hm) (by rw [ms]; exact (tr_M S).symm) (fun a ha => by rw [tops_e ha]; decide) j with ⟨a1, a2, a3⟩ | ⟨a1, a2, a3⟩
  · obtain ⟨v, ev⟩ : ∃ v, v = (m.dt 3).2 := ⟨_, rfl⟩
    obtain ⟨t1, t2, t3⟩ := tkR_dt (by decide) hm (show m.dt 3 = (true, v) from Prod.ext a1 ev.symm) mt
    rw [← ev] at a2 a3
    obtain ⟨z1, z2, z3, z4⟩ := QR_t (v := v) hy hw (by rw [q1e]; exact a1) (by rw [q1e]; exact ev)
    exact Or.inl ⟨v, z1, z4, ⟨z2, qk_tr qx z3, (dk_f t3 MS.wants rfl).trans mw, t1, a3⟩, a2⟩
  · refine Or.inr ⟨mx.symm.trans a3, (m.dt 3).2, ?_, a2⟩
    rw [QR_f hy hw (by rw [q1e]; exact a1), q1e]
end FE
end
section
/-! Factors: numbers and functions. -/
theorem od3q_t {m : Bool × MS} (h : m.1 = true) : MS.od3 m = m.2.dt 3 := if_pos h
theorem od3q_f {m : Bool × MS} (h : m.1 = false) : MS.od3 m = (false, m.2) := if_neg (by rw [h]; decide)
theorem fnI_n {y : MS} (h : ¬ y.kind = 2) : y.fnI = -1 := by
  unfold MS.fnI
  rw [show y.fnN = 0 from if_neg h]
  rfl
theorem fnV_c (L : List Int32) : fnV L = -1 ∨ ∃ wh, wh < 7 ∧ fnV L = nI wh := by
  unfold fnV
  split
  · exact Or.inr ⟨0, by decide, rfl⟩
  · split
    · exact Or.inr ⟨1, by decide, rfl⟩
    · split
      · exact Or.inr ⟨2, by decide, rfl⟩
      · split
        · exact Or.inr ⟨3, by decide, rfl⟩
        · split
          · exact Or.inr ⟨4, by decide, rfl⟩
          · split
            · exact Or.inr ⟨5, by decide, rfl⟩
            · split
              · exact Or.inr ⟨6, by decide, rfl⟩
              · exact Or.inl rfl
theorem nI_nn {k : Nat} (h : k < 2 ^ 31) : ¬ nI k < 0 := fun e => by
  rw [Int32.lt_iff_toInt_lt, nI_toInt (by omega)] at e
  have : (0 : Int32).toInt = 0 := rfl
  omega
section FA
variable {x : MS} {J : List SP1 → MS → Prop} {Jf : List SP1 → SP1 → MS → Prop} {L : List SP1} {y : MS} {t : TKQ} {S : List (Nat × Nat)}
/-- the same with the operand's steps -/
theorem fac_in {R : PR} (h1 : R.1 = true) (h2 : R.2.1.2.2.2.2.1 = 0) (h : (∃ y' : MS, y.QR = y'.QR ∧ y.frm < y'.frm ∧ x.qat y' R.2.1 false (restM S) ∧ J ((L ++ R.2.2) ++ (topsM S).map fls) y') ∨ (x.works = true ∧ ∃ v, y.QR = (false, v) ∧ FFq Jf ((L ++ R.2.2) ++ (topsM S).map fls) v)) : FacG x J Jf L y S R := by
  rw [List.append_assoc] at h
  refine ⟨fun _ => ?_, fun e => absurd h2 e⟩
  rcases h with ⟨y', a, b, c, d⟩ | u
  · exact Or.inl ⟨y', h1, a, b, c, d⟩
  · exact Or.inr u
theorem fac_bad {R : PR} (h2 : ¬ R.2.1.2.2.2.2.1 = 0) (h : ∃ v, y.QR = (false, v) ∧ flR v R.2.1) : FacG x J Jf L y S R := ⟨fun e => absurd e h2, fun _ _ => h⟩
/-- refused -/
theorem fac_r {k : Int32} {X : List SP1} (q : x.qat y t true S) (hk : ¬ k = 0) (q1e : ∃ z, y.q1 = (false, MS.flS z k y.frm)) : FacG x J Jf L y S (false, rfT t k t.2.1, X) := by
  obtain ⟨z, q1e⟩ := q1e
  have tk := q.2.2.2.1
  refine fac_bad (rfT_n tk.2.2.2.2.2.1 hk) ⟨MS.flS z k y.frm, ?_, ?_⟩
  · rw [QR_f q.1 (Or.inr q.2.2.1) (by rw [q1e]), q1e]
  · show flR _ (rfT t k t.2.1)
    rw [rfT_0 tk.2.2.2.2.2.1]
    exact ⟨rfl, congrArg nI tk.2.1⟩
theorem fac_n (hJ : JK x.tape x.length J Jf) (hby : byteF x.tape) (q : x.qat y t true S) (j : J L y) (h : t.1 = 257) : FacG x J Jf L y S (true, nxT x.tape x.length t, [spO 257 t.2.1 t.2.2.2.1]) := by
  obtain ⟨ft, fl, fw⟩ := qat_f q
  have tk := q.2.2.2.1
  have ky : y.kind = 1 := (kR_i tk.1 kR_1).mpr h
  have oi := lI_0 q.1 q.2.2.1
  have k0 : ¬ y.kind = 0 ∨ y.wants = true := Or.inr q.2.2.1
  obtain ⟨y0, e0⟩ : ∃ y0, y0 = MS.s_wants y false := ⟨_, rfl⟩
  have kf : (MS.s_wants y false).fnI < 0 := by
    rw [fnI_n (show ¬ (MS.s_wants y false).kind = 2 from fun e => by
      have e : y.kind = 2 := e
      rw [ky] at e
      revert e
      decide)]
    decide
  have q1e : y.q1 = MS.od3 y0.nm1 := by
    unfold MS.q1 MS.odF
    rw [if_pos q.2.2.1, if_neg (by rw [ky]; decide), if_neg (by rw [ky]; decide), if_pos kf, if_pos ky, e0]
  have j0 : J L y0 := hJ.1 L y y0 j (by rw [e0]; rfl)
  have o0 : y0.oI 0 := by rw [e0]; exact oi
  have t0 : tkR y0 t := by rw [e0]; exact tk
  have k1 : y0.kind = 1 := by rw [e0]; exact ky
  have s0 : y0.stk = S := by rw [e0]; exact q.2.2.2.2
  have f0 : y0.tape = x.tape ∧ y0.length = x.length ∧ y0.works = x.works ∧ y0.wants = false := by rw [e0]; exact ⟨ft, fl, fw, rfl⟩
  have ez : ∃ z, y0.nm1 = z.nx ∧ y0.ck z ∧ tkR z t ∧ z.lx ∧ J (L ++ [spO 257 t.2.1 t.2.2.2.1]) z := by
    unfold MS.nm1
    cases w : y0.works with
    | true =>
      rw [if_pos rfl]
      refine ⟨y0.nbS, rfl, ck_nb y0, t0, o0.1, ?_⟩
      rw [← t0.2.2.2.1 k1]
      exact hJ.2.2.1 L y0 t.2.1 j0 w (o0.2.2.2.2.1 w) (oI_pl o0 (by decide))
    | false =>
      rw [if_neg (by decide)]
      exact ⟨y0, rfl, ck_rf y0, t0, o0.1, hJ.2.1 L _ y0 y0 j0 w rfl⟩
  obtain ⟨z, z1, z2, z3, z4, z5⟩ := ez
  rcases nx_c ((ck_f z2 MS.tape rfl).trans f0.1) ((ck_f z2 MS.length rfl).trans f0.2.1) hby z3 z4 with ⟨n1, n2, n3, n4⟩ | ⟨n1, n2, n3, n4⟩
  · have hm := nm_oI o0 (show y0.nm1 = (true, z.nx.2) by rw [z1]; exact Prod.ext n1 rfl)
    have T := tk_nx z
    have q2 : y.q1 = z.nx.2.dt 3 := by rw [q1e, z1, od3q_t n1]
    have C := ck_tr z2 (ck_tk T)
    exact fac_in rfl n4 (fac_end hJ q.1 k0 q.2.1 q2 hm.1 (hm.2.2.2.trans f0.2.2.2) n2 ((stk_ck C).trans s0) ((ck_f C MS.works rfl).trans f0.2.2.1) (hJ.1 _ z z.nx.2 z5 (sg_tk T)))
  · refine fac_bad n3 ⟨z.nx.2, ?_, n4⟩
    have q2 : y.q1 = (false, z.nx.2) := by rw [q1e, z1, od3q_f n1]
    rw [QR_f q.1 k0 (by rw [q2]), q2]
theorem fac_c (hJ : JK x.tape x.length J Jf) (hby : byteF x.tape) (q : x.qat y t true S) (j : J L y) (h : t.1 = 258) : FacG x J Jf L y S (pFn x.tape x.length t) := by
  obtain ⟨ft, fl, fw⟩ := qat_f q
  have tk := q.2.2.2.1
  have ky : y.kind = 2 := (kR_i tk.1 kR_2).mpr h
  have oi := lI_0 q.1 q.2.2.1
  have k0 : ¬ y.kind = 0 ∨ y.wants = true := Or.inr q.2.2.1
  obtain ⟨y0, e0⟩ : ∃ y0, y0 = MS.s_wants y false := ⟨_, rfl⟩
  have j0 : J L y0 := hJ.1 L y y0 j (by rw [e0]; rfl)
  have o0 : y0.oI 0 := by rw [e0]; exact oi
  have t0 : tkR y0 t := by rw [e0]; exact tk
  have k1 : y0.kind = 2 := by rw [e0]; exact ky
  have s0 : y0.stk = S := by rw [e0]; exact q.2.2.2.2
  have f0 : y0.tape = x.tape ∧ y0.length = x.length ∧ y0.works = x.works ∧ y0.wants = false := by rw [e0]; exact ⟨ft, fl, fw, rfl⟩
  have l0 := o0.1
  have fq := fn_q (y := y0) (t := t) (by rw [f0.1]; exact hby) t0.2.1 t0.2.2.1 k1 l0.1 l0.2.1 l0.2.2.1
  rw [f0.1] at fq
  have n1 : ¬ y.kind = 45 := by rw [ky]; decide
  have n2 : ¬ y.kind = 40 := by rw [ky]; decide
  have n3 : ¬ y.kind = 1 := by rw [ky]; decide
  rcases fnV_c (tkw x.tape t) with e | ⟨wh, hw, e⟩
  · rw [show pFn x.tape x.length t = (false, rfT t 2 t.2.1, []) from if_pos e]
    refine fac_r q (by decide) ⟨MS.s_wants y false, ?_⟩
    unfold MS.q1 MS.odF
    rw [← e0, if_pos q.2.2.1, if_neg n1, if_neg n2, fq, e, if_pos (by decide), if_neg n3]
  · have q1e : y.q1 = MS.od3 (y0.clF wh) := by
      unfold MS.q1 MS.odF
      rw [← e0, if_pos q.2.2.1, if_neg n1, if_neg n2, fq, e, if_neg (nI_nn (by omega)), i2n_of (by omega)]
    have hv : ¬ fnV (tkw x.tape t) = -1 := by rw [e]; exact nI_nm (by omega)
    obtain ⟨c1, c2⟩ := cl_q (wh := wh) f0.1 f0.2.1 hby t0 l0 hv
    generalize pFn x.tape x.length t = R at c1 c2
    by_cases g : R.2.1.2.2.2.2.1 = 0
    · obtain ⟨b1, b2, b3, b4⟩ := c1.1 g
      obtain ⟨z, b, d1, d2, d3, d4, d5, d6, d7, d8, d9, d10, d11⟩ := c2 g
      obtain ⟨hm, -, -, hmw⟩ := cl_oI o0 (show y0.clF wh = (true, (y0.clF wh).2) from Prod.ext b2 rfl)
      have q2 : y.q1 = (y0.clF wh).2.dt 3 := by rw [q1e, od3q_t b2]
      have K : ∃ m, (y0.clF wh).2 = m.nx.2 ∧ y0.ck m ∧ J (L ++ R.2.2) m := by
        rw [d11, d8]
        unfold MS.clZ
        have zw : z.works = y0.works := nk_f d4 MS.works rfl
        cases w : z.works with
        | true =>
          rw [if_pos rfl]
          have w0 : y0.works = true := zw.symm.trans w
          exact ⟨_, rfl, ck_tr (ck_nk d4) (ck_rk z wh _), hJ.2.2.2.2.2 L y0 z t b wh j0 w0 (o0.2.2.2.2.1 w0) (oI_pl o0 (by decide)) f0.1 f0.2.1 d4 d5 d6 d7 d3 d9 d10 e hw⟩
        | false =>
          rw [if_neg (by decide)]
          exact ⟨z, rfl, ck_nk d4, hJ.2.1 L _ y0 z j0 (zw.symm.trans w) d4⟩
      obtain ⟨m, m1, m2, m3⟩ := K
      rw [m1] at hm hmw b3 q2
      have T := tk_nx m
      have C := ck_tr m2 (ck_tk T)
      exact fac_in b1 g (fac_end hJ q.1 k0 q.2.1 q2 hm (hmw.trans f0.2.2.2) b3 ((stk_ck C).trans s0) ((ck_f C MS.works rfl).trans f0.2.2.1) (hJ.1 _ m m.nx.2 m3 (sg_tk T)))
    · obtain ⟨b1, b2, b3⟩ := c1.2 g
      refine fac_bad g ⟨(y0.clF wh).2, ?_, b2⟩
      have q2 : y.q1 = (false, (y0.clF wh).2) := by rw [q1e, od3q_f b1]
      rw [QR_f q.1 k0 (by rw [q2]), q2]
end FA
end
section
/-! Factors: minuses and parentheses; all depths; a question. -/
theorem psS_st (v : MS) (sg : Nat) : (v.psS sg).stk = (sg, v.frm) :: v.stk := stG_up _ _ _ _ _
theorem kR_rk2 {a b : Int32} (h : kR a b) (hr : rkN a = 1 ∨ rkN a = 2) : b = a := by
  rcases h with ⟨e, -⟩ | ⟨e, -⟩ | ⟨e, -⟩ | ⟨e, -⟩ | ⟨e, -⟩ | ⟨e, -⟩ | ⟨e, -⟩ | ⟨-, e⟩
  · subst e; exfalso; revert hr; decide
  · subst e; exfalso; revert hr; decide
  · subst e; exfalso; revert hr; decide
  · subst e; exfalso; revert hr; decide
  · subst e; exfalso; revert hr; decide
  · subst e; exfalso; revert hr; decide
  · subst e; exfalso; revert hr; decide
  · exact e
theorem opB_st {s p : Nat → Nat} : ∀ {k : Nat}, anyB k (fun i => decide (s i = 40)) = (stG s p k).any (fun a => decide (a.1 = 40))
  | 0 => rfl
  | k + 1 => by
    show (anyB k (fun i => decide (s i = 40)) || decide (s k = 40)) = (decide (s k = 40) || (stG s p k).any (fun a => decide (a.1 = 40)))
    rw [opB_st (p := p), Bool.or_comm]
theorem opnB_e (y : MS) : y.opnB = y.stk.any (fun a => decide (a.1 = 40)) := opB_st
section FP
variable {x : MS} {J : List SP1 → MS → Prop} {Jf : List SP1 → SP1 → MS → Prop} {L : List SP1} {y : MS} {t : TKQ} {S : List (Nat × Nat)}
theorem os_st (hJ : JK x.tape x.length J Jf) (hby : byteF x.tape) (q : x.qat y t true S) (j : J L y) {sg : Nat} (q1e : y.q1 = y.osF sg) (ho : ¬ y.opn = 8) : (∃ y1, y.QR = y1.QR ∧ y.frm < y1.frm ∧ x.qat y1 (nxT x.tape x.length t) true ((sg, t.2.1) :: S) ∧ J L y1 ∧ (nxT x.tape x.length t).2.2.2.2.1 = 0) ∨ (¬ (nxT x.tape x.length t).2.2.2.2.1 = 0 ∧ (nxT x.tape x.length t).1 = 263 ∧ ∃ v, y.QR = (false, v) ∧ flR v (nxT x.tape x.length t)) := by
  obtain ⟨ft, fl, fw⟩ := qat_f q
  have k0 : ¬ y.kind = 0 ∨ y.wants = true := Or.inr q.2.2.1
  have q2 : y.q1 = (y.psS sg).nx := q1e.trans (if_neg ho)
  have tp : tkR (y.psS sg) t := q.2.2.2.1
  have lp0 : y.lx := lI_lx q.1
  have lp : (y.psS sg).lx := lp0
  have sp := psS_st y sg
  rw [q.2.2.2.1.2.1, q.2.2.2.2] at sp
  rcases nx_c (y := y.psS sg) ft fl hby tp lp with ⟨n1, n2, n3, n4⟩ | ⟨n1, n2, n3, n4⟩
  · obtain ⟨y1, ey⟩ : ∃ y1, y1 = (y.psS sg).nx.2 := ⟨_, rfl⟩
    obtain ⟨z1, z2, z3, z4⟩ := QR_t (v := y1) q.1 k0 (by rw [q2]; exact n1) (by rw [q2]; exact ey)
    have T := tk_nx (y.psS sg)
    rw [← ey] at n2 T
    exact Or.inl ⟨y1, z1, z4, ⟨z2, qk_tr q.2.1 z3, (tk_f T MS.wants rfl).trans q.2.2.1, n2, (stk_ck (ck_tk T)).trans sp⟩, hJ.1 L (y.psS sg) y1 (hJ.1 L y (y.psS sg) j rfl) (sg_tk T), n4⟩
  · refine Or.inr ⟨n3, n2, (y.psS sg).nx.2, ?_, n4⟩
    rw [QR_f q.1 k0 (by rw [q2]; exact n1), q2]
theorem fac_m (hJ : JK x.tape x.length J Jf) (hby : byteF x.tape) {d : Nat} (hF : FacS x J Jf d) (q : x.qat y t true S) (hc : cO S + (d + 1) = 8) (j : J L y) (h : t.1 = 45) : FacG x J Jf L y S (pOp (pFd d) x.tape x.length t) := by
  have ky : y.kind = 45 := (kR_i q.2.2.2.1.1 (kR_s (by decide))).mpr h
  have ho : ¬ y.opn = 8 := by
    rw [opn_cO q.1, q.2.2.2.2]
    omega
  have q1e : y.q1 = y.osF 109 := by
    unfold MS.q1 MS.odF
    rw [if_pos q.2.2.1, if_pos ky]
  rw [show pOp (pFd d) x.tape x.length t = ((pFd d x.tape x.length (nxT x.tape x.length t)).1, (pFd d x.tape x.length (nxT x.tape x.length t)).2.1, (pFd d x.tape x.length (nxT x.tape x.length t)).2.2 ++ [spO 265 t.2.1 0]) from if_neg (by rw [h]; decide)]
  rcases os_st hJ hby q j q1e ho with ⟨y1, a1, a2, a3, a4, a5⟩ | ⟨a1, a2, a3⟩
  · obtain ⟨s1, s2⟩ := hF L y1 (nxT x.tape x.length t) ((109, t.2.1) :: S) a3 (by
      show cO S + 1 + d = 8
      omega) a4
    have e1 : topsM ((109, t.2.1) :: S) = (109, t.2.1) :: topsM S := rfl
    have e2 : restM ((109, t.2.1) :: S) = restM S := rfl
    rw [e1, e2] at s1
    generalize pFd d x.tape x.length (nxT x.tape x.length t) = R at s1 s2
    have e3 : L ++ (R.2.2 ++ ((109, t.2.1) :: topsM S).map fls) = L ++ ((R.2.2 ++ [spO 265 t.2.1 0]) ++ (topsM S).map fls) := by
      rw [List.map_cons, List.append_assoc]
      rfl
    rw [e3] at s1
    refine ⟨fun g => ?_, fun g w => ?_⟩
    · rcases s1 g with ⟨y', u1, u2, u3, u4, u5⟩ | ⟨u0, v, u1, u2⟩
      · exact Or.inl ⟨y', u1, a1.trans u2, Nat.lt_trans a2 u3, u4, u5⟩
      · exact Or.inr ⟨u0, v, a1.trans u1, u2⟩
    · obtain ⟨v, u1, u2⟩ := s2 g w
      exact ⟨v, a1.trans u1, u2⟩
  · obtain ⟨X, eX⟩ := (pFd_gF d x.tape x.length (nxT x.tape x.length t)).2 a2 a1
    rw [eX]
    exact fac_bad a1 a3
theorem fac_p (hJ : JK x.tape x.length J Jf) (hby : byteF x.tape) {d : Nat} (hF : FacS x J Jf d) (q : x.qat y t true S) (hc : cO S + (d + 1) = 8) (j : J L y) (h : t.1 = 40) : FacG x J Jf L y S (pOp (pFd d) x.tape x.length t) := by
  have ky : y.kind = 40 := (kR_i q.2.2.2.1.1 (kR_s (by decide))).mpr h
  have ho : ¬ y.opn = 8 := by
    rw [opn_cO q.1, q.2.2.2.2]
    omega
  have q1e : y.q1 = y.osF 40 := by
    unfold MS.q1 MS.odF
    rw [if_pos q.2.2.1, if_neg (by rw [ky]; decide), if_pos ky]
  rw [show pOp (pFd d) x.tape x.length t = pOc x.tape x.length (pEx (pTm (pFd d)) x.tape x.length (nxT x.tape x.length t)) from if_pos h]
  have hE := sub_E hJ hby (pFd_gF d) (fac_sub hF)
  have gE := opF_g (opF_g (pFd_gF d) (P := isTq) (by decide)) (P := isAd) (by decide)
  rcases os_st hJ hby q j q1e ho with ⟨y1, a1, a2, a3, a4, a5⟩ | ⟨a1, a2, a3⟩
  · obtain ⟨s1, s2⟩ := hE L y1 (nxT x.tape x.length t) ((40, t.2.1) :: S) a3 (Or.inr ⟨_, _, rfl, show rkM 40 ≤ 0 by decide⟩) (by
      show cO S + 1 + d = 8
      omega) a4
    have gR : gtP (pEx (pTm (pFd d)) x.tape x.length (nxT x.tape x.length t)).1 (pEx (pTm (pFd d)) x.tape x.length (nxT x.tape x.length t)).2.1 := (gE x.tape x.length (nxT x.tape x.length t)).1 (gt_0 a5)
    generalize pEx (pTm (pFd d)) x.tape x.length (nxT x.tape x.length t) = R at s1 s2 gR
    have px : (pOc x.tape x.length R).2.2 = R.2.2 := by
      unfold pOc
      split <;> rfl
    by_cases g : R.2.1.2.2.2.2.1 = 0
    · rcases s1 g with ⟨y2, S0, P, u1, u2, u3, u4, u5, u6, u7, u8⟩ | ⟨u0, v, u1, u2⟩
      · have er : pOc x.tape x.length R = ((tkT x.tape x.length R.2.1 41).1, (tkT x.tape x.length R.2.1 41).2, R.2.2) := if_pos u1
        obtain ⟨ft, fl, fw⟩ := qat_f u7
        have tk := u7.2.2.2.1
        have oi := lI_1 u7.1 u7.2.2.1
        have ro : ¬ (rkN y2.kind = 1 ∨ rkN y2.kind = 2) := fun e => by
          have e2 := kR_rk2 tk.1 e
          rw [← e2] at e
          rcases e with e | e
          · exact u2 1 (by decide) (by decide) e
          · exact u2 2 (by decide) (by decide) e
        have op : y2.opnB = true := by
          rw [opnB_e, u7.2.2.2.2, List.any_append, List.any_cons]
          simp
        have yy := a1.trans u5
        by_cases c : y2.kind = 41
        · have k0 : ¬ y2.kind = 0 ∨ y2.wants = true := Or.inl (by rw [c]; decide)
          have t41 : tkT x.tape x.length R.2.1 41 = (true, nxT x.tape x.length R.2.1) := if_pos ((kR_i tk.1 (kR_s (by decide))).mp c)
          rw [er, t41]
          have q2 : y2.q1 = y2.opr2 := by
            unfold MS.q1 MS.opr
            rw [if_neg (by rw [u7.2.2.1]; decide), if_neg ro, if_pos ⟨c, op⟩]
          rcases dt_J hJ (rk := 1) (by decide) (S := (40, t.2.1) :: S) (Or.inr ⟨_, _, rfl, show rkM 40 < 1 by decide⟩) (oI_dI oi) u7.2.2.2.2 (fun a ha => (u4 a ha).2) u8 with ⟨b1, b2, b3⟩ | ⟨b1, b2, b3⟩
          · obtain ⟨v, ev⟩ : ∃ v, v = (y2.dt 1).2 := ⟨_, rfl⟩
            obtain ⟨t1, t2, t3⟩ := tkR_dt (by decide) oi (show y2.dt 1 = (true, v) from Prod.ext b1 ev.symm) tk
            rw [← ev] at b2 b3
            rw [List.append_assoc, ← u3] at b2
            have q3 : y2.q1 = MS.od3 v.pop4.nx := by
              rw [q2]
              unfold MS.opr2
              rw [if_pos b1, ev]
            obtain ⟨c1, c2, c3, c4⟩ := stk_c b3
            have sp : v.pop4.stk = S := c4
            obtain ⟨i1, i2⟩ := pop4_sI t2.2.2.2.1 c1 c2
            have tp : tkR v.pop4 R.2.1 := t1
            have lp : v.pop4.lx := t2.1
            have jp : J (L ++ R.2.2) v.pop4 := hJ.1 _ v v.pop4 b2 rfl
            have vf : v.tape = x.tape := (dk_f t3 MS.tape rfl).trans ft
            have vl : v.length = x.length := (dk_f t3 MS.length rfl).trans fl
            have vw : v.works = x.works := (dk_f t3 MS.works rfl).trans fw
            have vn : v.wants = false := (dk_f t3 MS.wants rfl).trans u7.2.2.1
            rcases nx_c (y := v.pop4) vf vl hby tp lp with ⟨n1, n2, n3, n4⟩ | ⟨n1, n2, n3, n4⟩
            · obtain ⟨u, eu⟩ : ∃ u, u = v.pop4.nx.2 := ⟨_, rfl⟩
              have T := tk_nx v.pop4
              have A := nx_aft (x := v.pop4) t2.1 n1
              have dI := pop4_nx t2 i1 n1
              rw [← eu] at n2 n3 T A dI
              have uw : u.works = v.works := tk_f T MS.works rfl
              have up : u.pile = v.pile := tk_f T MS.pile rfl
              have ou : u.oI 1 := ⟨A.1, A.2.1, A.2.2.2, dI.1, dI.2.1, dI.2.2.1, by rw [tk_f T MS.tape rfl]; exact t2.2.2.2.2.2.2.1, fun w => by rw [up]; exact t2.2.2.2.2.2.2.2 (by rw [← uw]; exact w)⟩
              have q4 : y2.q1 = u.dt 3 := by rw [q3, od3q_t n1, eu]
              have fe := fac_end hJ (L := L ++ R.2.2) (S := S) u7.1 k0 u7.2.1 q4 ou ((tk_f T MS.wants rfl).trans vn) n2 ((stk_ck (ck_tk T)).trans sp) (uw.trans vw) (hJ.1 _ v.pop4 u jp (sg_tk T))
              refine fac_in rfl n4 ?_
              rcases fe with ⟨y', e1, e2, e3, e4⟩ | ⟨e0, v', e1, e2⟩
              · exact Or.inl ⟨y', yy.trans e1, Nat.lt_trans a2 (Nat.lt_trans u6 e2), e3, e4⟩
              · exact Or.inr ⟨e0, v', yy.trans e1, e2⟩
            · have q4 : y2.q1 = (false, v.pop4.nx.2) := by rw [q3, od3q_f n1]
              refine fac_bad n3 ⟨v.pop4.nx.2, ?_, n4⟩
              rw [yy, QR_f u7.1 k0 (by rw [q4]), q4]
          · have wt : x.works = true := fw.symm.trans b3
            have q3 : y2.q1 = (false, (y2.dt 1).2) := by
              rw [q2]
              unfold MS.opr2
              rw [if_neg (by rw [b1]; decide)]
            refine ⟨fun _ => Or.inr ⟨wt, (y2.dt 1).2, ?_, ?_⟩, fun _ e => by rw [wt] at e; cases e⟩
            · rw [yy, QR_f u7.1 k0 (by rw [q3]), q3]
            · show FFq Jf (L ++ (R.2.2 ++ (topsM S).map fls)) _
              rw [u3, ← List.append_assoc, ← List.append_assoc]
              exact FF_m b2 _
        · have t41 : tkT x.tape x.length R.2.1 41 = (false, rfT R.2.1 2 R.2.1.2.1) := if_neg (fun e => c ((kR_i tk.1 (kR_s (by decide))).mpr e))
          rw [er, t41]
          refine fac_bad (rfT_n g (by decide)) ⟨y2.flS 2 y2.frm, ?_, ?_⟩
          · rw [yy]
            by_cases k : y2.kind = 0
            · rw [QR_e u7.1 k u7.2.2.1]
              exact if_pos op
            · have q2 : y2.q1 = (false, y2.flS 2 y2.frm) := by
                unfold MS.q1 MS.opr
                rw [if_neg (by rw [u7.2.2.1]; decide), if_neg ro, if_neg (fun e => c e.1)]
              rw [QR_f u7.1 (Or.inl k) (by rw [q2]), q2]
          · show flR _ (rfT R.2.1 2 R.2.1.2.1)
            rw [rfT_0 g]
            exact ⟨rfl, congrArg nI tk.2.1⟩
      · refine ⟨fun _ => Or.inr ⟨u0, v, a1.trans u1, ?_⟩, fun _ e => by rw [u0] at e; cases e⟩
        rw [px, ← List.append_assoc]
        exact FF_m u2 _
    · have er : pOc x.tape x.length R = (false, R.2.1, R.2.2) := by
        unfold pOc
        cases hb : R.1 with
        | false =>
          rw [if_neg (by decide)]
          exact Prod.ext hb rfl
        | true => rw [if_pos rfl, tkT_b (gR hb g) (by decide) g]
      rw [er]
      refine ⟨fun e => absurd e g, fun _ w => ?_⟩
      obtain ⟨v, v1, v2⟩ := s2 g w
      exact ⟨v, a1.trans v1, v2⟩
  · obtain ⟨X, eX⟩ := (gE x.tape x.length (nxT x.tape x.length t)).2 a2 a1
    rw [show pEx (pTm (pFd d)) x.tape x.length (nxT x.tape x.length t) = (false, nxT x.tape x.length t, X) from eX]
    exact fac_bad a1 a3
theorem fac_d (hJ : JK x.tape x.length J Jf) (hby : byteF x.tape) {O : PF} (q : x.qat y t true S) (j : J L y) (hO : isOo t.1 → FacG x J Jf L y S (O x.tape x.length t)) : FacG x J Jf L y S (pFc O x.tape x.length t) := by
  unfold pFc
  by_cases c1 : t.1 = 257
  · rw [if_pos c1]
    exact fac_n hJ hby q j c1
  · rw [if_neg c1]
    by_cases c2 : t.1 = 258
    · rw [if_pos c2]
      exact fac_c hJ hby q j c2
    · rw [if_neg c2]
      by_cases c3 : t.1 = 40 ∨ t.1 = 45
      · rw [if_pos c3]
        exact hO c3
      · rw [if_neg c3]
        have tk := q.2.2.2.1
        have e1 : ¬ y.kind = 1 := fun e => c1 ((kR_i tk.1 kR_1).mp e)
        have e2 : ¬ y.kind = 2 := fun e => c2 ((kR_i tk.1 kR_2).mp e)
        have e3 : ¬ y.kind = 40 := fun e => c3 (Or.inl ((kR_i tk.1 (kR_s (by decide))).mp e))
        have e4 : ¬ y.kind = 45 := fun e => c3 (Or.inr ((kR_i tk.1 (kR_s (by decide))).mp e))
        refine fac_r q (by decide) ⟨MS.s_wants y false, ?_⟩
        unfold MS.q1 MS.odF
        rw [if_pos q.2.2.1, if_neg e4, if_neg e3, fnI_n (y := MS.s_wants y false) e2, if_pos (by decide), if_neg e1]
theorem fac_all (hJ : JK x.tape x.length J Jf) (hby : byteF x.tape) : ∀ d, FacS x J Jf d
  | 0 => fun L y t S q hc j => fac_d hJ hby q j (fun c => by
    have ho : y.opn = 8 := by
      rw [opn_cO q.1, q.2.2.2.2]
      omega
    have tk := q.2.2.2.1
    refine fac_r q (by decide) ⟨y, ?_⟩
    unfold MS.q1 MS.odF
    rw [if_pos q.2.2.1]
    rcases c with c | c
    · have e : y.kind = 40 := (kR_i tk.1 (kR_s (by decide))).mpr c
      rw [if_neg (by rw [e]; decide), if_pos e]
      exact if_pos ho
    · have e : y.kind = 45 := (kR_i tk.1 (kR_s (by decide))).mpr c
      rw [if_pos e]
      exact if_pos ho)
  | d + 1 => fun L y t S q hc j => fac_d hJ hby q j (fun c => by
    rcases c with c | c
    · exact fac_p hJ hby (fac_all hJ hby d) q hc j c
    · exact fac_m hJ hby (fac_all hJ hby d) q hc j c)
end FP
end
section
/-! A question: read by signs, read by descent. -/
section QU
variable {x : MS} {J : List SP1 → MS → Prop} {Jf : List SP1 → SP1 → MS → Prop} {how : Bool} {ts : TKQ}
theorem qRd_b {R : PR} (h : gtP R.1 R.2.1) (hc : ¬ R.2.1.2.2.2.2.1 = 0) : ∃ X, qRd R = (false, R.2.1, X) := by
  unfold qRd
  cases hb : R.1 with
  | false => exact ⟨R.2.2, by rw [if_neg (by decide)]; exact Prod.ext hb rfl⟩
  | true =>
    rw [if_pos rfl, if_neg (by rw [h hb hc]; decide), rfT_1 hc]
    exact ⟨_, rfl⟩
theorem qu_q (h : x.qW how) (hJ : JK x.tape x.length J Jf) (e1 : ts.2.2.1 = 0) (e2 : ts.2.2.2.2.1 = 0) (e3 : x.faultPlace = ts.2.2.2.2.2) (j : J [] (x.qu0 how)) :
    ((qRd (pQ x.tape x.length (nxT x.tape x.length ts))).2.1.2.2.2.2.1 = 0 → (∃ v, (qRd (pQ x.tape x.length (nxT x.tape x.length ts))).1 = true ∧ x.quF how = (true, v) ∧ J (qRd (pQ x.tape x.length (nxT x.tape x.length ts))).2.2 v ∧ flR v (qRd (pQ x.tape x.length (nxT x.tape x.length ts))).2.1) ∨ (how = true ∧ ∃ v, x.quF how = (false, v) ∧ FFq Jf (qRd (pQ x.tape x.length (nxT x.tape x.length ts))).2.2 v)) ∧
    (¬ (qRd (pQ x.tape x.length (nxT x.tape x.length ts))).2.1.2.2.2.2.1 = 0 → how = false → (qRd (pQ x.tape x.length (nxT x.tape x.length ts))).1 = false ∧ ∃ v, x.quF how = (false, v) ∧ flR v (qRd (pQ x.tape x.length (nxT x.tape x.length ts))).2.1) := by
  have hby := h.2.2.1
  have nq := nx_q (m := x.qu0 how) (t := ts) hby e1.symm (Nat.zero_le _) e2 h.2.1 e3
  have nq : nxR (x.qu0 how).nx (nxT x.tape x.length ts) := nq
  have gE : gFq pQ := opF_g (opF_g (pFd_gF 8) (P := isTq) (by decide)) (P := isAd) (by decide)
  obtain ⟨y, ey⟩ : ∃ y, y = (x.qu0 how).nx.2 := ⟨_, rfl⟩
  rw [quF_0 ey]
  rcases nq with ⟨n1, n2⟩ | ⟨n1, n2, n3, n4⟩
  · obtain ⟨li, qk⟩ := qu0_lI h n1
    have T := tk_nx (x.qu0 how)
    rw [← ey] at n2 li qk T
    have ly : y.length = x.length := tk_f T MS.length rfl
    have ty : y.tape = x.tape := tk_f T MS.tape rfl
    rw [if_pos n1, show MS.quR (x.length + 1) y = y.QR from QR_w _ _ _ y li (Nat.le_refl _) (by omega) (Nat.le_refl _)]
    have sy : y.stk = [] := (stk_ck (ck_tk T)).trans rfl
    have wy : y.wants = true := tk_f T MS.wants rfl
    have jy := hJ.1 [] _ y j (sg_tk T)
    obtain ⟨X, eX⟩ : ∃ X, X = MS.s_works x how := ⟨_, rfl⟩
    rw [← eX] at qk
    have hX : X.tape = x.tape ∧ X.length = x.length ∧ X.works = how := by rw [eX]; exact ⟨rfl, rfl, rfl⟩
    have hJX : JK X.tape X.length J Jf := by rw [hX.1, hX.2.1]; exact hJ
    have hbX : byteF X.tape := by rw [hX.1]; exact hby
    have S := sub_E hJX hbX (pFd_gF 8) (fac_sub (fac_all hJX hbX 8)) [] y (nxT x.tape x.length ts) [] ⟨li, qk, wy, n2, sy⟩ (Or.inl rfl) (by rfl) jy
    rw [hX.1, hX.2.1] at S
    obtain ⟨s1, s2⟩ := (show SubG X J Jf [] y [] 0 (pQ x.tape x.length (nxT x.tape x.length ts)) from S)
    have gR := (gE x.tape x.length (nxT x.tape x.length ts)).1 (gt_0 n2.2.2.2.2.2.1)
    generalize pQ x.tape x.length (nxT x.tape x.length ts) = R at s1 s2 gR
    rw [hX.2.2] at s1 s2
    by_cases g : R.2.1.2.2.2.2.1 = 0
    · rcases s1 g with ⟨y2, S0, P, u1, u2, u3, u4, u5, u6, u7, u8⟩ | ⟨u0, v, u1, u2⟩
      · have tk := u7.2.2.2.1
        have oi := lI_1 u7.1 u7.2.2.1
        have fw := (qat_f u7).2.2
        rw [List.append_nil] at u7
        rw [List.nil_append] at u8
        have ro : ¬ (rkN y2.kind = 1 ∨ rkN y2.kind = 2) := fun e => by
          have e2 := kR_rk2 tk.1 e
          rw [← e2] at e
          rcases e with e | e
          · exact u2 1 (by decide) (by decide) e
          · exact u2 2 (by decide) (by decide) e
        have op : y2.opnB = false := by
          rw [opnB_e, u7.2.2.2.2, List.any_eq_false]
          intro a ha e
          exact (bin_c (u4 a ha).1).2.2.2.2.2 (of_decide_eq_true e)
        unfold qRd
        rw [if_pos u1]
        by_cases k : y2.kind = 0
        · have e : R.2.1.1 = 256 := (kR_i tk.1 kR_0).mp k
          rw [if_pos e, u5, QR_e u7.1 k u7.2.2.1, show y2.qu3 = y2.dt 1 from if_neg (by rw [op]; decide)]
          refine ⟨fun _ => ?_, fun e => absurd g e⟩
          rcases dt_J hJ (rk := 1) (by decide) (S := []) (Or.inl rfl) (oI_dI oi) (by rw [u7.2.2.2.2, List.append_nil]) (fun a ha => (u4 a ha).2) u8 with ⟨b1, b2, b3⟩ | ⟨b1, b2, b3⟩
          · obtain ⟨v, ev⟩ : ∃ v, v = (y2.dt 1).2 := ⟨_, rfl⟩
            obtain ⟨t1, t2, t3⟩ := tkR_dt (by decide) oi (show y2.dt 1 = (true, v) from Prod.ext b1 ev.symm) tk
            rw [← ev, ← u3] at b2
            exact Or.inl ⟨v, u1, Prod.ext b1 ev.symm, b2, t1.2.2.2.2.1.trans t1.2.2.2.2.2.1.symm, t1.2.2.2.2.2.2⟩
          · rw [← u3] at b2
            exact Or.inr ⟨(fw.trans hX.2.2).symm.trans b3, (y2.dt 1).2, Prod.ext b1 rfl, b2⟩
        · have e : ¬ R.2.1.1 = 256 := fun e => k ((kR_i tk.1 kR_0).mpr e)
          rw [if_neg e, u5]
          have q2 : y2.q1 = (false, y2.flS 2 y2.frm) := by
            unfold MS.q1 MS.opr
            rw [if_neg (by rw [u7.2.2.1]; decide), if_neg ro, if_neg (fun e => by rw [op] at e; exact absurd e.2 (by decide))]
          rw [QR_f u7.1 (Or.inl k) (by rw [q2]), q2]
          refine ⟨fun e => absurd e (rfT_n g (by decide)), fun _ _ => ⟨rfl, _, rfl, ?_⟩⟩
          show flR _ (rfT R.2.1 2 R.2.1.2.1)
          rw [rfT_0 g]
          exact ⟨rfl, congrArg nI tk.2.1⟩
      · rw [List.nil_append] at u2
        have qx : (qRd R).2.2 = R.2.2 := by
          unfold qRd
          split
          · split <;> rfl
          · rfl
        rw [u1, qx]
        exact ⟨fun _ => Or.inr ⟨u0, v, rfl, u2⟩, fun _ e => by rw [u0] at e; cases e⟩
    · obtain ⟨X', eX'⟩ := qRd_b gR g
      rw [eX']
      refine ⟨fun e => absurd e g, fun _ w => ⟨rfl, ?_⟩⟩
      exact s2 g w
  · obtain ⟨X, eX⟩ := (gE x.tape x.length (nxT x.tape x.length ts)).2 n2 n3
    rw [eX, if_neg (by rw [n1]; decide), ey]
    exact ⟨fun e => absurd e n3, fun _ _ => ⟨rfl, _, rfl, n4⟩⟩
end QU
end
section
/-! The value of a name in a text of labels: the two ways. -/
theorem gd_r (A B : List Int32) (q : Nat) : (A ++ B).getD (A.length + q) 0 = B.getD q 0 := by
  rw [List.getD_eq_getElem?_getD, List.getD_eq_getElem?_getD, List.getElem?_append_right (Nat.le_add_right _ _), Nat.add_sub_cancel_left]
theorem gd_l (A B : List Int32) {q : Nat} (h : q < A.length) : (A ++ B).getD q 0 = A.getD q 0 := by
  rw [List.getD_eq_getElem?_getD, List.getD_eq_getElem?_getD, List.getElem?_append_left h]
theorem jp_pre (S : List LB) (m : Nat) : ∀ d, ∃ X, joinP S (m + d) = joinP S m ++ X
  | 0 => ⟨[], (List.append_nil _).symm⟩
  | d + 1 => by
    obtain ⟨X, e⟩ := jp_pre S m d
    refine ⟨X ++ ((if m + d = 0 then [] else [44]) ++ ((lab S (m + d)).1 ++ (61 :: (lab S (m + d)).2))), ?_⟩
    rw [← List.append_assoc, ← e]
    rfl
/-- where label i begins -/
def lbO (S : List LB) (i : Nat) : Nat := (joinP S i).length + (if i = 0 then 0 else 1)
theorem jT_at {S : List LB} {i : Nat} (h : i < S.length) : ∃ A X, joinT S = A ++ ((lab S i).1 ++ (61 :: ((lab S i).2 ++ X))) ∧ A.length = lbO S i ∧ ((i + 1 = S.length ∧ X = []) ∨ (i + 1 < S.length ∧ ∃ Y, X = 44 :: Y)) := by
  have e1 : joinP S (i + 1) = joinP S i ++ ((if i = 0 then [] else [44]) ++ ((lab S i).1 ++ (61 :: (lab S i).2))) := rfl
  have la : (joinP S i ++ (if i = 0 then [] else [44])).length = lbO S i := by
    unfold lbO
    rw [List.length_append]
    split <;> rfl
  by_cases c : i + 1 = S.length
  · refine ⟨joinP S i ++ (if i = 0 then [] else [44]), [], ?_, la, Or.inl ⟨c, rfl⟩⟩
    unfold joinT
    rw [← c, e1, List.append_nil, List.append_assoc]
  · obtain ⟨X, eX⟩ := jp_pre S (i + 2) (S.length - (i + 2))
    rw [show i + 2 + (S.length - (i + 2)) = S.length by omega] at eX
    have e2 : joinP S (i + 2) = joinP S (i + 1) ++ ([44] ++ ((lab S (i + 1)).1 ++ (61 :: (lab S (i + 1)).2))) := rfl
    refine ⟨joinP S i ++ (if i = 0 then [] else [44]), 44 :: (((lab S (i + 1)).1 ++ (61 :: (lab S (i + 1)).2)) ++ X), ?_, la, Or.inr ⟨by omega, _, rfl⟩⟩
    unfold joinT
    rw [eX, e2, e1]
    simp only [List.append_assoc, List.cons_append, List.nil_append]
theorem fb_at {t : Nat → Int32} {v : Int32} {en : Nat} : ∀ {m k : Nat}, (∀ q, q < m → ¬ t (k + q) = v) → (k + m = en ∨ (k + m < en ∧ t (k + m) = v)) → fbG t v en (en - k) k = k + m
  | 0, k, _, h => by
    rcases h with h | ⟨_, h⟩
    · exact fbG_e (by omega)
    · exact fbG_y h
  | m + 1, k, h0, h => by
    have hk : k < en := by
      rcases h with h | h
      · omega
      · omega
    rw [fbG_n hk (h0 0 (by omega)), fb_at (m := m) (k := k + 1) (fun q hq => by rw [show k + 1 + q = k + (q + 1) by omega]; exact h0 (q + 1) (by omega)) (by rw [show k + 1 + m = k + (m + 1) by omega]; exact h)]
    omega
/-- no '=' in a name, no ',' in a value -/
def serW (S : List LB) : Prop := ∀ i, i < S.length → (∀ q, q < (lab S i).1.length → ¬ (lab S i).1.getD q 0 = 61) ∧ (∀ q, q < (lab S i).2.length → ¬ (lab S i).2.getD q 0 = 44)
def valF (S : List LB) (M : List Int32) (i : Nat) : List Int32 := match frst (vsB S M) (S.length - i) i with
  | none => []
  | some j => (lab S j).2
/-- a value found -/
def voR (t : Nat → Int32) (W : List Int32) (z : Nat × Nat × Bool) : Prop := z.2.1 = W.length ∧ ∀ q, q < W.length → t (z.1 + q) = W.getD q 0
section VO
variable {S : List LB} {t tp : Nat → Int32} {b nm n : Nat}
theorem voM_s {en k : Nat} {N : List Int32} (he : eqP t en k = k + N.length) (hN : ∀ q, q < N.length → t (k + q) = N.getD q 0) : voM t tp en nm n k = sameW N (seg tp nm (nm + n)) := by
  unfold voM sameW
  rw [he, Nat.add_sub_cancel_left, seg_len, Nat.add_sub_cancel_left]
  by_cases c : N.length = n
  · rw [c]
    congr 1
    refine allB_ext (fun j hj => ?_)
    unfold txEq smB
    rw [hN j (by omega), seg_get tp (by omega)]
  · rw [decide_eq_false c]
    rfl
theorem vo_q (hw : serW S) (hT : ∀ i, i < (joinT S).length → t (b + i) = (joinT S).getD i 0) : ∀ (d i w : Nat), S.length - i = d → i ≤ S.length → d ≤ w → voR t (valF S (seg tp nm (nm + n)) i) (voG t tp (b + (joinT S).length) nm n w (b + lbO S i))
  | 0, i, w, hd, hi, hwd => by
    have ei : i = S.length := by omega
    have e0 : valF S (seg tp nm (nm + n)) i = [] := by
      unfold valF
      rw [show S.length - i = 0 by omega]
      rfl
    have e1 : voG t tp (b + (joinT S).length) nm n w (b + lbO S i) = (0, 0, false) := by
      cases w with
      | zero => rfl
      | succ w =>
        refine if_pos ?_
        rw [ei]
        unfold lbO joinT
        omega
    rw [e0, e1]
    exact ⟨rfl, fun q hq => absurd hq (Nat.not_lt_zero q)⟩
  | d + 1, i, w, hd, hi, hwd => by
    have il : i < S.length := by omega
    obtain ⟨A, X, ej, la, hX⟩ := jT_at il
    obtain ⟨w1, w2⟩ := hw i il
    obtain ⟨N, eN⟩ : ∃ N, N = (lab S i).1 := ⟨_, rfl⟩
    obtain ⟨V, eV⟩ : ∃ V, V = (lab S i).2 := ⟨_, rfl⟩
    rw [← eN] at w1 ej
    rw [← eV] at w2 ej
    have hl : (joinT S).length = lbO S i + N.length + 1 + V.length + X.length := by
      rw [ej, List.length_append, List.length_append, List.length_cons, List.length_append, la]
      omega
    have A1 : ∀ q, q < N.length → t (b + lbO S i + q) = N.getD q 0 := fun q hq => by
      rw [Nat.add_assoc, hT _ (by omega), ej, ← la, gd_r, gd_l _ _ hq]
    have A2 : t (b + lbO S i + N.length) = 61 := by
      rw [Nat.add_assoc, hT _ (by omega), ej, ← la, gd_r]
      have := gd_r N (61 :: (V ++ X)) 0
      rw [Nat.add_zero] at this
      rw [this]
      rfl
    have A3 : ∀ q, t (b + lbO S i + N.length + (1 + q)) = (V ++ X).getD q 0 ∨ ¬ q < (V ++ X).length := fun q => by
      by_cases hq : q < (V ++ X).length
      · refine Or.inl ?_
        rw [List.length_append] at hq
        rw [show b + lbO S i + N.length + (1 + q) = b + (lbO S i + (N.length + (q + 1))) by omega, hT _ (by omega), ej, ← la, gd_r, gd_r]
        rfl
      · exact Or.inr hq
    have A4 : ∀ q, q < V.length → t (b + lbO S i + N.length + (1 + q)) = V.getD q 0 := fun q hq => by
      rw [(A3 q).resolve_right (by rw [List.length_append]; omega), gd_l _ _ hq]
    have E1 : eqP t (b + (joinT S).length) (b + lbO S i) = b + lbO S i + N.length := fb_at (fun q hq => by rw [A1 q hq]; exact w1 q hq) (Or.inr ⟨by omega, A2⟩)
    have E2 : cmP t (b + (joinT S).length) (b + lbO S i + N.length) = b + lbO S i + N.length + (1 + V.length) := by
      refine fb_at (fun q hq => ?_) ?_
      · cases q with
        | zero => rw [Nat.add_zero, A2]; decide
        | succ q =>
          rw [Nat.add_comm q 1, A4 q (by omega)]
          exact w2 q (by omega)
      · rcases hX with ⟨_, e⟩ | ⟨_, Y, e⟩
        · refine Or.inl ?_
          rw [e] at hl
          have hl : (joinT S).length = lbO S i + N.length + 1 + V.length + 0 := hl
          omega
        · refine Or.inr ⟨?_, ?_⟩
          · rw [e, List.length_cons] at hl
            omega
          · rw [(A3 V.length).resolve_right (by rw [e, List.length_append, List.length_cons]; omega), e]
            have := gd_r V (44 :: Y) 0
            rw [Nat.add_zero] at this
            rw [this]
            rfl
    obtain ⟨w', rfl⟩ : ∃ w', w = w' + 1 := ⟨w - 1, by omega⟩
    have vm := voM_s (tp := tp) (nm := nm) (n := n) (N := N) E1 A1
    have hk : ¬ b + (joinT S).length ≤ b + lbO S i := by omega
    cases c : sameW N (seg tp nm (nm + n)) with
    | true =>
      rw [c] at vm
      rw [voG_t (Nat.succ_pos w') hk E1 E2 vm]
      have e0 : valF S (seg tp nm (nm + n)) i = V := by
        unfold valF
        rw [frst_t (by omega) (show vsB S (seg tp nm (nm + n)) i = true by unfold vsB; rw [← eN]; exact c)]
        exact eV.symm
      rw [e0]
      refine ⟨by show b + lbO S i + N.length + (1 + V.length) - (b + lbO S i + N.length) - 1 = V.length; omega, fun q hq => ?_⟩
      show t (b + lbO S i + N.length + 1 + q) = _
      rw [Nat.add_assoc (b + lbO S i + N.length) 1 q]
      exact A4 q hq
    | false =>
      rw [c] at vm
      rw [voG_f (Nat.succ_pos w') hk E1 E2 vm]
      have e0 : valF S (seg tp nm (nm + n)) i = valF S (seg tp nm (nm + n)) (i + 1) := by
        unfold valF
        rw [frst_f (by omega) (show vsB S (seg tp nm (nm + n)) i = false by unfold vsB; rw [← eN]; exact c), show S.length - i - 1 = S.length - (i + 1) by omega]
      have e3 : b + lbO S i + N.length + (1 + V.length) + 1 = b + lbO S (i + 1) := by
        have q1 := jp_len S i
        rw [← eN, ← eV] at q1
        unfold lbO
        rw [if_neg (Nat.succ_ne_zero i)]
        unfold lbO at hk
        split at q1
        · rename_i g
          rw [if_pos g]
          omega
        · rename_i g
          rw [if_neg g]
          omega
      rw [e0, e3]
      exact vo_q hw hT d (i + 1) w' (by omega) (by omega) (by omega)
theorem vo_val {x : MS} {s : Nat} {SS : Nat → List LB} (hx : txR x.texts x.textLengths x.seriesCount SS) (hs : s < x.seriesCount) (hw : serW (SS s)) (hl : (SS s).length ≤ 6) (nm n : Nat) : voR x.texts (valS (SS s) (seg x.tape nm (nm + n))) (x.vo s nm n) := by
  obtain ⟨h1, -, h3⟩ := hx s hs
  have q := vo_q (t := x.texts) (tp := x.tape) (b := 304 * s) (nm := nm) (n := n) hw h3 _ 0 7 rfl (Nat.zero_le _) (by omega)
  unfold MS.vo
  rw [h1]
  exact q
end VO
end
section
/-! Rows by the values of names: the order, the two ways. -/
/-- a series as it is read: words -/
def serG (S : List LB) : Prop := serOk S ∧ serW S ∧ ∀ i, i < S.length → asc (lab S i).2
theorem valS_a {S : List LB} (h : serG S) (M : List Int32) : asc (valS S M) ∧ (valS S M).length ≤ 24 := by
  refine ⟨?_, valS_le h.1⟩
  cases e : frst (vsB S M) S.length 0 with
  | none => rw [valS_n e]; exact fun v hv => by cases hv
  | some k =>
    rw [valS_s e]
    have := frst_lt e
    exact h.2.2 k (by omega)
theorem seg_eq {f : Nat → Int32} {a b : Nat} {W : List Int32} (h1 : b - a = W.length) (h2 : ∀ i, i < W.length → f (a + i) = W.getD i 0) : seg f a b = W := by
  apply List.ext_getElem
  · rw [seg_len, h1]
  · intro i h3 h4
    have h5 := seg_get f (a := a) (b := b) (i := i) (by rw [h1]; exact h4)
    rw [List.getD_eq_getElem?_getD, List.getElem?_eq_getElem h3] at h5
    have h6 := h2 i h4
    rw [List.getD_eq_getElem?_getD, List.getElem?_eq_getElem h4] at h6
    exact h5.trans h6
theorem vo_seg {t : Nat → Int32} {W : List Int32} {z : Nat × Nat × Bool} (h : voR t W z) : seg t z.1 (z.1 + z.2.1) = W := seg_eq (by rw [Nat.add_sub_cancel_left]; exact h.1) h.2
section CM
variable {NL : Nat → List Int32} {n : Nat} {S1 S2 S3 : List LB}
theorem ctC_o (h1 : serG S1) (h2 : serG S2) (k : Nat) : (ctC NL S1 S2 k < 0 ↔ ltL (valS S1 (NL k)) (valS S2 (NL k)) = true) ∧ (ctC NL S1 S2 k = 0 ↔ valS S1 (NL k) = valS S2 (NL k)) ∧ (0 < ctC NL S1 S2 k ↔ ltL (valS S2 (NL k)) (valS S1 (NL k)) = true) := by
  obtain ⟨a1, a2⟩ := valS_a h1 (NL k)
  obtain ⟨b1, b2⟩ := valS_a h2 (NL k)
  exact cmpW_o a1 b1 (by omega) (by omega)
theorem ctB_f (h1 : serG S1) (h2 : serG S2) {k : Nat} : ctB NL S1 S2 k = false ↔ valS S1 (NL k) = valS S2 (NL k) := by
  rw [← (ctC_o h1 h2 k).2.1]
  unfold ctB
  rw [Bool.not_eq_false', decide_eq_true_eq]
theorem ctB_t (h1 : serG S1) (h2 : serG S2) {k : Nat} : ctB NL S1 S2 k = true ↔ ¬ valS S1 (NL k) = valS S2 (NL k) := by
  rw [← ctB_f h1 h2, Bool.not_eq_false]
theorem cmT_eq (h1 : serG S1) (h2 : serG S2) : cmT NL n S1 S2 = 0 ↔ ∀ i, i < n → valS S1 (NL i) = valS S2 (NL i) := by
  cases e : frst (ctB NL S1 S2) n 0 with
  | none =>
    rw [cmT_n e]
    refine ⟨fun _ i hi => (ctB_f h1 h2).mp (frst_none e i (Nat.zero_le _) (by omega)), fun _ => rfl⟩
  | some k =>
    obtain ⟨a, -, b, -⟩ := frst_some e
    rw [cmT_s e, (ctC_o h1 h2 k).2.1]
    exact ⟨fun g => absurd g ((ctB_t h1 h2).mp a), fun g => g k (by omega)⟩
/-- the first name whose values differ -/
def ltK (NL : Nat → List Int32) (n : Nat) (S1 S2 : List LB) : Prop := ∃ k, k < n ∧ (∀ i, i < k → valS S1 (NL i) = valS S2 (NL i)) ∧ ltL (valS S1 (NL k)) (valS S2 (NL k)) = true
theorem ltK_f (h1 : serG S1) (h2 : serG S2) {k : Nat} (hk : k < n) (he : ∀ i, i < k → valS S1 (NL i) = valS S2 (NL i)) (hn : ¬ valS S1 (NL k) = valS S2 (NL k)) : frst (ctB NL S1 S2) n 0 = some k := frst_mk hk ((ctB_t h1 h2).mpr hn) (fun i hi => (ctB_f h1 h2).mpr (he i hi))
theorem ltL_ne {L M : List Int32} (h : ltL L M = true) : ¬ L = M := fun e => by rw [e, ltL_irr] at h; cases h
theorem cmT_lt (h1 : serG S1) (h2 : serG S2) : cmT NL n S1 S2 < 0 ↔ ltK NL n S1 S2 := by
  cases e : frst (ctB NL S1 S2) n 0 with
  | none =>
    rw [cmT_n e]
    constructor
    · intro g; exact absurd g (by decide)
    · rintro ⟨k, k1, -, k2⟩
      exact absurd ((ctB_f h1 h2).mp (frst_none e k (Nat.zero_le _) (by omega))) (ltL_ne k2)
  | some k =>
    obtain ⟨a, -, b, c⟩ := frst_some e
    rw [cmT_s e, (ctC_o h1 h2 k).1]
    constructor
    · intro g
      exact ⟨k, by omega, fun i hi => (ctB_f h1 h2).mp (c i (Nat.zero_le _) hi), g⟩
    · rintro ⟨j, j1, j2, j3⟩
      have := ltK_f h1 h2 j1 j2 (ltL_ne j3)
      rw [e] at this
      have : k = j := Option.some.inj this
      rw [this]
      exact j3
theorem cmT_gt (h1 : serG S1) (h2 : serG S2) : 0 < cmT NL n S1 S2 ↔ ltK NL n S2 S1 := by
  cases e : frst (ctB NL S1 S2) n 0 with
  | none =>
    rw [cmT_n e]
    constructor
    · intro g; exact absurd g (by decide)
    · rintro ⟨k, k1, -, k2⟩
      exact absurd ((ctB_f h1 h2).mp (frst_none e k (Nat.zero_le _) (by omega))).symm (ltL_ne k2)
  | some k =>
    obtain ⟨a, -, b, c⟩ := frst_some e
    rw [cmT_s e, (ctC_o h1 h2 k).2.2]
    constructor
    · intro g
      exact ⟨k, by omega, fun i hi => ((ctB_f h1 h2).mp (c i (Nat.zero_le _) hi)).symm, g⟩
    · rintro ⟨j, j1, j2, j3⟩
      have := ltK_f h1 h2 j1 (fun i hi => (j2 i hi).symm) (fun q => ltL_ne j3 q.symm)
      rw [e] at this
      have : k = j := Option.some.inj this
      rw [this]
      exact j3
theorem ltK_tr (h12 : ltK NL n S1 S2) (h23 : ltK NL n S2 S3) : ltK NL n S1 S3 := by
  obtain ⟨a, a1, a2, a3⟩ := h12
  obtain ⟨b, b1, b2, b3⟩ := h23
  by_cases c : a < b
  · exact ⟨a, a1, fun i hi => (a2 i hi).trans (b2 i (by omega)), by rw [← b2 a c]; exact a3⟩
  · by_cases d : b < a
    · exact ⟨b, b1, fun i hi => (a2 i (by omega)).trans (b2 i hi), by rw [a2 b d]; exact b3⟩
    · have e : a = b := by omega
      subst e
      exact ⟨a, a1, fun i hi => (a2 i hi).trans (b2 i hi), ltL_tr a3 b3⟩
theorem ltK_irr : ¬ ltK NL n S1 S1 := fun ⟨_, _, _, h⟩ => ltL_ne h rfl
/-- the same values -/
def eqK (NL : Nat → List Int32) (n : Nat) (S1 S2 : List LB) : Prop := ∀ i, i < n → valS S1 (NL i) = valS S2 (NL i)
theorem ltK_e1 (h : eqK NL n S1 S2) (g : ltK NL n S1 S3) : ltK NL n S2 S3 := by
  obtain ⟨a, a1, a2, a3⟩ := g
  exact ⟨a, a1, fun i hi => (h i (by omega)).symm.trans (a2 i hi), by rw [← h a a1]; exact a3⟩
theorem ltK_e2 (h : eqK NL n S1 S2) (g : ltK NL n S3 S1) : ltK NL n S3 S2 := by
  obtain ⟨a, a1, a2, a3⟩ := g
  exact ⟨a, a1, fun i hi => (a2 i hi).trans (h i (by omega)), by rw [← h a a1]; exact a3⟩
theorem cmT_3 (h1 : serG S1) (h2 : serG S2) : ltK NL n S1 S2 ∨ eqK NL n S1 S2 ∨ ltK NL n S2 S1 := by
  by_cases c : cmT NL n S1 S2 < 0
  · exact Or.inl ((cmT_lt h1 h2).mp c)
  · by_cases d : cmT NL n S1 S2 = 0
    · exact Or.inr (Or.inl ((cmT_eq h1 h2).mp d))
    · exact Or.inr (Or.inr ((cmT_gt h1 h2).mp (Int32.lt_of_le_of_ne (Int32.not_lt.mp c) (fun e => d e.symm))))
end CM
/-- the reference's compare of two series by the names of a table -/
theorem cr_eq {x : MS} {tb nc a b : Nat} {NL : Nat → List Int32} {SS : Nat → List LB} (hn : nmRe x tb nc NL) (hx : txR x.texts x.textLengths x.seriesCount SS) (ha : a < x.seriesCount) (hb : b < x.seriesCount) (ga : serG (SS a)) (gb : serG (SS b)) : (x.cr tb a b).1 = cmT NL nc (SS a) (SS b) := by
  have hc : ∀ k, k < nc → x.cmR tb a b k = ctC NL (SS a) (SS b) k := fun k hk => by
    have va := vo_val hx ha ga.2.1 ga.1.1 (x.nameFroms (6 * tb + k)) (x.nameLengths (6 * tb + k))
    have vb := vo_val hx hb gb.2.1 gb.1.1 (x.nameFroms (6 * tb + k)) (x.nameLengths (6 * tb + k))
    rw [hn.2 k hk] at va vb
    obtain ⟨a1, a2⟩ := valS_a ga (NL k)
    obtain ⟨b1, b2⟩ := valS_a gb (NL k)
    have ea := vo_seg va
    have eb := vo_seg vb
    unfold MS.cmR ctC MS.vn
    rw [cmpT_W (fun i hi => ?_) (fun i hi => ?_) (by rw [va.1]; omega) (by rw [vb.1]; omega), ea, eb]
    · rw [va.1] at hi
      rw [va.2 i hi, List.getD_eq_getElem?_getD, List.getElem?_eq_getElem hi]
      exact a1 _ (List.getElem_mem hi)
    · rw [vb.1] at hi
      rw [vb.2 i hi, List.getD_eq_getElem?_getD, List.getElem?_eq_getElem hi]
      exact b1 _ (List.getElem_mem hi)
  have key : ∀ (w k v : Nat), k + w = nc → (crG (x.cmR tb a b) (x.crL tb b) w k v).1 = match frst (ctB NL (SS a) (SS b)) w k with | none => 0 | some j => ctC NL (SS a) (SS b) j := by
    intro w
    induction w with
    | zero => intro k v _; rfl
    | succ w ih =>
      intro k v hk
      by_cases c : ctC NL (SS a) (SS b) k = 0
      · rw [crG_0 (Nat.succ_pos w) (by rw [hc k (by omega)]; exact c), frst_f (Nat.succ_pos w) (by unfold ctB; rw [decide_eq_true c]; rfl)]
        exact ih (k + 1) _ (by omega)
      · rw [crG_1 (Nat.succ_pos w) (by rw [hc k (by omega)]; exact c), frst_t (Nat.succ_pos w) (by unfold ctB; rw [decide_eq_false c]; rfl)]
        exact hc k (by omega)
  unfold MS.cr
  rw [hn.1]
  exact key nc 0 _ (by omega)
end
section
/-! Matches: read once, looked at again. -/
theorem whG_all {P : Int32 → Bool} {f : Nat → Int32} {n : Nat} : ∀ {w q i : Nat}, q ≤ i → i < whG P f n w q → P (f i) = true
  | 0, q, i, h1, h2 => by
    have h2 : i < q := h2
    omega
  | w + 1, q, i, h1, h2 => by
    have h2 : i < (if q < n ∧ P (f q) = true then whG P f n w (q + 1) else q) := h2
    by_cases c : q < n ∧ P (f q) = true
    · rw [if_pos c] at h2
      by_cases e : i = q
      · rw [e]; exact c.2
      · exact whG_all (w := w) (by omega) h2
    · rw [if_neg c] at h2
      omega
/-- between a token and the next one there are spaces -/
theorem nx_sp {y : MS} (hb : byteF y.tape) (hl : y.lx) (hn : y.nx.1 = true) : ∀ i, y.too ≤ i → i < y.nx.2.frm → y.atN i = 32 := by
  intro i h1 h2
  obtain ⟨-, e⟩ := nx_isT hn
  rw [e] at h2
  have e2 : y.sk = whE isSp y.tape y.length y.too := sk_wh _ _ rfl hl.2.2.1
  rw [e2] at h2
  have h3 := (whE_in (P := isSp) (f := y.tape) hl.2.2.1).2
  have h4 : isSp (y.tape i) = true := whG_all h1 h2
  have h5 : y.tape i = 32 := of_decide_eq_true h4
  show atI y.tape y.length i = 32
  rw [at_lt (by omega), h5]
  decide
theorem mc_at {x y z : MS} (hb : byteF x.tape) (hl : x.lx) (ht : x.isT) (k1 : x.kind = 2) (a1 : x.nx.1 = true) (ey : y = x.nx.2) (k2 : y.kind = 61 ∨ 256 ≤ y.kind) (a2 : y.nx.1 = true) (ez : z = y.nx.2) (k3 : z.kind = 3) : m1E x.tape x.length x.frm = x.too ∧ m2E x.tape x.length x.frm = y.frm ∧ m4E x.tape x.length x.frm = z.frm ∧ m5E x.tape x.length x.frm + 1 = z.too ∧ isSep (x.atN x.frm) = false ∧ ¬ x.atN x.frm = 125 ∧ (sgM x.tape x.length y.frm = 0 ∧ y.kind = 61 ∨ sgM x.tape x.length y.frm = 1 ∧ y.kind = 256 ∨ sgM x.tape x.length y.frm = 2 ∧ y.kind = 257 ∨ sgM x.tape x.length y.frm = 3 ∧ y.kind = 258) ∧ z.frm + 2 ≤ z.too := by
  obtain ⟨ly, fy, -⟩ := nx_in hl a1
  obtain ⟨ty, sy⟩ := nx_isT a1
  have py := nx_sT x
  rw [← ey] at ly fy ty sy py
  obtain ⟨lz, fz, -⟩ := nx_in ly a2
  obtain ⟨tz, sz⟩ := nx_isT a2
  have pz := nx_sT y
  rw [← ez] at lz fz tz sz pz
  have by_ : byteF y.tape := by rw [py.1]; exact hb
  obtain ⟨i1, i2⟩ := ht.1 k1
  have e1 : m1E x.tape x.length x.frm = x.too := i2.symm
  have e2 : m2E x.tape x.length x.frm = y.frm := by
    unfold m2E
    rw [e1, sy, sk_A hb]
  have e3 : (sgM x.tape x.length y.frm = 0 ∧ y.kind = 61 ∧ y.too = y.frm + 1) ∨ ((sgM x.tape x.length y.frm = 1 ∧ y.kind = 256 ∨ sgM x.tape x.length y.frm = 2 ∧ y.kind = 257 ∨ sgM x.tape x.length y.frm = 3 ∧ y.kind = 258) ∧ y.too = y.frm + 2) := by
    rcases k2 with c | c
    · obtain ⟨c1, c2⟩ := ty.2.2.1 (by rw [c]; decide) (by rw [c]; decide)
      have c3 : atI x.tape x.length y.frm = 61 := by
        rw [← py.1, ← py.2]
        exact c1.trans c
      exact Or.inl ⟨if_pos c3, c, c2⟩
    · obtain ⟨c0, c1, c2⟩ := ty.2.2.2 c
      refine Or.inr ⟨?_, c2⟩
      have w : y.tw y.frm = sgTwo (atI x.tape x.length y.frm) (atI x.tape x.length (y.frm + 1)) := by
        unfold MS.tw MS.atN
        rw [py.1, py.2]
      rw [w] at c0 c1
      unfold sgM
      rcases sgTwo_c c1 with ⟨d1, d2, d3⟩ | ⟨d1, d2, d3⟩ | ⟨d1, d2, d3⟩
      · rw [d3] at c0
        rw [d1, d2]
        exact Or.inl ⟨by decide, c0⟩
      · rw [d3] at c0
        rw [d1, d2]
        exact Or.inr (Or.inl ⟨by decide, c0⟩)
      · rw [d3] at c0
        rw [d1, d2]
        exact Or.inr (Or.inr ⟨by decide, c0⟩)
  have e3' : m3E x.tape x.length x.frm = y.too := by
    unfold m3E
    rw [e2]
    rcases e3 with ⟨c1, -, c2⟩ | ⟨c1, c2⟩
    · rw [if_pos c1, c2]
    · rw [if_neg (by rcases c1 with c | c | c <;> rw [c.1] <;> decide), c2]
  have e4 : m4E x.tape x.length x.frm = z.frm := by
    unfold m4E
    rw [e3', sz, sk_A by_, py.1, py.2]
  obtain ⟨j1, j2, j3⟩ := tz.2.1 k3
  have tt : z.tx z.frm = txG x.tape x.length (x.length + 1 - (z.frm + 1)) (z.frm + 1) := by
    unfold MS.tx
    rw [pz.1, pz.2, py.1, py.2]
  have j2' : atI x.tape x.length (z.tx z.frm) = 34 := by
    have j4 : atI z.tape z.length (z.tx z.frm) = 34 := j2
    rw [pz.1, pz.2, py.1, py.2] at j4
    exact j4
  have lt1 := lz.2.2.1
  have lt2 : z.length = x.length := by rw [pz.2, py.2]
  have hz34 : z.frm < x.length := by
    have : atI z.tape z.length z.frm = 34 := j1
    rw [pz.1, pz.2, py.1, py.2] at this
    exact atI_in this (by decide)
  have e5 : m5E x.tape x.length x.frm = z.tx z.frm := by
    unfold m5E
    rw [e4, tt]
    rw [tt] at j2'
    exact fq_tx j2' (by omega) (by omega)
  have tg : z.frm + 1 ≤ z.tx z.frm := by
    rw [tt, tx_wh hb _ _ rfl (by omega)]
    exact (whE_in (by omega)).1
  refine ⟨e1, e2, e4, by rw [e5, j3], lt_ns i1, fun e => ?_, ?_, by omega⟩
  · rw [e] at i1
    revert i1
    decide
  · rcases e3 with ⟨c1, c2, -⟩ | ⟨c1, -⟩
    · exact Or.inl ⟨c1, c2⟩
    · exact Or.inr c1
/-- begins with, and is the same as, a text on the tape -/
theorem mtB_b {x : MS} {W : List Int32} {z : Nat × Nat × Bool} (h : voR x.texts W z) (q n : Nat) : x.mtB z q n = begW W (seg x.tape q (q + n)) ∧ (x.mtB z q n && decide (z.2.1 = n)) = sameW W (seg x.tape q (q + n)) := by
  have l : (seg x.tape q (q + n)).length = n := by rw [seg_len, Nat.add_sub_cancel_left]
  have e1 : x.mtB z q n = begW W (seg x.tape q (q + n)) := by
    unfold MS.mtB begW
    rw [l, h.1]
    by_cases c : n ≤ W.length
    · rw [decide_eq_true c]
      congr 1
      refine allB_ext (fun i hi => ?_)
      unfold txEq smB
      rw [h.2 i (by omega), seg_get x.tape (by omega)]
    · rw [decide_eq_false c]
      rfl
  refine ⟨e1, ?_⟩
  rw [e1]
  unfold begW sameW
  rw [l, h.1]
  by_cases c : W.length = n
  · rw [c, decide_eq_true (Nat.le_refl n), decide_eq_true rfl, Bool.and_true]
  · rw [decide_eq_false c, Bool.and_false]
    rfl
theorem mt1_q {x y z : MS} {s : Nat} {SS : Nat → List LB} {k' : Int32} {k nt : Nat} (hx : txR x.texts x.textLengths x.seriesCount SS) (hs : s < x.seriesCount) (hg : serG (SS s)) (h1 : m1E x.tape x.length k = nt) (hkn : k ≤ nt) (h2 : m2E x.tape x.length k = y.frm) (h4 : m4E x.tape x.length k = z.frm) (h5 : m5E x.tape x.length k + 1 = z.too) (h6 : sgM x.tape x.length y.frm = 0 ∧ y.kind = 61 ∨ sgM x.tape x.length y.frm = 1 ∧ y.kind = 256 ∨ sgM x.tape x.length y.frm = 2 ∧ y.kind = 257 ∨ sgM x.tape x.length y.frm = 3 ∧ y.kind = 258) (h7 : z.frm + 2 ≤ z.too) (hk : kR y.kind k') : x.mt1 s k = hoB k' (valS (SS s) (seg x.tape k nt)) (seg x.tape (z.frm + 1) (z.too - 1)) := by
  have v := vo_val hx hs hg.2.1 hg.1.1 k (nt - k)
  rw [Nat.add_sub_cancel' hkn] at v
  have eq : x.mtQ k = z.frm + 1 := by unfold MS.mtQ; rw [h4]
  have en : z.frm + 1 + x.mtN k = z.too - 1 := by unfold MS.mtN; rw [h4]; omega
  have ev : x.mtV s k = x.vo s k (nt - k) := by unfold MS.mtV; rw [h1]
  obtain ⟨b1, b2⟩ := mtB_b v (z.frm + 1) (x.mtN k)
  rw [en] at b1 b2
  unfold MS.mt1
  rw [h2, ev, eq, b1]
  rw [b1] at b2
  rw [b2]
  have kf := (kR_f hk).1
  rcases h6 with ⟨e1, e2⟩ | ⟨e1, e2⟩ | ⟨e1, e2⟩ | ⟨e1, e2⟩
  · rw [e2] at kf
    rw [e1, kf]
    rfl
  · rw [e2] at kf
    rw [e1, kf]
    rfl
  · rw [e2] at kf
    rw [e1, kf]
    rfl
  · rw [e2] at kf
    rw [e1, kf]
    rfl
end
section
/-! The matches of a step: looked at by the reference. -/
section MG
variable {x : MS} {s : Nat} {SS : Nat → List LB}
theorem mtG_sp {tp : Nat → Int32} {nx : Nat → Nat} {hd : Nat → Bool} {vl : Nat → Nat} : ∀ (d q w v : Nat), (∀ i, q ≤ i → i < q + d → tp i = 32) → d ≤ w → mtG tp nx hd vl w q true v = mtG tp nx hd vl (w - d) (q + d) true v
  | 0, q, w, v, _, _ => rfl
  | d + 1, q, w, v, h, hw => by
    have e := h q (Nat.le_refl q) (by omega)
    rw [mtG_s (by omega) rfl (by rw [e]; decide) (by rw [e]; decide), mtG_sp d (q + 1) (w - 1) v (fun i h1 h2 => h i (by omega) (by omega)) (by omega), show w - 1 - d = w - (d + 1) by omega, show q + 1 + d = q + (d + 1) by omega]
set_option maxRecDepth 100000 in
theorem mt_q (hb : byteF x.tape) (hx : txR x.texts x.textLengths x.seriesCount SS) (hs : s < x.seriesCount) (hg : serG (SS s)) {w : Nat} : ∀ {y : MS} {t : TKQ} {k : Nat} {KD : Nat → Int32} {MN MT : Nat → List Int32} {R : RM}, R = rmG x.tape x.length w t k KD MN MT → y.tape = x.tape → y.length = x.length → tkR y t → y.lx → y.isT → R.1 = true → R.2.1.2.2.2.2.1 = 0 → R.2.1.1 = 125 → (k ≤ R.2.2.1 ∧ ∀ i, i < k → R.2.2.2.1 i = KD i ∧ R.2.2.2.2.1 i = MN i ∧ R.2.2.2.2.2 i = MT i) ∧ ∀ w' v, x.length + 1 ≤ w' + y.frm → ((mtG x.atN (m5E x.tape x.length) (x.mt1 s) (x.mtL s) w' y.frm true v).1 = true ↔ ∀ i, k ≤ i → i < R.2.2.1 → tkF R.2.2.2.1 R.2.2.2.2.1 R.2.2.2.2.2 (SS s) i = true) := by
  induction w with
  | zero =>
    intro y t k KD MN MT R eR hf hn h hl ht r1 r2 r3
    rw [eR] at r1
    exact Bool.noConfusion r1
  | succ w ih =>
    intro y t k KD MN MT R eR hf hn h hl ht r1 r2 r3
    obtain ⟨t1, et1⟩ : ∃ t1, t1 = nxT x.tape x.length t := ⟨_, rfl⟩
    obtain ⟨t2, et2⟩ : ∃ t2, t2 = nxT x.tape x.length t1 := ⟨_, rfl⟩
    obtain ⟨t3, et3⟩ : ∃ t3, t3 = nxT x.tape x.length t2 := ⟨_, rfl⟩
    obtain ⟨t4, et4⟩ : ∃ t4, t4 = nxT x.tape x.length t3 := ⟨_, rfl⟩
    have hby : byteF y.tape := by rw [hf]; exact hb
    by_cases c1 : ¬ t.1 = 258
    · rw [eR, show rmG x.tape x.length (w + 1) t k KD MN MT = (false, rfT t 2 t.2.1, k, KD, MN, MT) from rm_k c1] at r1
      exact Bool.noConfusion r1
    have ky : y.kind = 2 := (kR_i h.1 kR_2).mpr (Classical.not_not.mp c1)
    by_cases c2 : isMk t1.1 = false
    · rw [eR, show rmG x.tape x.length (w + 1) t k KD MN MT = (false, rfT t1 2 t1.2.1, k, KD, MN, MT) from rm_m (Classical.not_not.mp c1) et1 c2] at r1
      exact Bool.noConfusion r1
    have N1 := nx_c hf hn hb h hl
    rw [← et1] at N1
    rcases N1 with ⟨a1, a2, a3, a4⟩ | ⟨a1, a2, a3, a4⟩
    rotate_left
    · rw [a2] at c2
      exact absurd (by decide) c2
    have A := nx_in hl a1
    have T1 := tk_nx y
    obtain ⟨y1, e1⟩ : ∃ y1, y1 = y.nx.2 := ⟨_, rfl⟩
    rw [← e1] at a2 a3 A T1
    have f1 : y1.tape = x.tape := (tk_f T1 MS.tape rfl).trans hf
    have n1 : y1.length = x.length := (tk_f T1 MS.length rfl).trans hn
    have k2 : y1.kind = 61 ∨ 256 ≤ y1.kind := (isMk_k a2.1).mp (by
      cases q : isMk t1.1 with
      | true => rfl
      | false => exact absurd q c2)
    by_cases c3 : ¬ t2.1 = 259
    · rw [eR, show rmG x.tape x.length (w + 1) t k KD MN MT = (false, rfT t2 2 t2.2.1, k, KD, MN, MT) from rm_t (Classical.not_not.mp c1) et1 c2 et2 c3] at r1
      exact Bool.noConfusion r1
    have N2 := nx_c f1 n1 hb a2 a3
    rw [← et2] at N2
    rcases N2 with ⟨b1, b2, b3, b4⟩ | ⟨b1, b2, b3, b4⟩
    rotate_left
    · exact absurd (by rw [b2]; decide) c3
    have B := nx_in a3 b1
    have T2 := tk_nx y1
    obtain ⟨y2, e2⟩ : ∃ y2, y2 = y1.nx.2 := ⟨_, rfl⟩
    rw [← e2] at b2 b3 B T2
    have f2 : y2.tape = x.tape := (tk_f T2 MS.tape rfl).trans f1
    have n2 : y2.length = x.length := (tk_f T2 MS.length rfl).trans n1
    have k3 : y2.kind = 3 := (kR_i b2.1 kR_3).mpr (Classical.not_not.mp c3)
    have M := mc_at hby hl ht ky a1 e1 k2 b1 e2 k3
    rw [hf, hn] at M
    obtain ⟨m1, m2, m4, m5, m6, m7, m8, m9⟩ := M
    have m6 : isSep (x.atN y.frm) = false := by
      have : isSep (atI y.tape y.length y.frm) = false := m6
      rw [hf, hn] at this
      exact this
    have m7 : ¬ x.atN y.frm = 125 := by
      have : ¬ atI y.tape y.length y.frm = 125 := m7
      rw [hf, hn] at this
      exact this
    have q1 := mt1_q (s := s) hx hs hg m1 hl.2.1 m2 m4 m5 m8 m9 a2.1
    have w1 : seg x.tape y.frm y.too = tkw x.tape t := by unfold tkw; rw [h.2.1, h.2.2.1]
    have w2 : seg x.tape (y2.frm + 1) (y2.too - 1) = tkx x.tape t2 := by unfold tkx; rw [b2.2.1, b2.2.2.1]
    rw [w1, w2] at q1
    have hfr : y.frm < y2.too := by
      have := hl.2.1
      have := a3.2.1
      have := A.2.1
      have := B.2.1
      omega
    have N3 := nx_c f2 n2 hb b2 b3
    rw [← et3] at N3
    rcases N3 with ⟨d1, d2, d3, d4⟩ | ⟨d1, d2, d3, d4⟩
    rotate_left
    · have er : R = (true, t3, k + 1, va_up KD k t1.1, va_up MN k (tkw x.tape t), va_up MT k (tkx x.tape t2)) := eR.trans (rm_e (Classical.not_not.mp c1) et1 c2 et2 (Classical.not_not.mp c3) et3 (by rw [d2]; decide))
      rw [er] at r3
      have r3 : t3.1 = 125 := r3
      rw [d2] at r3
      exact absurd r3 (by decide)
    have D := nx_in b3 d1
    have S3 := nx_sp (by rw [f2]; exact hb) b3 d1
    have I3 := (nx_isT d1).1
    have T3 := tk_nx y2
    obtain ⟨y3, e3⟩ : ∃ y3, y3 = y2.nx.2 := ⟨_, rfl⟩
    rw [← e3] at d2 d3 D S3 I3 T3
    have f3 : y3.tape = x.tape := (tk_f T3 MS.tape rfl).trans f2
    have n3 : y3.length = x.length := (tk_f T3 MS.length rfl).trans n2
    have S3 : ∀ i, y2.too ≤ i → i < y3.frm → x.atN i = 32 := fun i h1 h2 => by
      have : atI y2.tape y2.length i = 32 := S3 i h1 h2
      rw [f2, n2] at this
      exact this
    -- the place behind the text, then the next token
    have go : ∀ w' v, x.length + 1 ≤ w' + y.frm → (x.mt1 s y.frm = false → (mtG x.atN (m5E x.tape x.length) (x.mt1 s) (x.mtL s) w' y.frm true v).1 = false) ∧ (x.mt1 s y.frm = true → ∃ w'' v', x.length + 1 ≤ w'' + y3.frm ∧ mtG x.atN (m5E x.tape x.length) (x.mt1 s) (x.mtL s) w' y.frm true v = mtG x.atN (m5E x.tape x.length) (x.mt1 s) (x.mtL s) w'' y3.frm true v') := by
      intro w' v hw'
      have l3 := d3.2.1
      have l4 := d3.2.2.1
      have l5 := D.2.1
      have l0 := hl.2.2.1
      have l1 := hl.2.1
      rw [mtG_m (by omega) rfl m7 m6, m5]
      refine ⟨fun g => ?_, fun g => ?_⟩
      · rw [g, mtG_e (Or.inl rfl)]
      · rw [g, mtG_sp (y3.frm - y2.too) y2.too (w' - 1) _ (fun i h1 h2 => S3 i h1 (by omega)) (by omega), Nat.add_sub_cancel' l5]
        exact ⟨_, _, by omega, rfl⟩
    have a3k : 32 ≤ y3.kind → y3.kind < 256 → x.atN y3.frm = y3.kind ∧ y3.too = y3.frm + 1 := fun g1 g2 => by
      obtain ⟨u1, u2⟩ := I3.2.2.1 g1 g2
      have u1 : atI y3.tape y3.length y3.frm = y3.kind := u1
      rw [f3, n3] at u1
      exact ⟨u1, u2⟩
    by_cases c4 : ¬ t3.1 = 44
    · have er : R = (true, t3, k + 1, va_up KD k t1.1, va_up MN k (tkw x.tape t), va_up MT k (tkx x.tape t2)) := eR.trans (rm_e (Classical.not_not.mp c1) et1 c2 et2 (Classical.not_not.mp c3) et3 c4)
      rw [er] at r3
      have k4 : y3.kind = 125 := (kR_i d2.1 (kR_s (by decide))).mpr r3
      rw [er]
      refine ⟨⟨Nat.le_succ k, fun i hi => ⟨va_up_ne _ _ (Nat.ne_of_lt hi), va_up_ne _ _ (Nat.ne_of_lt hi), va_up_ne _ _ (Nat.ne_of_lt hi)⟩⟩, fun w' v hw' => ?_⟩
      have tf : tkF (va_up KD k t1.1) (va_up MN k (tkw x.tape t)) (va_up MT k (tkx x.tape t2)) (SS s) k = x.mt1 s y.frm := by
        rw [q1]
        unfold tkF
        rw [va_up_self, va_up_self, va_up_self]
      obtain ⟨g1, g2⟩ := go w' v hw'
      cases c : x.mt1 s y.frm with
      | false =>
        rw [g1 c]
        refine ⟨fun e => Bool.noConfusion e, fun e => ?_⟩
        have := e k (Nat.le_refl k) (Nat.lt_succ_self k)
        rw [show tkF _ _ _ (SS s) k = _ from tf, c] at this
        exact this
      | true =>
        obtain ⟨w'', v', h1, h2⟩ := g2 c
        rw [h2, mtG_e (Or.inr (by rw [(a3k (by rw [k4]; decide) (by rw [k4]; decide)).1]; exact k4))]
        refine ⟨fun _ i i1 i2 => ?_, fun _ => rfl⟩
        have i2 : i < k + 1 := i2
        have : i = k := by omega
        rw [this]
        exact tf.trans c
    · have er : R = rmG x.tape x.length w t4 (k + 1) (va_up KD k t1.1) (va_up MN k (tkw x.tape t)) (va_up MT k (tkx x.tape t2)) := eR.trans (rm_s (Classical.not_not.mp c1) et1 c2 et2 (Classical.not_not.mp c3) et3 (Classical.not_not.mp c4) et4)
      have k4 : y3.kind = 44 := (kR_i d2.1 (kR_s (by decide))).mpr (Classical.not_not.mp c4)
      have N4 := nx_c f3 n3 hb d2 d3
      rw [← et4] at N4
      rcases N4 with ⟨g1, g2, g3, g4⟩ | ⟨g1, g2, g3, g4⟩
      rotate_left
      · exfalso
        rw [er] at r1
        cases w with
        | zero => exact Bool.noConfusion r1
        | succ w =>
          rw [show rmG x.tape x.length (w + 1) t4 (k + 1) (va_up KD k t1.1) (va_up MN k (tkw x.tape t)) (va_up MT k (tkx x.tape t2)) = (false, rfT t4 2 t4.2.1, k + 1, va_up KD k t1.1, va_up MN k (tkw x.tape t), va_up MT k (tkx x.tape t2)) from rm_k (by rw [g2]; decide)] at r1
          exact Bool.noConfusion r1
      have G := nx_in d3 g1
      have S4 := nx_sp (by rw [f3]; exact hb) d3 g1
      have I4 := (nx_isT g1).1
      have T4 := tk_nx y3
      obtain ⟨y4, e4⟩ : ∃ y4, y4 = y3.nx.2 := ⟨_, rfl⟩
      rw [← e4] at g2 g3 G S4 I4 T4
      have S4 : ∀ i, y3.too ≤ i → i < y4.frm → x.atN i = 32 := fun i h1 h2 => by
        have : atI y3.tape y3.length i = 32 := S4 i h1 h2
        rw [f3, n3] at this
        exact this
      obtain ⟨⟨p1, p2⟩, p3⟩ := ih er ((tk_f T4 MS.tape rfl).trans f3) ((tk_f T4 MS.length rfl).trans n3) g2 g3 I4 r1 r2 r3
      have pk := p2 k (Nat.lt_succ_self k)
      rw [va_up_self, va_up_self, va_up_self] at pk
      have tf : tkF R.2.2.2.1 R.2.2.2.2.1 R.2.2.2.2.2 (SS s) k = x.mt1 s y.frm := by
        rw [q1]
        unfold tkF
        rw [pk.1, pk.2.1, pk.2.2]
      refine ⟨⟨by omega, fun i hi => ?_⟩, fun w' v hw' => ?_⟩
      · obtain ⟨v1, v2, v3⟩ := p2 i (by omega)
        rw [va_up_ne _ _ (Nat.ne_of_lt hi)] at v1 v2 v3
        exact ⟨v1, v2, v3⟩
      · obtain ⟨u1, u2⟩ := go w' v hw'
        cases c : x.mt1 s y.frm with
        | false =>
          rw [u1 c]
          refine ⟨fun e => Bool.noConfusion e, fun e => ?_⟩
          have := e k (Nat.le_refl k) (by omega)
          rw [tf, c] at this
          exact this
        | true =>
          obtain ⟨w'', v', h1, h2⟩ := u2 c
          obtain ⟨z1, z2⟩ := a3k (by rw [k4]; decide) (by rw [k4]; decide)
          have l4 := g3.2.1
          have l5 := g3.2.2.1
          have l6 := (tk_f T4 MS.length rfl).trans n3
          have l7 := G.2.1
          rw [h2, mtG_s (by omega) rfl (by rw [z1, k4]; decide) (by rw [z1, k4]; decide), mtG_sp (y4.frm - y3.too) (y3.frm + 1) (w'' - 1) v' (fun i h1 h2 => S4 i (by omega) (by omega)) (by omega), show y3.frm + 1 + (y4.frm - y3.too) = y4.frm by omega, p3 _ _ (by omega)]
          constructor
          · intro e i i1 i2
            by_cases ci : i = k
            · rw [ci, tf, c]
            · exact e i (by omega) i2
          · intro e i i1 i2
            exact e i (by omega) i2
end MG
end
section
/-! The matches of a step, from the brace on. -/
section TL
variable {f : Nat → Int32} {n : Nat} {t t1 t2 : TKQ}
theorem tkT_y {k : Int32} (h : t.1 = k) (e : t1 = nxT f n t) : tkT f n t k = (true, t1) := by
  rw [e]
  exact if_pos h
theorem tkT_x {k : Int32} (h : ¬ t.1 = k) : tkT f n t k = (false, rfT t 2 t.2.1) := if_neg h
theorem tlT_0 (h : ¬ t.1 = 40) : (tlT f n t).1 = false := by
  unfold tlT
  rw [tkT_x h]
  rfl
theorem tlT_1 (h : t.1 = 40) (e : t1 = nxT f n t) : tlT f n t = tlB f n t1 := by
  unfold tlT
  rw [tkT_y h e]
  rfl
theorem tlB_0 (h : ¬ t.1 = 123) : (tlB f n t).1 = false := by
  unfold tlB
  rw [tkT_x h]
  rfl
theorem tlB_1 (h : t.1 = 123) (e : t1 = nxT f n t) : tlB f n t = tlC f n (msT f n t1) := by
  unfold tlB
  rw [tkT_y h e]
  rfl
theorem tlC_1 {M : RM} (h : (tlC f n M).1 = true) : M.1 = true ∧ M.2.1.1 = 125 ∧ (tlC f n M).2.2 = M.2.2 := by
  have m1 : M.1 = true := by
    cases c : M.1 with
    | true => rfl
    | false =>
      unfold tlC at h
      rw [if_neg (by rw [c]; decide), c] at h
      exact h
  have m2 : M.2.1.1 = 125 := by
    by_cases c : M.2.1.1 = 125
    · exact c
    · unfold tlC at h
      rw [if_pos m1, tkT_x c] at h
      exact Bool.noConfusion h
  refine ⟨m1, m2, ?_⟩
  unfold tlC
  rw [if_pos m1]
  unfold tlD
  split <;> rfl
end TL
section MT2
variable {x u : MS} {s : Nat} {SS : Nat → List LB} {t : TKQ}
theorem mt_T (hb : byteF x.tape) (hx : txR x.texts x.textLengths x.seriesCount SS) (hs : s < x.seriesCount) (hg : serG (SS s)) (uf : u.tape = x.tape) (un : u.length = x.length) (ut : tkR u t) (ul : u.lx) (h1 : (tlT x.tape x.length t).1 = true) : (x.mt s (tkT x.tape x.length t 40).2.2.2.1).1 = allB (tlT x.tape x.length t).2.2.1 (tkF (tlT x.tape x.length t).2.2.2.1 (tlT x.tape x.length t).2.2.2.2.1 (tlT x.tape x.length t).2.2.2.2.2 (SS s)) := by
  obtain ⟨t1, e1⟩ : ∃ t1, t1 = nxT x.tape x.length t := ⟨_, rfl⟩
  obtain ⟨t2, e2⟩ : ∃ t2, t2 = nxT x.tape x.length t1 := ⟨_, rfl⟩
  by_cases c1 : t.1 = 40
  rotate_left
  · rw [tlT_0 c1] at h1
    exact Bool.noConfusion h1
  rw [tlT_1 c1 e1] at h1 ⊢
  rw [tkT_y c1 e1]
  by_cases c2 : t1.1 = 123
  rotate_left
  · rw [tlB_0 c2] at h1
    exact Bool.noConfusion h1
  rw [tlB_1 c2 e2] at h1 ⊢
  obtain ⟨M, eM⟩ : ∃ M, M = msT x.tape x.length t2 := ⟨_, rfl⟩
  rw [← eM] at h1 ⊢
  obtain ⟨m1, m2, m3⟩ := tlC_1 h1
  rw [m3]
  rcases nx_p uf un hb ut ul e1 with ⟨z1, a1, a2, a3, f1, n1, -, -, -, -⟩ | ⟨z1, a1, a2, a3, a4⟩
  rotate_left
  · rw [a2] at c2
    exact absurd c2 (by decide)
  show (x.mt s t1.2.2.1).1 = _
  rw [← a2.2.2.1]
  rcases nx_p f1 n1 hb a2 a3 e2 with ⟨y, b1, b2, b3, f2, n2, B1, B2, I2, b4⟩ | ⟨y, b1, b2, b3, b4⟩
  rotate_left
  · obtain ⟨Y, eY⟩ := msT_b (f := x.tape) (n := x.length) b3 b2
    rw [eM, eY] at m1
    exact Bool.noConfusion m1
  have S2 := nx_sp (by rw [f1]; exact hb) a3 (show z1.nx.1 = true by rw [b1])
  rw [b1] at S2
  have S2 : ∀ i, z1.too ≤ i → i < y.frm → x.atN i = 32 := fun i h1 h2 => by
    have : atI z1.tape z1.length i = 32 := S2 i h1 h2
    rw [f1, n1] at this
    exact this
  have l1 := b3.2.1
  have l2 := b3.2.2.1
  have em : x.mt s z1.too = mtG x.atN (m5E x.tape x.length) (x.mt1 s) (x.mtL s) (x.length + 1 - z1.too - (y.frm - z1.too)) y.frm true x.valueLength := by
    unfold MS.mt
    rw [mtG_sp (y.frm - z1.too) z1.too (x.length + 1 - z1.too) _ (fun i h1 h2 => S2 i h1 (by omega)) (by omega), Nat.add_sub_cancel' B1]
  rw [em]
  by_cases c : t2.1 = 125
  · have e : M = (true, t2, 0, fun _ => 0, fun _ => [], fun _ => []) := eM.trans (if_pos c)
    have k : y.kind = 125 := (kR_i b2.1 (kR_s (by decide))).mpr c
    have u1 : atI y.tape y.length y.frm = y.kind := (I2.2.2.1 (by rw [k]; decide) (by rw [k]; decide)).1
    rw [f2, n2, k] at u1
    have u2 : x.atN y.frm = 125 := u1
    rw [e, mtG_e (Or.inr u2)]
    rfl
  · have e : M = rmG x.tape x.length x.length t2 0 (fun _ => 0) (fun _ => []) (fun _ => []) := eM.trans (if_neg c)
    have gm : gtP M.1 M.2.1 := by
      rw [e]
      exact rmG_g (gt_0 b4)
    have cm : M.2.1.2.2.2.2.1 = 0 := gt_k (gm m1) m2 (by decide)
    obtain ⟨-, q⟩ := mt_q hb hx hs hg e f2 n2 b2 b3 I2 m1 cm m2
    have q := q (x.length + 1 - z1.too - (y.frm - z1.too)) x.valueLength (by omega)
    obtain ⟨P, eP⟩ : ∃ P, P = mtG x.atN (m5E x.tape x.length) (x.mt1 s) (x.mtL s) (x.length + 1 - z1.too - (y.frm - z1.too)) y.frm true x.valueLength := ⟨_, rfl⟩
    rw [← eP] at q ⊢
    cases d : allB M.2.2.1 (tkF M.2.2.2.1 M.2.2.2.2.1 M.2.2.2.2.2 (SS s)) with
    | true => exact q.mpr (fun i _ hi => (allB_iff.mp d) i hi)
    | false =>
      cases p : P.1 with
      | false => rfl
      | true => rw [allB_iff.mpr (fun i hi => q.mp p i (Nat.zero_le i) hi)] at d; cases d
end MT2
end
section
/-! Rows put in order: the two ways. -/
theorem nI_ltq {a b : Nat} (ha : a < 2 ^ 31) (hb : b < 2 ^ 31) : nI a < nI b ↔ a < b := by
  rw [Int32.lt_iff_toInt_lt, nI_toInt (by omega), nI_toInt (by omega)]
  omega
/-- a threshold -/
theorem thr {f : Nat → Bool} : ∀ {n : Nat}, (∀ a b, a < b → b < n → f b = true → f a = true) → ∃ p, p ≤ n ∧ ∀ q, q < n → (f q = true ↔ q < p)
  | 0, _ => ⟨0, Nat.le_refl 0, fun q hq => absurd hq (Nat.not_lt_zero q)⟩
  | n + 1, h => by
    obtain ⟨p, h1, h2⟩ := thr (f := f) (n := n) (fun a b h1 h2 => h a b h1 (by omega))
    cases c : f n with
    | true =>
      refine ⟨n + 1, Nat.le_refl _, fun q hq => ⟨fun _ => hq, fun _ => ?_⟩⟩
      by_cases e : q = n
      · rw [e]; exact c
      · exact h q n (by omega) (by omega) c
    | false =>
      refine ⟨p, by omega, fun q hq => ?_⟩
      by_cases e : q = n
      · subst e
        rw [c]
        exact ⟨fun z => Bool.noConfusion z, fun z => absurd z (by omega)⟩
      · exact h2 q (by omega)
/-- halving finds it -/
theorem bs_p {lt : Nat → Bool} {rc p : Nat} (hp : p ≤ rc) (h : ∀ q, q < rc → (lt q = true ↔ q < p)) : ∀ (f st b : Nat), st = 2 ^ f / 2 → b ≤ p → p < b + 2 ^ f → bsG lt rc f st b = p
  | 0, st, b, _, h1, h2 => by
    show b = p
    have h2 : p < b + 1 := h2
    omega
  | f + 1, st, b, hs, h1, h2 => by
    have e : st = 2 ^ f := by rw [hs, Nat.pow_succ, Nat.mul_div_cancel _ (by decide : 0 < 2)]
    rw [Nat.pow_succ] at h2
    have hf := Nat.two_pow_pos f
    have hs2 : st / 2 = 2 ^ f / 2 := by rw [e]
    show bsG lt rc f (st / 2) (if b + st ≤ rc ∧ lt (b + st - 1) = true then b + st else b) = p
    by_cases c : b + st ≤ rc ∧ lt (b + st - 1) = true
    · rw [if_pos c]
      have := (h (b + st - 1) (by omega)).mp c.2
      exact bs_p hp h f (st / 2) (b + st) hs2 (by omega) (by omega)
    · rw [if_neg c]
      have : p < b + st := by
        by_cases d : b + st ≤ rc
        · by_cases e2 : lt (b + st - 1) = true
          · exact absurd ⟨d, e2⟩ c
          · have : ¬ b + st - 1 < p := fun z => e2 ((h (b + st - 1) (by omega)).mpr z)
            omega
        · omega
      exact bs_p hp h f (st / 2) b hs2 h1 (by omega)
/-- rows in order -/
def srtR (NL : Nat → List Int32) (nc n : Nat) (RS : Nat → List LB) : Prop := ∀ a b, a < b → b < n → ltK NL nc (RS a) (RS b)
section RW
variable {NL : Nat → List Int32} {nc n : Nat} {RS : Nat → List LB} {S : List LB}
theorem ltT_K (hg : ∀ q, q < n → serG (RS q)) (hS : serG S) {q : Nat} (hq : q < n) : ltT NL nc RS S q = true ↔ ltK NL nc (RS q) S := by
  rw [← cmT_lt (hg q hq) hS]
  unfold ltT
  rw [Bool.not_eq_true', decide_eq_false_iff_not, Int32.not_le]
/-- where a series belongs -/
theorem pl_thr (hs : srtR NL nc n RS) (hg : ∀ q, q < n → serG (RS q)) (hS : serG S) (hn : n ≤ 256) : plT NL nc n RS S ≤ n ∧ (∀ q, q < n → (ltK NL nc (RS q) S ↔ q < plT NL nc n RS S)) := by
  obtain ⟨p, h1, h2⟩ := thr (f := ltT NL nc RS S) (n := n) (fun a b hab hb h => (ltT_K hg hS (by omega)).mpr (ltK_tr (hs a b hab hb) ((ltT_K hg hS hb).mp h)))
  have e : plT NL nc n RS S = p := bs_p h1 h2 9 256 0 (by decide) (Nat.zero_le _) (by omega)
  rw [e]
  exact ⟨h1, fun q hq => (ltT_K hg hS hq).symm.trans (h2 q hq)⟩
/-- a row with these values is found -/
theorem pl_row (hs : srtR NL nc n RS) (hg : ∀ q, q < n → serG (RS q)) (hS : serG S) (hn : n ≤ 256) {r : Nat} (hr : r < n) (he : eqK NL nc (RS r) S) : plT NL nc n RS S = r ∧ roT NL nc n RS S = nI r := by
  obtain ⟨h1, h2⟩ := pl_thr hs hg hS hn
  have e : plT NL nc n RS S = r := by
    have a1 : ¬ r < plT NL nc n RS S := fun z => ltK_irr (ltK_e2 (fun i hi => (he i hi).symm) ((h2 r hr).mpr z))
    by_cases c : plT NL nc n RS S < r
    · have := (h2 _ (by omega)).mp (ltK_e2 he (hs _ r c hr))
      omega
    · omega
  refine ⟨e, ?_⟩
  unfold roT
  rw [e, if_pos ⟨hr, (cmT_eq (hg r hr) hS).mpr he⟩]
/-- a series put among the rows -/
theorem srt_new (hs : srtR NL nc n RS) (hg : ∀ q, q < n → serG (RS q)) (hS : serG S) (hn : n ≤ 256) (hne : ¬ (plT NL nc n RS S < n ∧ cmT NL nc (RS (plT NL nc n RS S)) S = 0)) : srtR NL nc (n + 1) (fun q => if q < plT NL nc n RS S then RS q else if q = plT NL nc n RS S then S else RS (q - 1)) := by
  obtain ⟨h1, h2⟩ := pl_thr hs hg hS hn
  generalize plT NL nc n RS S = p at h1 h2 hne
  have gt : ∀ q, p ≤ q → q < n → ltK NL nc S (RS q) := by
    intro q hq hqn
    have b : ltK NL nc S (RS p) := by
      rcases cmT_3 (NL := NL) (n := nc) (hg p (by omega)) hS with c | c | c
      · have := (h2 p (by omega)).mp c
        omega
      · exact absurd ⟨by omega, (cmT_eq (hg p (by omega)) hS).mpr c⟩ hne
      · exact c
    by_cases e : p = q
    · rw [← e]; exact b
    · exact ltK_tr b (hs p q (by omega) hqn)
  intro a b hab hb
  show ltK NL nc (if a < p then RS a else if a = p then S else RS (a - 1)) (if b < p then RS b else if b = p then S else RS (b - 1))
  by_cases c1 : a < p
  · rw [if_pos c1]
    by_cases c2 : b < p
    · rw [if_pos c2]; exact hs a b hab (by omega)
    · rw [if_neg c2]
      by_cases c3 : b = p
      · rw [if_pos c3]; exact (h2 a (by omega)).mpr c1
      · rw [if_neg c3]; exact hs a (b - 1) (by omega) (by omega)
  · rw [if_neg c1, if_neg (show ¬ b < p by omega), if_neg (show ¬ b = p by omega)]
    by_cases c3 : a = p
    · rw [if_pos c3]; exact gt (b - 1) (by omega) (by omega)
    · rw [if_neg c3]; exact hs (a - 1) (b - 1) (by omega) (by omega)
end RW
section FR
variable {x : MS} {tb nc s : Nat} {NL : Nat → List Int32} {SS : Nat → List LB} {rs : Nat → Nat} {n : Nat}
/-- the reference's walk over the rows -/
theorem fr_p (hn : nmRe x tb nc NL) (hx : txR x.texts x.textLengths x.seriesCount SS) (hg : ∀ q, q < x.seriesCount → serG (SS q)) (hs : s < x.seriesCount) (hr : ∀ q, q < n → rs (256 * tb + q) < x.seriesCount) {p : Nat} (hp : p ≤ n) (h : ∀ q, q < n → (ltK NL nc (SS (rs (256 * tb + q))) (SS s) ↔ q < p)) : ∀ (w r v : Nat), r ≤ p → n + 1 ≤ w + r → (x.fr tb s rs n w r v).1 = p
  | 0, r, v, h1, h2 => by
    show r = p
    omega
  | w + 1, r, v, h1, h2 => by
    by_cases c : n ≤ r
    · rw [fr_e c]
      show r = p
      omega
    · have e : ((MS.s_valueLength x v).cr tb (rs (256 * tb + r)) s).1 = cmT NL nc (SS (rs (256 * tb + r))) (SS s) := cr_eq (x := MS.s_valueLength x v) hn hx (hr r (by omega)) hs (hg _ (hr r (by omega))) (hg s hs)
      by_cases d : r < p
      · rw [fr_l (Nat.succ_pos w) c (by rw [e, cmT_lt (hg _ (hr r (by omega))) (hg s hs)]; exact (h r (by omega)).mpr d)]
        exact fr_p hn hx hg hs hr hp h w (r + 1) _ (by omega) (by omega)
      · rw [fr_g (Nat.succ_pos w) c (by rw [e, cmT_lt (hg _ (hr r (by omega))) (hg s hs)]; exact fun z => d ((h r (by omega)).mp z))]
        show r = p
        omega
end FR
end
