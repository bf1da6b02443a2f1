/-! A fault stops the class's reading. -/
/-- with a fault the token is none -/
def gtT (t : TKQ) : Prop := ¬ t.2.2.2.2.1 = 0 → t.1 = 263
def gtP (b : Bool) (u : TKQ) : Prop := b = true → gtT u
section GT
variable {f : Nat → Int32} {n : Nat} {t : TKQ}
theorem gt_0 (h : t.2.2.2.2.1 = 0) : gtT t := fun e => absurd h e
theorem gt_k {k : Int32} (h : gtT t) (e : t.1 = k) (hk : ¬ k = 263) : t.2.2.2.2.1 = 0 := by
  by_cases c : t.2.2.2.2.1 = 0
  · exact c
  · exact absurd (e.symm.trans (h c)) hk
theorem nxT_g (h : t.2.2.2.2.1 = 0) : gtT (nxT f n t) := by
  unfold nxT adX
  split
  · rename_i g
    intro _
    rw [rfT_0 (t := mkT _ t) h]
    exact g
  · exact gt_0 h
theorem nx_g {k : Int32} (h : gtT t) (e : t.1 = k) (hk : ¬ k = 263) : gtT (nxT f n t) := nxT_g (gt_k h e hk)
theorem tkT_g {k : Int32} (h : gtT t) (hk : ¬ k = 263) : gtP (tkT f n t k).1 (tkT f n t k).2 := by
  unfold tkT
  split
  · rename_i g
    exact fun _ => nx_g h g hk
  · exact fun e => by cases e
theorem rnG_g : ∀ {w : Nat} {t : TKQ} {k : Nat} {NL : Nat → List Int32}, gtT t → gtP (rnG f n w t k NL).1 (rnG f n w t k NL).2.1
  | 0, t, k, NL, h => fun e => by cases e
  | w + 1, t, k, NL, h => by
    unfold rnG
    split
    · exact fun e => by cases e
    · rename_i g
      have g := Classical.not_not.mp g
      have h1 : gtT (nxT f n t) := nx_g h g (by decide)
      split
      · exact fun e => by cases e
      · split
        · exact fun _ => h1
        · rename_i g2
          exact rnG_g (nx_g h1 (Classical.not_not.mp g2) (by decide))
theorem isMk_n {z : Int32} (h : ¬ isMk z = false) : ¬ z = 263 := fun e => h (by rw [e]; decide)
theorem rmG_g : ∀ {w : Nat} {t : TKQ} {k : Nat} {KD : Nat → Int32} {MN MT : Nat → List Int32}, gtT t → gtP (rmG f n w t k KD MN MT).1 (rmG f n w t k KD MN MT).2.1 := by
  intro w
  induction w with
  | zero => intro t k KD MN MT h e; exact Bool.noConfusion e
  | succ w ih =>
    intro t k KD MN MT h
    obtain ⟨t1, e1⟩ : ∃ t1, t1 = nxT f n t := ⟨_, rfl⟩
    obtain ⟨t2, e2⟩ : ∃ t2, t2 = nxT f n t1 := ⟨_, rfl⟩
    obtain ⟨t3, e3⟩ : ∃ t3, t3 = nxT f n t2 := ⟨_, rfl⟩
    obtain ⟨t4, e4⟩ : ∃ t4, t4 = nxT f n t3 := ⟨_, rfl⟩
    by_cases g1 : t.1 = 258
    · have h1 : gtT t1 := by rw [e1]; exact nx_g h g1 (by decide)
      by_cases g2 : isMk t1.1 = false
      · rw [rm_m g1 e1 g2]
        exact fun e => Bool.noConfusion e
      · have h2 : gtT t2 := by rw [e2]; exact nx_g h1 rfl (isMk_n g2)
        by_cases g3 : t2.1 = 259
        · have h3 : gtT t3 := by rw [e3]; exact nx_g h2 g3 (by decide)
          by_cases g4 : t3.1 = 44
          · have h4 : gtT t4 := by rw [e4]; exact nx_g h3 g4 (by decide)
            rw [rm_s g1 e1 g2 e2 g3 e3 g4 e4]
            exact ih h4
          · rw [rm_e g1 e1 g2 e2 g3 e3 g4]
            exact fun _ => h3
        · rw [rm_t g1 e1 g2 e2 g3]
          exact fun e => Bool.noConfusion e
    · rw [rm_k g1]
      exact fun e => Bool.noConfusion e
theorem byT_g (h : gtT t) : gtP (byT f n t).1 (byT f n t).2.1 := by
  unfold byT
  split
  · rename_i g
    have h1 := tkT_g (f := f) (n := n) (k := 40) h (by decide) g
    unfold byC
    split
    · rename_i g2
      exact tkT_g (rnG_g h1 g2) (by decide)
    · rename_i g2
      exact fun e => absurd e g2
  · exact fun e => by cases e
theorem fbT_g (h : gtT t) : gtP (fbT f n t).1 (fbT f n t).2.1 := by
  unfold fbT
  split
  · rename_i g
    exact byT_g (nx_g h g.1 (by decide))
  · exact fun _ => h
theorem tlT_g (h : gtT t) : gtP (tlT f n t).1 (tlT f n t).2.1 := by
  unfold tlT
  split
  · rename_i g
    have h1 := tkT_g (f := f) (n := n) (k := 40) h (by decide) g
    unfold tlB
    split
    · rename_i g1
      have h2 := tkT_g (f := f) (n := n) (k := 123) h1 (by decide) g1
      have h3 : gtP (msT f n (tkT f n (tkT f n t 40).2 123).2).1 (msT f n (tkT f n (tkT f n t 40).2 123).2).2.1 := by
        unfold msT
        split
        · exact fun _ => h2
        · exact rmG_g h2
      unfold tlC
      split
      · rename_i g2
        have h4 := tkT_g (f := f) (n := n) (k := 125) (h3 g2) (by decide)
        unfold tlD
        split
        · rename_i g3
          exact tkT_g (h4 g3) (by decide)
        · rename_i g3
          exact fun e => absurd e g3
      · rename_i g2
        exact fun e => absurd e g2
    · exact fun e => by cases e
  · exact fun e => by cases e
theorem pFn_gt (h : gtT t) (h0 : t.1 = 258) : gtP (pFn f n t).1 (pFn f n t).2.1 := by
  unfold pFn
  split
  · exact fun e => by cases e
  · unfold pfB
    split
    · rename_i g
      exact tlT_g (fbT_g (nx_g h h0 (by decide)) g)
    · exact fun e => by cases e
/-- a reader that keeps this -/
def gFq (F : PF) : Prop := ∀ (f : Nat → Int32) (n : Nat) (t : TKQ), (gtT t → gtP (F f n t).1 (F f n t).2.1) ∧ (t.1 = 263 → ¬ t.2.2.2.2.1 = 0 → ∃ X, F f n t = (false, t, X))
theorem opL_g {F : PF} {P : Int32 → Bool} (hF : gFq F) (hP : P 263 = false) : ∀ {w : Nat} {r : PR}, gtP r.1 r.2.1 → gtP (opL F P f n w r).1 (opL F P f n w r).2.1
  | 0, r, h => h
  | w + 1, r, h => by
    unfold opL
    split
    · rename_i g
      have c : ¬ r.2.1.1 = 263 := fun e => by rw [e, hP] at g; exact absurd g.2 (by decide)
      exact opL_g hF hP (w := w) (r := opS F f n r) ((hF f n (nxT f n r.2.1)).1 (nx_g (h g.1) rfl c))
    · exact h
theorem opL_x {F : PF} {P : Int32 → Bool} : ∀ {w : Nat} {r : PR}, ∃ X, (opL F P f n w r).2.2 = r.2.2 ++ X
  | 0, r => ⟨[], (List.append_nil _).symm⟩
  | w + 1, r => by
    unfold opL
    split
    · obtain ⟨X, e⟩ := opL_x (F := F) (P := P) (w := w) (r := opS F f n r)
      exact ⟨_, by rw [e]; exact List.append_assoc _ _ _⟩
    · exact ⟨[], (List.append_nil _).symm⟩
/-- behind a fault nothing is read -/
theorem opL_b {F : PF} {P : Int32 → Bool} (hP : P 263 = false) {w : Nat} {r : PR} (h : gtP r.1 r.2.1) (hc : ¬ r.2.1.2.2.2.2.1 = 0) : opL F P f n w r = r := by
  cases w with
  | zero => rfl
  | succ w =>
    unfold opL
    split
    · rename_i g
      rw [h g.1 hc, hP] at g
      exact absurd g.2 (by decide)
    · rfl
theorem opF_g {F : PF} {P : Int32 → Bool} (hF : gFq F) (hP : P 263 = false) : gFq (fun f n t => opL F P f n n (F f n t)) := fun f n t => ⟨fun h => opL_g hF hP ((hF f n t).1 h), fun h hc => by
  obtain ⟨X, e⟩ := (hF f n t).2 h hc
  refine ⟨X, ?_⟩
  show opL F P f n n (F f n t) = _
  rw [e]
  exact opL_b hP (fun e => by cases e) hc⟩
theorem pFc_gF {O : PF} (hO : ∀ (f : Nat → Int32) (n : Nat) (t : TKQ), isOo t.1 → gtT t → gtP (O f n t).1 (O f n t).2.1) : gFq (pFc O) := fun f n t => ⟨fun h => by
  unfold pFc
  split
  · rename_i g
    exact fun _ => nx_g h g (by decide)
  · split
    · rename_i g
      exact pFn_gt h g
    · split
      · rename_i g
        exact hO f n t g h
      · exact fun e => Bool.noConfusion e, fun h hc => ⟨[], by
    unfold pFc
    rw [if_neg (by rw [h]; decide), if_neg (by rw [h]; decide), if_neg (by rw [h]; decide), rfT_1 hc]⟩⟩
theorem pOp_gt {F : PF} (hF : gFq F) {f : Nat → Int32} {n : Nat} {t : TKQ} (h0 : isOo t.1) (h : gtT t) : gtP (pOp F f n t).1 (pOp F f n t).2.1 := by
  have h1 : gtT (nxT f n t) := by
    rcases h0 with e | e
    · exact nx_g h e (by decide)
    · exact nx_g h e (by decide)
  unfold pOp
  split
  · have h2 := (opF_g (opF_g hF (P := isTq) (by decide)) (P := isAd) (by decide) f n (nxT f n t)).1 h1
    unfold pOc
    split
    · rename_i g
      exact tkT_g (h2 g) (by decide)
    · rename_i g
      exact fun e => absurd e g
  · exact (hF f n (nxT f n t)).1 h1
theorem pFd_gF : ∀ d, gFq (pFd d)
  | 0 => pFc_gF (fun f n t _ _ => fun e => by cases e)
  | d + 1 => pFc_gF (fun f n t h0 h => pOp_gt (pFd_gF d) h0 h)
end GT
