/-! A question read by signs and by descent: what both keep. -/
theorem dn_fp (x : MS) (h : x.dnF.1 = true) : x.dnF.2.faultPlace = x.faultPlace ∧ x.dnF.2.amount = x.amount := by
  unfold MS.dnF at h ⊢
  split
  · rename_i g
    rw [if_pos g] at h
    split
    · exact ⟨rfl, rfl⟩
    · rename_i g2
      rw [if_neg g2] at h
      have h : x.pop.opB = true := h
      show (x.pop.opS _ _).faultPlace = _ ∧ (x.pop.opS _ _).amount = _
      rw [op_v h]
      show (x.pop.opM _).faultPlace = _ ∧ (x.pop.opM _).amount = _
      have T := tb_opM x.pop (nI x.top)
      exact ⟨tb_f T MS.faultPlace rfl, tb_f T MS.amount rfl⟩
  · exact ⟨rfl, rfl⟩
theorem dt_fp {rk : Nat} : ∀ {w : Nat} {x : MS}, (MS.dtF rk w x).1 = true → (MS.dtF rk w x).2.faultPlace = x.faultPlace ∧ (MS.dtF rk w x).2.amount = x.amount
  | 0, x, _ => ⟨rfl, rfl⟩
  | w + 1, x, h => by
    unfold MS.dtF at h ⊢
    split
    · exact ⟨rfl, rfl⟩
    · rename_i g0
      rw [if_neg g0] at h
      split
      · exact ⟨rfl, rfl⟩
      · rename_i g1
        rw [if_neg g1] at h
        split
        · rename_i g2
          rw [if_pos g2] at h
          obtain ⟨a, b⟩ := dn_fp x g2
          obtain ⟨c, d⟩ := dt_fp (w := w) h
          exact ⟨c.trans a, d.trans b⟩
        · rename_i g2
          rw [if_neg g2] at h
          cases h
theorem tkR_dt {y v : MS} {rk : Nat} {t : TKQ} (hr : 1 ≤ rk) (h : y.oI 1) (hd : y.dt rk = (true, v)) (ht : tkR y t) : tkR v t ∧ v.oI 1 ∧ y.dk v := by
  obtain ⟨a, b, ⟨c1, c2, c3⟩, -⟩ := dt_oI hr h hd
  have ev : v = (MS.dtF rk y.signCount y).2 := by
    show v = (y.dt rk).2
    rw [hd]
  obtain ⟨e1, e2⟩ := dt_fp (rk := rk) (w := y.signCount) (x := y) (by
    show (y.dt rk).1 = true
    rw [hd])
  rw [← ev] at e1 e2
  obtain ⟨h1, h2, h3, h4, h5, h6, h7⟩ := ht
  refine ⟨⟨by rw [c1]; exact h1, c2.trans h2, c3.trans h3, fun g => ?_, a.1.2.2.2, h6, e1.trans h7⟩, a, b⟩
  rw [c1] at g
  exact e2.trans (h4 g)
theorem kR_rk {a b : Int32} (h : kR a b) (hr : rkN b = 1 ∨ rkN b = 2) : a = b := by
  rcases h with ⟨-, e⟩ | ⟨-, e⟩ | ⟨-, e⟩ | ⟨-, e⟩ | ⟨-, e⟩ | ⟨-, e⟩ | ⟨-, e⟩ | ⟨-, e⟩
  · subst e; exfalso; revert hr; decide
  · subst e; exfalso; revert hr; decide
  · subst e; exfalso; revert hr; decide
  · subst e; exfalso; revert hr; decide
  · subst e; exfalso; revert hr; decide
  · subst e; exfalso; revert hr; decide
  · subst e; exfalso; revert hr; decide
  · exact e.symm
/-- how many of the signs open -/
def cO : List (Nat × Nat) → Nat
  | [] => 0
  | a :: S => cO S + (if isOpS a.1 then 1 else 0)
theorem cO_st (s p : Nat → Nat) : ∀ k, cO (stG s p k) = cnt k (fun i => isOpS (s i))
  | 0 => rfl
  | k + 1 => by
    show cO (stG s p k) + (if isOpS (s k) then 1 else 0) = cnt k (fun i => isOpS (s i)) + (if isOpS (s k) then 1 else 0)
    rw [cO_st s p k]
theorem opn_cO {y : MS} (h : y.lI) : y.opn = cO y.stk := by
  have : ∀ e, y.oI e → y.opn = cO y.stk := fun e g => by
    unfold MS.stk
    rw [cO_st]
    exact g.2.2.2.1.2.1.symm
  rcases h with ⟨-, g⟩ | ⟨-, g⟩
  · exact this 0 g
  · exact this 1 g
/-- the reference at a token -/
def MS.qat (x y : MS) (t : TKQ) (w : Bool) (S : List (Nat × Nat)) : Prop := y.lI ∧ x.qk y ∧ y.wants = w ∧ tkR y t ∧ y.stk = S
section QA
variable {x y : MS} {t : TKQ} {w : Bool} {S : List (Nat × Nat)}
theorem lI_lx (h : y.lI) : y.lx := by
  rcases h with ⟨-, g⟩ | ⟨-, g⟩
  · exact g.1
  · exact g.1
theorem lI_fr (h : y.lI) : y.kind = 0 ∨ y.frm < y.too := by
  rcases h with ⟨-, g⟩ | ⟨-, g⟩
  · exact g.2.2.1
  · exact g.2.2.1
theorem qat_f (h : x.qat y t w S) : y.tape = x.tape ∧ y.length = x.length ∧ y.works = x.works := ⟨qk_f h.2.1 MS.tape rfl, qk_f h.2.1 MS.length rfl, qk_f h.2.1 MS.works rfl⟩
end QA
/-- the signs from here on bind no more than rk -/
def hdK (S : List (Nat × Nat)) (rk : Nat) : Prop := S = [] ∨ ∃ b S', S = b :: S' ∧ rkM b.1 ≤ rk
theorem hdK_m {S : List (Nat × Nat)} {a b : Nat} (h : hdK S a) (hab : a ≤ b) : hdK S b := h.imp id (fun ⟨c, S', e, g⟩ => ⟨c, S', e, Nat.le_trans g hab⟩)
/-- a part of a question read: steps done and signs that wait, or a step not done; or a fault -/
def SubG (x : MS) (J : List SP1 → MS → Prop) (Jf : List SP1 → SP1 → MS → Prop) (L : List SP1) (y : MS) (S : List (Nat × Nat)) (rk : Nat) (R : PR) : Prop :=
  (R.2.1.2.2.2.2.1 = 0 → (∃ (y' : MS) (S0 : List SP1) (P : List (Nat × Nat)), R.1 = true ∧ (∀ k, rk < k → k ≤ 2 → ¬ rkN R.2.1.1 = k) ∧ R.2.2 = S0 ++ P.map fls ∧ (∀ a, a ∈ P → binS a.1 = true ∧ rk < rkM a.1) ∧ y.QR = y'.QR ∧ y.frm < y'.frm ∧ x.qat y' R.2.1 false (P ++ S) ∧ J (L ++ S0) y') ∨ (x.works = true ∧ ∃ v, y.QR = (false, v) ∧ FFq Jf (L ++ R.2.2) v)) ∧
  (¬ R.2.1.2.2.2.2.1 = 0 → x.works = false → ∃ v, y.QR = (false, v) ∧ flR v R.2.1)
def SubS (x : MS) (J : List SP1 → MS → Prop) (Jf : List SP1 → SP1 → MS → Prop) (d : Nat) (F : PF) (rk : Nat) : Prop := ∀ (L : List SP1) (y : MS) (t : TKQ) (S : List (Nat × Nat)), x.qat y t true S → hdK S rk → cO S + d = 8 → J L y → SubG x J Jf L y S rk (F x.tape x.length t)
section OL
variable {x : MS} {J : List SP1 → MS → Prop} {Jf : List SP1 → SP1 → MS → Prop} {d rk : Nat} {F : PF} {Pk : Int32 → Bool}
theorem psh_st {v : MS} : v.psh.stk = (i2n v.kind, v.frm) :: v.stk := stG_up _ _ _ _ _
theorem fls_b {k : Int32} {q : Nat} (h : rkN k = 1 ∨ rkN k = 2) : fls (i2n k, q) = spO k q 0 := by
  obtain ⟨h1, h2, -, -⟩ := rkN_c h
  have b := bin_c h1
  unfold fls
  rw [if_neg b.2.2.2.2.1, ← i2n_nI h2]
theorem op_D {L : List SP1} {y : MS} {S : List (Nat × Nat)} {r : PR} {yi : MS} {S0 : List SP1} {P : List (Nat × Nat)} (h1 : r.1 = true) (h2 : r.2.1.2.2.2.2.1 = 0) (h3 : r.2.2 = S0 ++ P.map fls) (h4 : ∀ a, a ∈ P → binS a.1 = true ∧ rk - 1 < rkM a.1) (h5 : ∀ k, rk < k → k ≤ 2 → ¬ rkN r.2.1.1 = k) (h7 : y.QR = yi.QR) (h8 : y.frm < yi.frm) (h9 : x.qat yi r.2.1 false (P ++ S)) (h10 : J (L ++ S0) yi) (g : ¬ rkN r.2.1.1 = rk) : SubG x J Jf L y S (rk - 1) r :=
  ⟨fun _ => Or.inl ⟨yi, S0, P, h1, fun k k1 k2 => by
      by_cases e : k = rk
      · rw [e]; exact g
      · exact h5 k (by omega) k2, h3, h4, h7, h8, h9, h10⟩, fun e => absurd h2 e⟩
theorem op_L (hJ : JK x.tape x.length J Jf) (hby : byteF x.tape) (hg : gFq F) (hF : SubS x J Jf d F rk) (hr : 1 ≤ rk) (hr2 : rk ≤ 2) (hPk : ∀ z, Pk z = true ↔ rkN z = rk) {L : List SP1} {y : MS} {S : List (Nat × Nat)} (hS : hdK S (rk - 1)) (hc : cO S + d = 8) : ∀ {w : Nat} {r : PR} {yi : MS} {S0 : List SP1} {P : List (Nat × Nat)}, r.1 = true → r.2.1.2.2.2.2.1 = 0 → r.2.2 = S0 ++ P.map fls → (∀ a, a ∈ P → binS a.1 = true ∧ rk - 1 < rkM a.1) → (∀ k, rk < k → k ≤ 2 → ¬ rkN r.2.1.1 = k) → x.length ≤ w + r.2.1.2.1 → y.QR = yi.QR → y.frm < yi.frm → x.qat yi r.2.1 false (P ++ S) → J (L ++ S0) yi → SubG x J Jf L y S (rk - 1) (opL F Pk x.tape x.length w r)
  | 0, r, yi, S0, P, h1, h2, h3, h4, h5, h6, h7, h8, h9, h10 => by
    have tk := h9.2.2.2.1
    refine op_D h1 h2 h3 h4 h5 h7 h8 h9 h10 (fun g => ?_)
    have g : rkN r.2.1.1 = rk := g
    have e := kR_rk tk.1 (by omega)
    have fr := lI_fr h9.1
    have lx := lI_lx h9.1
    have ln := (qat_f h9).2.1
    have fq := tk.2.1
    rcases fr with k0 | k0
    · rw [← e, k0] at g
      have g : 0 = rk := g
      omega
    · have := lx.2.2.1
      omega
  | w + 1, r, yi, S0, P, h1, h2, h3, h4, h5, h6, h7, h8, h9, h10 => by
    have tk := h9.2.2.2.1
    by_cases c : rkN r.2.1.1 = rk
    · have hp : Pk r.2.1.1 = true := (hPk _).mpr c
      rw [show opL F Pk x.tape x.length (w + 1) r = opL F Pk x.tape x.length w (opS F x.tape x.length r) from if_pos ⟨h1, hp⟩]
      have hP263 : Pk 263 = false := by
        cases q : Pk 263 with
        | false => rfl
        | true =>
          have := (hPk 263).mp q
          have q0 : rkN 263 = 0 := by decide
          omega
      have r12 : rkN r.2.1.1 = 1 ∨ rkN r.2.1.1 = 2 := by omega
      have ek : yi.kind = r.2.1.1 := kR_rk tk.1 r12
      obtain ⟨b1, b2, b3, b4⟩ := rkN_c r12
      have oi := lI_1 h9.1 h9.2.2.1
      have k0 : ¬ yi.kind = 0 ∨ yi.wants = true := Or.inl (by rw [ek]; exact b4)
      have q1e : yi.q1 = yi.opr1 rk := by
        unfold MS.q1 MS.opr
        rw [if_neg (by rw [h9.2.2.1]; decide), ek, if_pos r12, c]
      have hS' : S = [] ∨ ∃ b S', S = b :: S' ∧ rkM b.1 < rk := hS.imp id (fun ⟨b, S', e, g⟩ => ⟨b, S', e, by omega⟩)
      obtain ⟨X, eX⟩ := opL_x (F := F) (P := Pk) (f := x.tape) (n := x.length) (w := w) (r := opS F x.tape x.length r)
      obtain ⟨ft, fl, fw⟩ := qat_f h9
      rcases dt_J hJ hr hS' (oI_dI oi) h9.2.2.2.2 (fun a ha => by have := (h4 a ha).2; omega) h10 with ⟨a1, a2, a3⟩ | ⟨a1, a2, a3⟩
      · obtain ⟨v, ev⟩ : ∃ v, v = (yi.dt rk).2 := ⟨_, rfl⟩
        obtain ⟨t1, t2, t3⟩ := tkR_dt hr oi (show yi.dt rk = (true, v) from Prod.ext a1 ev.symm) tk
        rw [← ev] at a2 a3
        have q1f : yi.q1 = v.psh.nx := by
          rw [q1e]
          unfold MS.opr1
          rw [if_pos a1, ev]
        have vt : v.psh.tape = x.tape := (dk_f t3 MS.tape rfl).trans ft
        have vl : v.psh.length = x.length := (dk_f t3 MS.length rfl).trans fl
        have tp : tkR v.psh r.2.1 := t1
        have lp : v.psh.lx := t2.1
        have sp := psh_st (v := v)
        have ev1 : i2n v.kind = i2n r.2.1.1 := by rw [kR_rk t1.1 r12]
        have ev2 : v.frm = r.2.1.2.1 := t1.2.1
        rw [a3, ev1, ev2] at sp
        have jp : J (L ++ r.2.2) v.psh := by
          rw [h3, ← List.append_assoc]
          exact hJ.1 _ v v.psh a2 rfl
        rcases nx_c vt vl hby tp lp with ⟨n1, n2, n3, n4⟩ | ⟨n1, n2, n3, n4⟩
        · obtain ⟨y1, ey1⟩ : ∃ y1, y1 = yi.q1.2 := ⟨_, rfl⟩
          obtain ⟨z1, z2, z3, z4⟩ := QR_t h9.1 k0 (by rw [q1f]; exact n1) ey1
          have e1 : y1 = v.psh.nx.2 := by rw [ey1, q1f]
          have T := tk_nx v.psh
          rw [← e1] at n2 n3 T
          have sy : y1.stk = (i2n r.2.1.1, r.2.1.2.1) :: S := (stk_ck (ck_tk T)).trans sp
          have wy : y1.wants = true := tk_f T MS.wants rfl
          have jy := hJ.1 _ v.psh y1 jp (sg_tk T)
          have qy : x.qat y1 (nxT x.tape x.length r.2.1) true ((i2n r.2.1.1, r.2.1.2.1) :: S) := ⟨z2, qk_tr h9.2.1 z3, wy, n2, sy⟩
          have bc := bin_c b1
          have hh : hdK ((i2n r.2.1.1, r.2.1.2.1) :: S) rk := Or.inr ⟨_, _, rfl, by rw [b3, c]; exact Nat.le_refl _⟩
          have hcc : cO ((i2n r.2.1.1, r.2.1.2.1) :: S) + d = 8 := by
            show cO S + (if isOpS (i2n r.2.1.1) then 1 else 0) + d = 8
            rw [bc.2.1]
            exact hc
          obtain ⟨s1, s2⟩ := hF (L ++ r.2.2) y1 (nxT x.tape x.length r.2.1) _ qy hh hcc jy
          have gR := (hg x.tape x.length (nxT x.tape x.length r.2.1)).1 (nxT_g h2)
          have eo : opS F x.tape x.length r = ((F x.tape x.length (nxT x.tape x.length r.2.1)).1, (F x.tape x.length (nxT x.tape x.length r.2.1)).2.1, r.2.2 ++ ((F x.tape x.length (nxT x.tape x.length r.2.1)).2.2 ++ [spO r.2.1.1 r.2.1.2.1 0])) := rfl
          generalize F x.tape x.length (nxT x.tape x.length r.2.1) = R' at s1 s2 gR eo
          by_cases g : R'.2.1.2.2.2.2.1 = 0
          · rcases s1 g with ⟨y2, S1, P1, u1, u2, u3, u4, u5, u6, u7, u8⟩ | ⟨u0, v', u1, u2⟩
            · rw [eo]
              refine op_L hJ hby hg hF hr hr2 hPk hS hc (w := w) (yi := y2) (S0 := r.2.2 ++ S1) (P := P1 ++ [(i2n r.2.1.1, r.2.1.2.1)]) u1 g ?_ ?_ u2 ?_ (h7.trans (z1.trans u5)) (by omega) ?_ ?_
              · show r.2.2 ++ (R'.2.2 ++ [spO r.2.1.1 r.2.1.2.1 0]) = _
                rw [List.map_append, List.map_cons, List.map_nil, fls_b r12, u3]
                simp only [List.append_assoc]
              · intro a ha
                rcases List.mem_append.mp ha with ha | ha
                · exact ⟨(u4 a ha).1, by have := (u4 a ha).2; omega⟩
                · rw [List.mem_singleton] at ha
                  rw [ha]
                  exact ⟨b1, by show rk - 1 < rkM (i2n r.2.1.1); rw [b3, c]; omega⟩
              · show x.length ≤ w + R'.2.1.2.1
                have q1 := u7.2.2.2.1.2.1
                have q2 := n2.2.1
                have q3 := tk.2.1
                omega
              · rw [List.append_assoc]
                exact u7
              · rw [← List.append_assoc]
                exact u8
            · refine ⟨fun _ => Or.inr ⟨u0, v', (h7.trans z1).trans u1, ?_⟩, fun _ e => by rw [u0] at e; cases e⟩
              rw [eX, eo]
              show FFq Jf (L ++ ((r.2.2 ++ (R'.2.2 ++ [spO r.2.1.1 r.2.1.2.1 0])) ++ X)) v'
              have := FF_m u2 ([spO r.2.1.1 r.2.1.2.1 0] ++ X)
              simp only [List.append_assoc] at this ⊢
              exact this
          · have eb : opL F Pk x.tape x.length w (opS F x.tape x.length r) = opS F x.tape x.length r := opL_b hP263 (by rw [eo]; exact gR) (by rw [eo]; exact g)
            rw [eb, eo]
            refine ⟨fun e => absurd e g, fun _ e => ?_⟩
            obtain ⟨v', w1, w2⟩ := s2 g e
            exact ⟨v', (h7.trans z1).trans w1, w2⟩
        · obtain ⟨X', eX'⟩ := (hg x.tape x.length (nxT x.tape x.length r.2.1)).2 n2 n3
          have eo : opS F x.tape x.length r = (false, nxT x.tape x.length r.2.1, r.2.2 ++ (X' ++ [spO r.2.1.1 r.2.1.2.1 0])) := by
            show ((F x.tape x.length (nxT x.tape x.length r.2.1)).1, (F x.tape x.length (nxT x.tape x.length r.2.1)).2.1, r.2.2 ++ ((F x.tape x.length (nxT x.tape x.length r.2.1)).2.2 ++ [spO r.2.1.1 r.2.1.2.1 0])) = _
            rw [eX']
          have eb : opL F Pk x.tape x.length w (opS F x.tape x.length r) = opS F x.tape x.length r := opL_b hP263 (by rw [eo]; exact fun e => by cases e) (by rw [eo]; exact n3)
          rw [eb, eo]
          refine ⟨fun e => absurd e n3, fun _ _ => ⟨v.psh.nx.2, ?_, n4⟩⟩
          rw [h7, QR_f h9.1 k0 (by rw [q1f]; exact n1), q1f]
      · have wt : x.works = true := fw.symm.trans a3
        refine ⟨fun _ => Or.inr ⟨wt, (yi.dt rk).2, ?_, ?_⟩, fun _ e => by rw [wt] at e; cases e⟩
        · have q1f : yi.q1 = (false, (yi.dt rk).2) := by
            rw [q1e]
            unfold MS.opr1
            rw [if_neg (by rw [a1]; decide)]
          rw [h7, QR_f h9.1 k0 (by rw [q1f]), q1f]
        · rw [eX]
          show FFq Jf (L ++ ((r.2.2 ++ ((F x.tape x.length (nxT x.tape x.length r.2.1)).2.2 ++ [spO r.2.1.1 r.2.1.2.1 0])) ++ X)) _
          have := FF_m a2 (((F x.tape x.length (nxT x.tape x.length r.2.1)).2.2 ++ [spO r.2.1.1 r.2.1.2.1 0]) ++ X)
          rw [h3]
          simp only [List.append_assoc] at this ⊢
          exact this
    · have hp : ¬ (r.1 = true ∧ Pk r.2.1.1 = true) := fun e => c ((hPk _).mp e.2)
      rw [show opL F Pk x.tape x.length (w + 1) r = r from if_neg hp]
      exact op_D h1 h2 h3 h4 h5 h7 h8 h9 h10 c
end OL
