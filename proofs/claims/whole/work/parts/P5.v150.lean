/-! Factors: minuses and parentheses; all depths; a question. -/
theorem psS_st (v : MS) (sg : Nat) : (v.psS sg).stk = (sg, v.frm) :: v.stk := stG_up _ _ _ _ _
theorem kR_rk2 {a b : Int32} (h : kR a b) (hr : rkN a = 1 ∨ rkN a = 2) : b = a := by
  rcases h with ⟨e, -⟩ | ⟨e, -⟩ | ⟨e, -⟩ | ⟨e, -⟩ | ⟨e, -⟩ | ⟨e, -⟩ | ⟨e, -⟩ | ⟨-, e⟩
  · subst e; exfalso; revert hr; decide
  · subst e; exfalso; revert hr; decide
  · subst e; exfalso; revert hr; decide
  · subst e; exfalso; revert hr; decide
  · subst e; exfalso; revert hr; decide
  · subst e; exfalso; revert hr; decide
  · subst e; exfalso; revert hr; decide
  · exact e
theorem opB_st {s p : Nat → Nat} : ∀ {k : Nat}, anyB k (fun i => decide (s i = 40)) = (stG s p k).any (fun a => decide (a.1 = 40))
  | 0 => rfl
  | k + 1 => by
    show (anyB k (fun i => decide (s i = 40)) || decide (s k = 40)) = (decide (s k = 40) || (stG s p k).any (fun a => decide (a.1 = 40)))
    rw [opB_st (p := p), Bool.or_comm]
theorem opnB_e (y : MS) : y.opnB = y.stk.any (fun a => decide (a.1 = 40)) := opB_st
section FP
variable {x : MS} {J : List SP1 → MS → Prop} {Jf : List SP1 → SP1 → MS → Prop} {L : List SP1} {y : MS} {t : TKQ} {S : List (Nat × Nat)}
theorem os_st (hJ : JK x.tape x.length J Jf) (hby : byteF x.tape) (q : x.qat y t true S) (j : J L y) {sg : Nat} (q1e : y.q1 = y.osF sg) (ho : ¬ y.opn = 8) : (∃ y1, y.QR = y1.QR ∧ y.frm < y1.frm ∧ x.qat y1 (nxT x.tape x.length t) true ((sg, t.2.1) :: S) ∧ J L y1 ∧ (nxT x.tape x.length t).2.2.2.2.1 = 0) ∨ (¬ (nxT x.tape x.length t).2.2.2.2.1 = 0 ∧ (nxT x.tape x.length t).1 = 263 ∧ ∃ v, y.QR = (false, v) ∧ flR v (nxT x.tape x.length t)) := by
  obtain ⟨ft, fl, fw⟩ := qat_f q
  have k0 : ¬ y.kind = 0 ∨ y.wants = true := Or.inr q.2.2.1
  have q2 : y.q1 = (y.psS sg).nx := q1e.trans (if_neg ho)
  have tp : tkR (y.psS sg) t := q.2.2.2.1
  have lp0 : y.lx := lI_lx q.1
  have lp : (y.psS sg).lx := lp0
  have sp := psS_st y sg
  rw [q.2.2.2.1.2.1, q.2.2.2.2] at sp
  rcases nx_c (y := y.psS sg) ft fl hby tp lp with ⟨n1, n2, n3, n4⟩ | ⟨n1, n2, n3, n4⟩
  · obtain ⟨y1, ey⟩ : ∃ y1, y1 = (y.psS sg).nx.2 := ⟨_, rfl⟩
    obtain ⟨z1, z2, z3, z4⟩ := QR_t (v := y1) q.1 k0 (by rw [q2]; exact n1) (by rw [q2]; exact ey)
    have T := tk_nx (y.psS sg)
    rw [← ey] at n2 T
    exact Or.inl ⟨y1, z1, z4, ⟨z2, qk_tr q.2.1 z3, (tk_f T MS.wants rfl).trans q.2.2.1, n2, (stk_ck (ck_tk T)).trans sp⟩, hJ.1 L (y.psS sg) y1 (hJ.1 L y (y.psS sg) j rfl) (sg_tk T), n4⟩
  · refine Or.inr ⟨n3, n2, (y.psS sg).nx.2, ?_, n4⟩
    rw [QR_f q.1 k0 (by rw [q2]; exact n1), q2]
theorem fac_m (hJ : JK x.tape x.length J Jf) (hby : byteF x.tape) {d : Nat} (hF : FacS x J Jf d) (q : x.qat y t true S) (hc : cO S + (d + 1) = 8) (j : J L y) (h : t.1 = 45) : FacG x J Jf L y S (pOp (pFd d) x.tape x.length t) := by
  have ky : y.kind = 45 := (kR_i q.2.2.2.1.1 (kR_s (by decide))).mpr h
  have ho : ¬ y.opn = 8 := by
    rw [opn_cO q.1, q.2.2.2.2]
    omega
  have q1e : y.q1 = y.osF 109 := by
    unfold MS.q1 MS.odF
    rw [if_pos q.2.2.1, if_pos ky]
  rw [show pOp (pFd d) x.tape x.length t = ((pFd d x.tape x.length (nxT x.tape x.length t)).1, (pFd d x.tape x.length (nxT x.tape x.length t)).2.1, (pFd d x.tape x.length (nxT x.tape x.length t)).2.2 ++ [spO 265 t.2.1 0]) from if_neg (by rw [h]; decide)]
  rcases os_st hJ hby q j q1e ho with ⟨y1, a1, a2, a3, a4, a5⟩ | ⟨a1, a2, a3⟩
  · obtain ⟨s1, s2⟩ := hF L y1 (nxT x.tape x.length t) ((109, t.2.1) :: S) a3 (by
      show cO S + 1 + d = 8
      omega) a4
    have e1 : topsM ((109, t.2.1) :: S) = (109, t.2.1) :: topsM S := rfl
    have e2 : restM ((109, t.2.1) :: S) = restM S := rfl
    rw [e1, e2] at s1
    generalize pFd d x.tape x.length (nxT x.tape x.length t) = R at s1 s2
    have e3 : L ++ (R.2.2 ++ ((109, t.2.1) :: topsM S).map fls) = L ++ ((R.2.2 ++ [spO 265 t.2.1 0]) ++ (topsM S).map fls) := by
      rw [List.map_cons, List.append_assoc]
      rfl
    rw [e3] at s1
    refine ⟨fun g => ?_, fun g w => ?_⟩
    · rcases s1 g with ⟨y', u1, u2, u3, u4, u5⟩ | ⟨u0, v, u1, u2⟩
      · exact Or.inl ⟨y', u1, a1.trans u2, Nat.lt_trans a2 u3, u4, u5⟩
      · exact Or.inr ⟨u0, v, a1.trans u1, u2⟩
    · obtain ⟨v, u1, u2⟩ := s2 g w
      exact ⟨v, a1.trans u1, u2⟩
  · obtain ⟨X, eX⟩ := (pFd_gF d x.tape x.length (nxT x.tape x.length t)).2 a2 a1
    rw [eX]
    exact fac_bad a1 a3
theorem fac_p (hJ : JK x.tape x.length J Jf) (hby : byteF x.tape) {d : Nat} (hF : FacS x J Jf d) (q : x.qat y t true S) (hc : cO S + (d + 1) = 8) (j : J L y) (h : t.1 = 40) : FacG x J Jf L y S (pOp (pFd d) x.tape x.length t) := by
  have ky : y.kind = 40 := (kR_i q.2.2.2.1.1 (kR_s (by decide))).mpr h
  have ho : ¬ y.opn = 8 := by
    rw [opn_cO q.1, q.2.2.2.2]
    omega
  have q1e : y.q1 = y.osF 40 := by
    unfold MS.q1 MS.odF
    rw [if_pos q.2.2.1, if_neg (by rw [ky]; decide), if_pos ky]
  rw [show pOp (pFd d) x.tape x.length t = pOc x.tape x.length (pEx (pTm (pFd d)) x.tape x.length (nxT x.tape x.length t)) from if_pos h]
  have hE := sub_E hJ hby (pFd_gF d) (fac_sub hF)
  have gE := opF_g (opF_g (pFd_gF d) (P := isTq) (by decide)) (P := isAd) (by decide)
  rcases os_st hJ hby q j q1e ho with ⟨y1, a1, a2, a3, a4, a5⟩ | ⟨a1, a2, a3⟩
  · obtain ⟨s1, s2⟩ := hE L y1 (nxT x.tape x.length t) ((40, t.2.1) :: S) a3 (Or.inr ⟨_, _, rfl, show rkM 40 ≤ 0 by decide⟩) (by
      show cO S + 1 + d = 8
      omega) a4
    have gR : gtP (pEx (pTm (pFd d)) x.tape x.length (nxT x.tape x.length t)).1 (pEx (pTm (pFd d)) x.tape x.length (nxT x.tape x.length t)).2.1 := (gE x.tape x.length (nxT x.tape x.length t)).1 (gt_0 a5)
    generalize pEx (pTm (pFd d)) x.tape x.length (nxT x.tape x.length t) = R at s1 s2 gR
    have px : (pOc x.tape x.length R).2.2 = R.2.2 := by
      unfold pOc
      split <;> rfl
    by_cases g : R.2.1.2.2.2.2.1 = 0
    · rcases s1 g with ⟨y2, S0, P, u1, u2, u3, u4, u5, u6, u7, u8⟩ | ⟨u0, v, u1, u2⟩
      · have er : pOc x.tape x.length R = ((tkT x.tape x.length R.2.1 41).1, (tkT x.tape x.length R.2.1 41).2, R.2.2) := if_pos u1
        obtain ⟨ft, fl, fw⟩ := qat_f u7
        have tk := u7.2.2.2.1
        have oi := lI_1 u7.1 u7.2.2.1
        have ro : ¬ (rkN y2.kind = 1 ∨ rkN y2.kind = 2) := fun e => by
          have e2 := kR_rk2 tk.1 e
          rw [← e2] at e
          rcases e with e | e
          · exact u2 1 (by decide) (by decide) e
          · exact u2 2 (by decide) (by decide) e
        have op : y2.opnB = true := by
          rw [opnB_e, u7.2.2.2.2, List.any_append, List.any_cons]
          simp
        have yy := a1.trans u5
        by_cases c : y2.kind = 41
        · have k0 : ¬ y2.kind = 0 ∨ y2.wants = true := Or.inl (by rw [c]; decide)
          have t41 : tkT x.tape x.length R.2.1 41 = (true, nxT x.tape x.length R.2.1) := if_pos ((kR_i tk.1 (kR_s (by decide))).mp c)
          rw [er, t41]
          have q2 : y2.q1 = y2.opr2 := by
            unfold MS.q1 MS.opr
            rw [if_neg (by rw [u7.2.2.1]; decide), if_neg ro, if_pos ⟨c, op⟩]
          rcases dt_J hJ (rk := 1) (by decide) (S := (40, t.2.1) :: S) (Or.inr ⟨_, _, rfl, show rkM 40 < 1 by decide⟩) (oI_dI oi) u7.2.2.2.2 (fun a ha => (u4 a ha).2) u8 with ⟨b1, b2, b3⟩ | ⟨b1, b2, b3⟩
          · obtain ⟨v, ev⟩ : ∃ v, v = (y2.dt 1).2 := ⟨_, rfl⟩
            obtain ⟨t1, t2, t3⟩ := tkR_dt (by decide) oi (show y2.dt 1 = (true, v) from Prod.ext b1 ev.symm) tk
            rw [← ev] at b2 b3
            rw [List.append_assoc, ← u3] at b2
            have q3 : y2.q1 = MS.od3 v.pop4.nx := by
              rw [q2]
              unfold MS.opr2
              rw [if_pos b1, ev]
            obtain ⟨c1, c2, c3, c4⟩ := stk_c b3
            have sp : v.pop4.stk = S := c4
            obtain ⟨i1, i2⟩ := pop4_sI t2.2.2.2.1 c1 c2
            have tp : tkR v.pop4 R.2.1 := t1
            have lp : v.pop4.lx := t2.1
            have jp : J (L ++ R.2.2) v.pop4 := hJ.1 _ v v.pop4 b2 rfl
            have vf : v.tape = x.tape := (dk_f t3 MS.tape rfl).trans ft
            have vl : v.length = x.length := (dk_f t3 MS.length rfl).trans fl
            have vw : v.works = x.works := (dk_f t3 MS.works rfl).trans fw
            have vn : v.wants = false := (dk_f t3 MS.wants rfl).trans u7.2.2.1
            rcases nx_c (y := v.pop4) vf vl hby tp lp with ⟨n1, n2, n3, n4⟩ | ⟨n1, n2, n3, n4⟩
            · obtain ⟨u, eu⟩ : ∃ u, u = v.pop4.nx.2 := ⟨_, rfl⟩
              have T := tk_nx v.pop4
              have A := nx_aft (x := v.pop4) t2.1 n1
              have dI := pop4_nx t2 i1 n1
              rw [← eu] at n2 n3 T A dI
              have uw : u.works = v.works := tk_f T MS.works rfl
              have up : u.pile = v.pile := tk_f T MS.pile rfl
              have ou : u.oI 1 := ⟨A.1, A.2.1, A.2.2.2, dI.1, dI.2.1, dI.2.2.1, by rw [tk_f T MS.tape rfl]; exact t2.2.2.2.2.2.2.1, fun w => by rw [up]; exact t2.2.2.2.2.2.2.2 (by rw [← uw]; exact w)⟩
              have q4 : y2.q1 = u.dt 3 := by rw [q3, od3q_t n1, eu]
              have fe := fac_end hJ (L := L ++ R.2.2) (S := S) u7.1 k0 u7.2.1 q4 ou ((tk_f T MS.wants rfl).trans vn) n2 ((stk_ck (ck_tk T)).trans sp) (uw.trans vw) (hJ.1 _ v.pop4 u jp (sg_tk T))
              refine fac_in rfl n4 ?_
              rcases fe with ⟨y', e1, e2, e3, e4⟩ | ⟨e0, v', e1, e2⟩
              · exact Or.inl ⟨y', yy.trans e1, Nat.lt_trans a2 (Nat.lt_trans u6 e2), e3, e4⟩
              · exact Or.inr ⟨e0, v', yy.trans e1, e2⟩
            · have q4 : y2.q1 = (false, v.pop4.nx.2) := by rw [q3, od3q_f n1]
              refine fac_bad n3 ⟨v.pop4.nx.2, ?_, n4⟩
              rw [yy, QR_f u7.1 k0 (by rw [q4]), q4]
          · have wt : x.works = true := fw.symm.trans b3
            have q3 : y2.q1 = (false, (y2.dt 1).2) := by
              rw [q2]
              unfold MS.opr2
              rw [if_neg (by rw [b1]; decide)]
            refine ⟨fun _ => Or.inr ⟨wt, (y2.dt 1).2, ?_, ?_⟩, fun _ e => by rw [wt] at e; cases e⟩
            · rw [yy, QR_f u7.1 k0 (by rw [q3]), q3]
            · show FFq Jf (L ++ (R.2.2 ++ (topsM S).map fls)) _
              rw [u3, ← List.append_assoc, ← List.append_assoc]
              exact FF_m b2 _
        · have t41 : tkT x.tape x.length R.2.1 41 = (false, rfT R.2.1 2 R.2.1.2.1) := if_neg (fun e => c ((kR_i tk.1 (kR_s (by decide))).mpr e))
          rw [er, t41]
          refine fac_bad (rfT_n g (by decide)) ⟨y2.flS 2 y2.frm, ?_, ?_⟩
          · rw [yy]
            by_cases k : y2.kind = 0
            · rw [QR_e u7.1 k u7.2.2.1]
              exact if_pos op
            · have q2 : y2.q1 = (false, y2.flS 2 y2.frm) := by
                unfold MS.q1 MS.opr
                rw [if_neg (by rw [u7.2.2.1]; decide), if_neg ro, if_neg (fun e => c e.1)]
              rw [QR_f u7.1 (Or.inl k) (by rw [q2]), q2]
          · show flR _ (rfT R.2.1 2 R.2.1.2.1)
            rw [rfT_0 g]
            exact ⟨rfl, congrArg nI tk.2.1⟩
      · refine ⟨fun _ => Or.inr ⟨u0, v, a1.trans u1, ?_⟩, fun _ e => by rw [u0] at e; cases e⟩
        rw [px, ← List.append_assoc]
        exact FF_m u2 _
    · have er : pOc x.tape x.length R = (false, R.2.1, R.2.2) := by
        unfold pOc
        cases hb : R.1 with
        | false =>
          rw [if_neg (by decide)]
          exact Prod.ext hb rfl
        | true => rw [if_pos rfl, tkT_b (gR hb g) (by decide) g]
      rw [er]
      refine ⟨fun e => absurd e g, fun _ w => ?_⟩
      obtain ⟨v, v1, v2⟩ := s2 g w
      exact ⟨v, a1.trans v1, v2⟩
  · obtain ⟨X, eX⟩ := (gE x.tape x.length (nxT x.tape x.length t)).2 a2 a1
    rw [show pEx (pTm (pFd d)) x.tape x.length (nxT x.tape x.length t) = (false, nxT x.tape x.length t, X) from eX]
    exact fac_bad a1 a3
theorem fac_d (hJ : JK x.tape x.length J Jf) (hby : byteF x.tape) {O : PF} (q : x.qat y t true S) (j : J L y) (hO : isOo t.1 → FacG x J Jf L y S (O x.tape x.length t)) : FacG x J Jf L y S (pFc O x.tape x.length t) := by
  unfold pFc
  by_cases c1 : t.1 = 257
  · rw [if_pos c1]
    exact fac_n hJ hby q j c1
  · rw [if_neg c1]
    by_cases c2 : t.1 = 258
    · rw [if_pos c2]
      exact fac_c hJ hby q j c2
    · rw [if_neg c2]
      by_cases c3 : t.1 = 40 ∨ t.1 = 45
      · rw [if_pos c3]
        exact hO c3
      · rw [if_neg c3]
        have tk := q.2.2.2.1
        have e1 : ¬ y.kind = 1 := fun e => c1 ((kR_i tk.1 kR_1).mp e)
        have e2 : ¬ y.kind = 2 := fun e => c2 ((kR_i tk.1 kR_2).mp e)
        have e3 : ¬ y.kind = 40 := fun e => c3 (Or.inl ((kR_i tk.1 (kR_s (by decide))).mp e))
        have e4 : ¬ y.kind = 45 := fun e => c3 (Or.inr ((kR_i tk.1 (kR_s (by decide))).mp e))
        refine fac_r q (by decide) ⟨MS.s_wants y false, ?_⟩
        unfold MS.q1 MS.odF
        rw [if_pos q.2.2.1, if_neg e4, if_neg e3, fnI_n (y := MS.s_wants y false) e2, if_pos (by decide), if_neg e1]
theorem fac_all (hJ : JK x.tape x.length J Jf) (hby : byteF x.tape) : ∀ d, FacS x J Jf d
  | 0 => fun L y t S q hc j => fac_d hJ hby q j (fun c => by
    have ho : y.opn = 8 := by
      rw [opn_cO q.1, q.2.2.2.2]
      omega
    have tk := q.2.2.2.1
    refine fac_r q (by decide) ⟨y, ?_⟩
    unfold MS.q1 MS.odF
    rw [if_pos q.2.2.1]
    rcases c with c | c
    · have e : y.kind = 40 := (kR_i tk.1 (kR_s (by decide))).mpr c
      rw [if_neg (by rw [e]; decide), if_pos e]
      exact if_pos ho
    · have e : y.kind = 45 := (kR_i tk.1 (kR_s (by decide))).mpr c
      rw [if_pos e]
      exact if_pos ho)
  | d + 1 => fun L y t S q hc j => fac_d hJ hby q j (fun c => by
    rcases c with c | c
    · exact fac_p hJ hby (fac_all hJ hby d) q hc j c
    · exact fac_m hJ hby (fac_all hJ hby d) q hc j c)
end FP
