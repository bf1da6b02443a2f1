/-! A question: read by signs, read by descent. -/
section QU
variable {x : MS} {J : List SP1 → MS → Prop} {Jf : List SP1 → SP1 → MS → Prop} {how : Bool} {ts : TKQ}
theorem qRd_b {R : PR} (h : gtP R.1 R.2.1) (hc : ¬ R.2.1.2.2.2.2.1 = 0) : ∃ X, qRd R = (false, R.2.1, X) := by
  unfold qRd
  cases hb : R.1 with
  | false => exact ⟨R.2.2, by rw [if_neg (by decide)]; exact Prod.ext hb rfl⟩
  | true =>
    rw [if_pos rfl, if_neg (by rw [h hb hc]; decide), rfT_1 hc]
    exact ⟨_, rfl⟩
theorem qu_q (h : x.qW how) (hJ : JK x.tape x.length J Jf) (e1 : ts.2.2.1 = 0) (e2 : ts.2.2.2.2.1 = 0) (e3 : x.faultPlace = ts.2.2.2.2.2) (j : J [] (x.qu0 how)) :
    ((qRd (pQ x.tape x.length (nxT x.tape x.length ts))).2.1.2.2.2.2.1 = 0 → (∃ v, (qRd (pQ x.tape x.length (nxT x.tape x.length ts))).1 = true ∧ x.quF how = (true, v) ∧ J (qRd (pQ x.tape x.length (nxT x.tape x.length ts))).2.2 v ∧ flR v (qRd (pQ x.tape x.length (nxT x.tape x.length ts))).2.1) ∨ (how = true ∧ ∃ v, x.quF how = (false, v) ∧ FFq Jf (qRd (pQ x.tape x.length (nxT x.tape x.length ts))).2.2 v)) ∧
    (¬ (qRd (pQ x.tape x.length (nxT x.tape x.length ts))).2.1.2.2.2.2.1 = 0 → how = false → (qRd (pQ x.tape x.length (nxT x.tape x.length ts))).1 = false ∧ ∃ v, x.quF how = (false, v) ∧ flR v (qRd (pQ x.tape x.length (nxT x.tape x.length ts))).2.1) := by
  have hby := h.2.2.1
  have nq := nx_q (m := x.qu0 how) (t := ts) hby e1.symm (Nat.zero_le _) e2 h.2.1 e3
  have nq : nxR (x.qu0 how).nx (nxT x.tape x.length ts) := nq
  have gE : gFq pQ := opF_g (opF_g (pFd_gF 8) (P := isTq) (by decide)) (P := isAd) (by decide)
  obtain ⟨y, ey⟩ : ∃ y, y = (x.qu0 how).nx.2 := ⟨_, rfl⟩
  rw [quF_0 ey]
  rcases nq with ⟨n1, n2⟩ | ⟨n1, n2, n3, n4⟩
  · obtain ⟨li, qk⟩ := qu0_lI h n1
    have T := tk_nx (x.qu0 how)
    rw [← ey] at n2 li qk T
    have ly : y.length = x.length := tk_f T MS.length rfl
    have ty : y.tape = x.tape := tk_f T MS.tape rfl
    rw [if_pos n1, show MS.quR (x.length + 1) y = y.QR from QR_w _ _ _ y li (Nat.le_refl _) (by omega) (Nat.le_refl _)]
    have sy : y.stk = [] := (stk_ck (ck_tk T)).trans rfl
    have wy : y.wants = true := tk_f T MS.wants rfl
    have jy := hJ.1 [] _ y j (sg_tk T)
    obtain ⟨X, eX⟩ : ∃ X, X = MS.s_works x how := ⟨_, rfl⟩
    rw [← eX] at qk
    have hX : X.tape = x.tape ∧ X.length = x.length ∧ X.works = how := by rw [eX]; exact ⟨rfl, rfl, rfl⟩
    have hJX : JK X.tape X.length J Jf := by rw [hX.1, hX.2.1]; exact hJ
    have hbX : byteF X.tape := by rw [hX.1]; exact hby
    have S := sub_E hJX hbX (pFd_gF 8) (fac_sub (fac_all hJX hbX 8)) [] y (nxT x.tape x.length ts) [] ⟨li, qk, wy, n2, sy⟩ (Or.inl rfl) (by rfl) jy
    rw [hX.1, hX.2.1] at S
    obtain ⟨s1, s2⟩ := (show SubG X J Jf [] y [] 0 (pQ x.tape x.length (nxT x.tape x.length ts)) from S)
    have gR := (gE x.tape x.length (nxT x.tape x.length ts)).1 (gt_0 n2.2.2.2.2.2.1)
    generalize pQ x.tape x.length (nxT x.tape x.length ts) = R at s1 s2 gR
    rw [hX.2.2] at s1 s2
    by_cases g : R.2.1.2.2.2.2.1 = 0
    · rcases s1 g with ⟨y2, S0, P, u1, u2, u3, u4, u5, u6, u7, u8⟩ | ⟨u0, v, u1, u2⟩
      · have tk := u7.2.2.2.1
        have oi := lI_1 u7.1 u7.2.2.1
        have fw := (qat_f u7).2.2
        rw [List.append_nil] at u7
        rw [List.nil_append] at u8
        have ro : ¬ (rkN y2.kind = 1 ∨ rkN y2.kind = 2) := fun e => by
          have e2 := kR_rk2 tk.1 e
          rw [← e2] at e
          rcases e with e | e
          · exact u2 1 (by decide) (by decide) e
          · exact u2 2 (by decide) (by decide) e
        have op : y2.opnB = false := by
          rw [opnB_e, u7.2.2.2.2, List.any_eq_false]
          intro a ha e
          exact (bin_c (u4 a ha).1).2.2.2.2.2 (of_decide_eq_true e)
        unfold qRd
        rw [if_pos u1]
        by_cases k : y2.kind = 0
        · have e : R.2.1.1 = 256 := (kR_i tk.1 kR_0).mp k
          rw [if_pos e, u5, QR_e u7.1 k u7.2.2.1, show y2.qu3 = y2.dt 1 from if_neg (by rw [op]; decide)]
          refine ⟨fun _ => ?_, fun e => absurd g e⟩
          rcases dt_J hJ (rk := 1) (by decide) (S := []) (Or.inl rfl) (oI_dI oi) (by rw [u7.2.2.2.2, List.append_nil]) (fun a ha => (u4 a ha).2) u8 with ⟨b1, b2, b3⟩ | ⟨b1, b2, b3⟩
          · obtain ⟨v, ev⟩ : ∃ v, v = (y2.dt 1).2 := ⟨_, rfl⟩
            obtain ⟨t1, t2, t3⟩ := tkR_dt (by decide) oi (show y2.dt 1 = (true, v) from Prod.ext b1 ev.symm) tk
            rw [← ev, ← u3] at b2
            exact Or.inl ⟨v, u1, Prod.ext b1 ev.symm, b2, t1.2.2.2.2.1.trans t1.2.2.2.2.2.1.symm, t1.2.2.2.2.2.2⟩
          · rw [← u3] at b2
            exact Or.inr ⟨(fw.trans hX.2.2).symm.trans b3, (y2.dt 1).2, Prod.ext b1 rfl, b2⟩
        · have e : ¬ R.2.1.1 = 256 := fun e => k ((kR_i tk.1 kR_0).mpr e)
          rw [if_neg e, u5]
          have q2 : y2.q1 = (false, y2.flS 2 y2.frm) := by
            unfold MS.q1 MS.opr
            rw [if_neg (by rw [u7.2.2.1]; decide), if_neg ro, if_neg (fun e => by rw [op] at e; exact absurd e.2 (by decide))]
          rw [QR_f u7.1 (Or.inl k) (by rw [q2]), q2]
          refine ⟨fun e => absurd e (rfT_n g (by decide)), fun _ _ => ⟨rfl, _, rfl, ?_⟩⟩
          show flR _ (rfT R.2.1 2 R.2.1.2.1)
          rw [rfT_0 g]
          exact ⟨rfl, congrArg nI tk.2.1⟩
      · rw [List.nil_append] at u2
        have qx : (qRd R).2.2 = R.2.2 := by
          unfold qRd
          split
          · split <;> rfl
          · rfl
        rw [u1, qx]
        exact ⟨fun _ => Or.inr ⟨u0, v, rfl, u2⟩, fun _ e => by rw [u0] at e; cases e⟩
    · obtain ⟨X', eX'⟩ := qRd_b gR g
      rw [eX']
      refine ⟨fun e => absurd e g, fun _ w => ⟨rfl, ?_⟩⟩
      exact s2 g w
  · obtain ⟨X, eX⟩ := (gE x.tape x.length (nxT x.tape x.length ts)).2 n2 n3
    rw [eX, if_neg (by rw [n1]; decide), ey]
    exact ⟨fun e => absurd e n3, fun _ _ => ⟨rfl, _, rfl, n4⟩⟩
end QU
