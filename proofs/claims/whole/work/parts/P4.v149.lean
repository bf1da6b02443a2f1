/-! Factors: numbers and functions. -/
theorem od3q_t {m : Bool × MS} (h : m.1 = true) : MS.od3 m = m.2.dt 3 := if_pos h
theorem od3q_f {m : Bool × MS} (h : m.1 = false) : MS.od3 m = (false, m.2) := if_neg (by rw [h]; decide)
theorem fnI_n {y : MS} (h : ¬ y.kind = 2) : y.fnI = -1 := by
  unfold MS.fnI
  rw [show y.fnN = 0 from if_neg h]
  rfl
theorem fnV_c (L : List Int32) : fnV L = -1 ∨ ∃ wh, wh < 7 ∧ fnV L = nI wh := by
  unfold fnV
  split
  · exact Or.inr ⟨0, by decide, rfl⟩
  · split
    · exact Or.inr ⟨1, by decide, rfl⟩
    · split
      · exact Or.inr ⟨2, by decide, rfl⟩
      · split
        · exact Or.inr ⟨3, by decide, rfl⟩
        · split
          · exact Or.inr ⟨4, by decide, rfl⟩
          · split
            · exact Or.inr ⟨5, by decide, rfl⟩
            · split
              · exact Or.inr ⟨6, by decide, rfl⟩
              · exact Or.inl rfl
theorem nI_nn {k : Nat} (h : k < 2 ^ 31) : ¬ nI k < 0 := fun e => by
  rw [Int32.lt_iff_toInt_lt, nI_toInt (by omega)] at e
  have : (0 : Int32).toInt = 0 := rfl
  omega
section FA
variable {x : MS} {J : List SP1 → MS → Prop} {Jf : List SP1 → SP1 → MS → Prop} {L : List SP1} {y : MS} {t : TKQ} {S : List (Nat × Nat)}
/-- the same with the operand's steps -/
theorem fac_in {R : PR} (h1 : R.1 = true) (h2 : R.2.1.2.2.2.2.1 = 0) (h : (∃ y' : MS, y.QR = y'.QR ∧ y.frm < y'.frm ∧ x.qat y' R.2.1 false (restM S) ∧ J ((L ++ R.2.2) ++ (topsM S).map fls) y') ∨ (x.works = true ∧ ∃ v, y.QR = (false, v) ∧ FFq Jf ((L ++ R.2.2) ++ (topsM S).map fls) v)) : FacG x J Jf L y S R := by
  rw [List.append_assoc] at h
  refine ⟨fun _ => ?_, fun e => absurd h2 e⟩
  rcases h with ⟨y', a, b, c, d⟩ | u
  · exact Or.inl ⟨y', h1, a, b, c, d⟩
  · exact Or.inr u
theorem fac_bad {R : PR} (h2 : ¬ R.2.1.2.2.2.2.1 = 0) (h : ∃ v, y.QR = (false, v) ∧ flR v R.2.1) : FacG x J Jf L y S R := ⟨fun e => absurd e h2, fun _ _ => h⟩
/-- refused -/
theorem fac_r {k : Int32} {X : List SP1} (q : x.qat y t true S) (hk : ¬ k = 0) (q1e : ∃ z, y.q1 = (false, MS.flS z k y.frm)) : FacG x J Jf L y S (false, rfT t k t.2.1, X) := by
  obtain ⟨z, q1e⟩ := q1e
  have tk := q.2.2.2.1
  refine fac_bad (rfT_n tk.2.2.2.2.2.1 hk) ⟨MS.flS z k y.frm, ?_, ?_⟩
  · rw [QR_f q.1 (Or.inr q.2.2.1) (by rw [q1e]), q1e]
  · show flR _ (rfT t k t.2.1)
    rw [rfT_0 tk.2.2.2.2.2.1]
    exact ⟨rfl, congrArg nI tk.2.1⟩
theorem fac_n (hJ : JK x.tape x.length J Jf) (hby : byteF x.tape) (q : x.qat y t true S) (j : J L y) (h : t.1 = 257) : FacG x J Jf L y S (true, nxT x.tape x.length t, [spO 257 t.2.1 t.2.2.2.1]) := by
  obtain ⟨ft, fl, fw⟩ := qat_f q
  have tk := q.2.2.2.1
  have ky : y.kind = 1 := (kR_i tk.1 kR_1).mpr h
  have oi := lI_0 q.1 q.2.2.1
  have k0 : ¬ y.kind = 0 ∨ y.wants = true := Or.inr q.2.2.1
  obtain ⟨y0, e0⟩ : ∃ y0, y0 = MS.s_wants y false := ⟨_, rfl⟩
  have kf : (MS.s_wants y false).fnI < 0 := by
    rw [fnI_n (show ¬ (MS.s_wants y false).kind = 2 from fun e => by
      have e : y.kind = 2 := e
      rw [ky] at e
      revert e
      decide)]
    decide
  have q1e : y.q1 = MS.od3 y0.nm1 := by
    unfold MS.q1 MS.odF
    rw [if_pos q.2.2.1, if_neg (by rw [ky]; decide), if_neg (by rw [ky]; decide), if_pos kf, if_pos ky, e0]
  have j0 : J L y0 := hJ.1 L y y0 j (by rw [e0]; rfl)
  have o0 : y0.oI 0 := by rw [e0]; exact oi
  have t0 : tkR y0 t := by rw [e0]; exact tk
  have k1 : y0.kind = 1 := by rw [e0]; exact ky
  have s0 : y0.stk = S := by rw [e0]; exact q.2.2.2.2
  have f0 : y0.tape = x.tape ∧ y0.length = x.length ∧ y0.works = x.works ∧ y0.wants = false := by rw [e0]; exact ⟨ft, fl, fw, rfl⟩
  have ez : ∃ z, y0.nm1 = z.nx ∧ y0.ck z ∧ tkR z t ∧ z.lx ∧ J (L ++ [spO 257 t.2.1 t.2.2.2.1]) z := by
    unfold MS.nm1
    cases w : y0.works with
    | true =>
      rw [if_pos rfl]
      refine ⟨y0.nbS, rfl, ck_nb y0, t0, o0.1, ?_⟩
      rw [← t0.2.2.2.1 k1]
      exact hJ.2.2.1 L y0 t.2.1 j0 w (o0.2.2.2.2.1 w) (oI_pl o0 (by decide))
    | false =>
      rw [if_neg (by decide)]
      exact ⟨y0, rfl, ck_rf y0, t0, o0.1, hJ.2.1 L _ y0 y0 j0 w rfl⟩
  obtain ⟨z, z1, z2, z3, z4, z5⟩ := ez
  rcases nx_c ((ck_f z2 MS.tape rfl).trans f0.1) ((ck_f z2 MS.length rfl).trans f0.2.1) hby z3 z4 with ⟨n1, n2, n3, n4⟩ | ⟨n1, n2, n3, n4⟩
  · have hm := nm_oI o0 (show y0.nm1 = (true, z.nx.2) by rw [z1]; exact Prod.ext n1 rfl)
    have T := tk_nx z
    have q2 : y.q1 = z.nx.2.dt 3 := by rw [q1e, z1, od3q_t n1]
    have C := ck_tr z2 (ck_tk T)
    exact fac_in rfl n4 (fac_end hJ q.1 k0 q.2.1 q2 hm.1 (hm.2.2.2.trans f0.2.2.2) n2 ((stk_ck C).trans s0) ((ck_f C MS.works rfl).trans f0.2.2.1) (hJ.1 _ z z.nx.2 z5 (sg_tk T)))
  · refine fac_bad n3 ⟨z.nx.2, ?_, n4⟩
    have q2 : y.q1 = (false, z.nx.2) := by rw [q1e, z1, od3q_f n1]
    rw [QR_f q.1 k0 (by rw [q2]), q2]
theorem fac_c (hJ : JK x.tape x.length J Jf) (hby : byteF x.tape) (q : x.qat y t true S) (j : J L y) (h : t.1 = 258) : FacG x J Jf L y S (pFn x.tape x.length t) := by
  obtain ⟨ft, fl, fw⟩ := qat_f q
  have tk := q.2.2.2.1
  have ky : y.kind = 2 := (kR_i tk.1 kR_2).mpr h
  have oi := lI_0 q.1 q.2.2.1
  have k0 : ¬ y.kind = 0 ∨ y.wants = true := Or.inr q.2.2.1
  obtain ⟨y0, e0⟩ : ∃ y0, y0 = MS.s_wants y false := ⟨_, rfl⟩
  have j0 : J L y0 := hJ.1 L y y0 j (by rw [e0]; rfl)
  have o0 : y0.oI 0 := by rw [e0]; exact oi
  have t0 : tkR y0 t := by rw [e0]; exact tk
  have k1 : y0.kind = 2 := by rw [e0]; exact ky
  have s0 : y0.stk = S := by rw [e0]; exact q.2.2.2.2
  have f0 : y0.tape = x.tape ∧ y0.length = x.length ∧ y0.works = x.works ∧ y0.wants = false := by rw [e0]; exact ⟨ft, fl, fw, rfl⟩
  have l0 := o0.1
  have fq := fn_q (y := y0) (t := t) (by rw [f0.1]; exact hby) t0.2.1 t0.2.2.1 k1 l0.1 l0.2.1 l0.2.2.1
  rw [f0.1] at fq
  have n1 : ¬ y.kind = 45 := by rw [ky]; decide
  have n2 : ¬ y.kind = 40 := by rw [ky]; decide
  have n3 : ¬ y.kind = 1 := by rw [ky]; decide
  rcases fnV_c (tkw x.tape t) with e | ⟨wh, hw, e⟩
  · rw [show pFn x.tape x.length t = (false, rfT t 2 t.2.1, []) from if_pos e]
    refine fac_r q (by decide) ⟨MS.s_wants y false, ?_⟩
    unfold MS.q1 MS.odF
    rw [← e0, if_pos q.2.2.1, if_neg n1, if_neg n2, fq, e, if_pos (by decide), if_neg n3]
  · have q1e : y.q1 = MS.od3 (y0.clF wh) := by
      unfold MS.q1 MS.odF
      rw [← e0, if_pos q.2.2.1, if_neg n1, if_neg n2, fq, e, if_neg (nI_nn (by omega)), i2n_of (by omega)]
    have hv : ¬ fnV (tkw x.tape t) = -1 := by rw [e]; exact nI_nm (by omega)
    obtain ⟨c1, c2⟩ := cl_q (wh := wh) f0.1 f0.2.1 hby t0 l0 hv
    generalize pFn x.tape x.length t = R at c1 c2
    by_cases g : R.2.1.2.2.2.2.1 = 0
    · obtain ⟨b1, b2, b3, b4⟩ := c1.1 g
      obtain ⟨z, b, d1, d2, d3, d4, d5, d6, d7, d8, d9, d10, d11⟩ := c2 g
      obtain ⟨hm, -, -, hmw⟩ := cl_oI o0 (show y0.clF wh = (true, (y0.clF wh).2) from Prod.ext b2 rfl)
      have q2 : y.q1 = (y0.clF wh).2.dt 3 := by rw [q1e, od3q_t b2]
      have K : ∃ m, (y0.clF wh).2 = m.nx.2 ∧ y0.ck m ∧ J (L ++ R.2.2) m := by
        rw [d11, d8]
        unfold MS.clZ
        have zw : z.works = y0.works := nk_f d4 MS.works rfl
        cases w : z.works with
        | true =>
          rw [if_pos rfl]
          have w0 : y0.works = true := zw.symm.trans w
          exact ⟨_, rfl, ck_tr (ck_nk d4) (ck_rk z wh _), hJ.2.2.2.2.2 L y0 z t b wh j0 w0 (o0.2.2.2.2.1 w0) (oI_pl o0 (by decide)) f0.1 f0.2.1 d4 d5 d6 d7 d3 d9 d10 e hw⟩
        | false =>
          rw [if_neg (by decide)]
          exact ⟨z, rfl, ck_nk d4, hJ.2.1 L _ y0 z j0 (zw.symm.trans w) d4⟩
      obtain ⟨m, m1, m2, m3⟩ := K
      rw [m1] at hm hmw b3 q2
      have T := tk_nx m
      have C := ck_tr m2 (ck_tk T)
      exact fac_in b1 g (fac_end hJ q.1 k0 q.2.1 q2 hm (hmw.trans f0.2.2.2) b3 ((stk_ck C).trans s0) ((ck_f C MS.works rfl).trans f0.2.2.1) (hJ.1 _ m m.nx.2 m3 (sg_tk T)))
    · obtain ⟨b1, b2, b3⟩ := c1.2 g
      refine fac_bad g ⟨(y0.clF wh).2, ?_, b2⟩
      have q2 : y.q1 = (false, (y0.clF wh).2) := by rw [q1e, od3q_f b1]
      rw [QR_f q.1 k0 (by rw [q2]), q2]
end FA
