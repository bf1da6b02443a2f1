/-! What a question changes in the reference, whether it stops or not. -/
/-- only what a question uses is other, and without a fault the fault's place is as it was -/
def MS.qz (x y : MS) : Prop := x.qk y ∧ (y.faultCode = 0 → x.faultCode = 0 ∧ y.faultPlace = x.faultPlace)
theorem qz_tr {x y z : MS} (h1 : x.qz y) (h2 : y.qz z) : x.qz z := ⟨qk_tr h1.1 h2.1, fun e => ⟨(h1.2 (h2.2 e).1).1, (h2.2 e).2.trans (h1.2 (h2.2 e).1).2⟩⟩
theorem qz_rf (x : MS) : x.qz x := ⟨rfl, fun e => ⟨e, rfl⟩⟩
theorem qz_c {x y : MS} (h : x.qk y) (h1 : y.faultCode = x.faultCode) (h2 : y.faultPlace = x.faultPlace) : x.qz y := ⟨h, fun e => ⟨h1.symm.trans e, h2⟩⟩
theorem i1_n0 : ¬ (1 : Int32) = 0 := by decide
theorem i2_n0 : ¬ (2 : Int32) = 0 := by decide
theorem i3_n0 : ¬ (3 : Int32) = 0 := by decide
theorem i4_n0 : ¬ (4 : Int32) = 0 := by decide
theorem i5_n0 : ¬ (5 : Int32) = 0 := by decide
theorem qz_fl (x : MS) {k : Int32} (q : Nat) (h : ¬ k = 0) : x.qz (x.flS k q) := ⟨qk_ck (ck_tk (tk_fl x k q)), fun e => absurd e h⟩
theorem qz_nxD (x : MS) (d : Nat) : x.qz (x.nxD d).2 := by
  refine ⟨qk_ck (ck_tk (tk_nxD x d)), ?_⟩
  unfold MS.nxD
  repeat' split
  all_goals first | exact fun e => ⟨e, rfl⟩ | exact fun e => absurd e i1_n0
theorem qz_nx (x : MS) : x.qz x.nx.2 := qz_nxD x x.sk
theorem qz_nd (x : MS) (k : Int32) : x.qz (x.ndF k).2 := by
  unfold MS.ndF
  split
  · exact qz_nx x
  · exact qz_fl x _ i2_n0
theorem qz_mc (x : MS) : x.qz x.mcF.2 := by
  unfold MS.mcF
  split
  · refine qz_tr (qz_nd x 2) ?_
    unfold MS.mc1
    split
    · split
      · exact qz_tr (qz_nx _) (qz_nd _ 3)
      · exact qz_nx _
    · exact qz_fl _ _ i2_n0
  · exact qz_nd x 2
theorem qz_ml : ∀ (w : Nat) (y : MS), y.qz (MS.mlF w y).2
  | 0, y => qz_rf y
  | w + 1, y => by
    unfold MS.mlF
    split
    · split
      · split
        · exact qz_tr (qz_mc y) (qz_tr (qz_nx _) (qz_ml w _))
        · exact qz_tr (qz_mc y) (qz_nx _)
      · exact qz_mc y
    · exact qz_mc y
theorem qz_ad (x : MS) (t : Nat) : x.qz (x.adS t) := qz_c (qk_ck (ck_nk (nk_ad x t))) rfl rfl
theorem qz_byL (t : Nat) : ∀ (w : Nat) (y : MS), y.qz (MS.byL t w y).2
  | 0, y => qz_rf y
  | w + 1, y => by
    unfold MS.byL
    split
    · split
      · exact qz_fl _ _ i4_n0
      · split
        · split
          · split
            · exact qz_tr (qz_ad y t) (qz_tr (qz_nx _) (qz_tr (qz_nx _) (qz_byL t w _)))
            · exact qz_tr (qz_ad y t) (qz_tr (qz_nx _) (qz_nx _))
          · exact qz_tr (qz_ad y t) (qz_tr (qz_nx _) (qz_nd _ 41))
        · exact qz_tr (qz_ad y t) (qz_nx _)
    · exact qz_fl _ _ i2_n0
theorem qz_by (x : MS) : x.qz x.byF.2 := by
  unfold MS.byF
  split
  · split
    · exact qz_tr (qz_nx x) (qz_tr (qz_nd _ 40) (qz_byL _ _ _))
    · exact qz_tr (qz_nx x) (qz_nd _ 40)
  · exact qz_nx x
theorem qz_rk (z : MS) (wh p : Nat) : z.qz (z.rkS wh p) := qz_c (qk_ck (ck_rk z wh p)) rfl rfl
theorem qz_cl5 (z : MS) (wh p : Nat) : z.qz (z.cl5 wh p).2 := by
  unfold MS.cl5
  split
  · split
    · exact qz_tr (qz_rk z wh p) (qz_nx _)
    · exact qz_nx z
  · exact qz_fl _ _ i2_n0
theorem qz_cl4 (y : MS) (wh p : Nat) : y.qz (y.cl4 wh p).2 := by
  unfold MS.cl4
  split
  · exact qz_tr (qz_nd y 125) (qz_cl5 _ wh p)
  · exact qz_nd y 125
theorem qz_cl3 {y : MS} {m : Bool × MS} (h : y.qz m.2) (wh p : Nat) : y.qz (MS.cl3 m wh p).2 := by
  unfold MS.cl3
  split
  · exact qz_tr h (qz_cl4 _ wh p)
  · exact h
theorem qz_cl2 (y : MS) (wh : Nat) : y.qz (y.cl2 wh).2 := by
  unfold MS.cl2
  split
  · split
    · split
      · exact qz_tr (qz_nd y 40) (qz_tr (qz_nd _ 123) (qz_cl4 _ wh _))
      · exact qz_tr (qz_nd y 40) (qz_tr (qz_nd _ 123) (qz_cl3 (qz_ml _ _) wh _))
    · exact qz_tr (qz_nd y 40) (qz_nd _ 123)
  · exact qz_nd y 40
theorem qz_cl0 (x : MS) : x.qz x.cl0 := qz_c rfl rfl rfl
theorem qz_cl (x : MS) (wh : Nat) : x.qz (x.clF wh).2 := by
  unfold MS.clF
  split
  · split
    · split
      · exact qz_tr (qz_cl0 x) (qz_tr (qz_nx _) (qz_tr (qz_by _) (qz_cl2 _ wh)))
      · exact qz_tr (qz_cl0 x) (qz_tr (qz_nx _) (qz_by _))
    · exact qz_tr (qz_cl0 x) (qz_tr (qz_nx _) (qz_cl2 _ wh))
  · exact qz_tr (qz_cl0 x) (qz_nx _)
theorem qz_op (x : MS) (sg : Int32) (q : Nat) : x.qz (x.opS sg q) := by
  refine ⟨qk_ck (ck_opS x sg q), ?_⟩
  unfold MS.opS
  split
  · have hc : (x.opM sg).faultCode = x.faultCode := by
      unfold MS.opM
      split
      · rfl
      · split <;> rfl
    have hp : (x.opM sg).faultPlace = x.faultPlace := by
      unfold MS.opM
      split
      · rfl
      · split <;> rfl
    exact fun e => ⟨hc.symm.trans e, hp⟩
  · exact fun e => absurd e i5_n0
theorem qz_pop (x : MS) : x.qz x.pop := qz_c (qk_dk (dk_pop x)) rfl rfl
theorem qz_dn (x : MS) : x.qz x.dnF.2 := by
  unfold MS.dnF
  split
  · split
    · exact qz_tr (qz_pop x) (qz_c (qk_ck (ck_ng _)) rfl rfl)
    · exact qz_tr (qz_pop x) (qz_op _ _ _)
  · exact qz_pop x
theorem qz_dtF (rk : Nat) : ∀ (w : Nat) (x : MS), x.qz (MS.dtF rk w x).2
  | 0, x => qz_rf x
  | w + 1, x => by
    unfold MS.dtF
    split
    · exact qz_rf x
    · split
      · exact qz_rf x
      · split
        · exact qz_tr (qz_dn x) (qz_dtF rk w _)
        · exact qz_dn x
theorem qz_dt (x : MS) (rk : Nat) : x.qz (x.dt rk).2 := qz_dtF rk x.signCount x
theorem qz_od3 {x : MS} {m : Bool × MS} (h : x.qz m.2) : x.qz (MS.od3 m).2 := by
  unfold MS.od3
  split
  · exact qz_tr h (qz_dt _ 3)
  · exact h
theorem qz_nm1 (y : MS) : y.qz y.nm1.2 := by
  unfold MS.nm1
  split
  · exact qz_tr (qz_c (qk_ck (ck_nb y)) rfl rfl) (qz_nx _)
  · exact qz_nx y
theorem qz_os (x : MS) (sg : Nat) : x.qz (x.osF sg).2 := by
  unfold MS.osF
  split
  · exact qz_fl _ _ i3_n0
  · exact qz_tr (y := x.psS sg) (qz_c rfl rfl rfl) (qz_nx (x.psS sg))
theorem qz_wa (x : MS) (b : Bool) : x.qz (MS.s_wants x b) := qz_c rfl rfl rfl
theorem qz_od (x : MS) : x.qz x.odF.2 := by
  unfold MS.odF
  split
  · exact qz_os x 109
  · split
    · exact qz_os x 40
    · split
      · split
        · exact qz_od3 (qz_tr (qz_wa x false) (qz_nm1 _))
        · exact qz_tr (qz_wa x false) (qz_fl _ _ i2_n0)
      · exact qz_od3 (qz_tr (qz_wa x false) (qz_cl _ _))
theorem qz_opr (x : MS) : x.qz x.opr.2 := by
  unfold MS.opr
  split
  · unfold MS.opr1
    split
    · exact qz_tr (qz_dt x _) (qz_tr (y := (x.dt (rkN x.kind)).2.psh) (qz_c rfl rfl rfl) (qz_nx _))
    · exact qz_dt x _
  · split
    · unfold MS.opr2
      split
      · exact qz_od3 (qz_tr (qz_dt x 1) (qz_tr (y := (x.dt 1).2.pop4) (qz_c rfl rfl rfl) (qz_nx _)))
      · exact qz_dt x 1
    · exact qz_fl _ _ i2_n0
theorem qz_q1 (x : MS) : x.qz x.q1.2 := by
  unfold MS.q1
  split
  · exact qz_od x
  · exact qz_opr x
theorem qz_qL : ∀ (w : Nat) (x : MS), x.qz (MS.qL w x).2
  | 0, x => qz_rf x
  | w + 1, x => by
    unfold MS.qL
    split
    · exact qz_rf x
    · split
      · exact qz_tr (qz_q1 x) (qz_qL w _)
      · exact qz_q1 x
theorem qz_qu (x : MS) (how : Bool) : (MS.s_works x how).qz (x.quF how).2 := by
  have h0 : (MS.s_works x how).qz (x.qu0 how) := qz_c rfl rfl rfl
  unfold MS.quF
  split
  · split
    · refine qz_tr h0 (qz_tr (qz_nx _) (qz_tr (qz_qL (x.length + 1) _) ?_))
      unfold MS.qu3
      split
      · exact qz_fl _ _ i2_n0
      · exact qz_dt _ 1
    · exact qz_tr h0 (qz_tr (qz_nx _) (qz_qL _ _))
  · exact qz_tr h0 (qz_nx _)
