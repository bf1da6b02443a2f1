theorem mc_tk (x : MS) : x.tk x.mcF.2 := by
  unfold MS.mcF
  split
  · refine tk_tr (tk_nd x 2) ?_
    unfold MS.mc1
    split
    · split
      · exact tk_tr (tk_nx _) (tk_nd _ _)
      · exact tk_nx _
    · exact tk_fl _ _ _
  · exact tk_nd x 2
theorem ml_tk : ∀ {w : Nat} {x : MS}, x.tk (MS.mlF w x).2
  | 0, x => tk_rf x
  | w + 1, x => by
    unfold MS.mlF
    split
    · split
      · split
        · exact tk_tr (mc_tk x) (tk_tr (tk_nx _) ml_tk)
        · exact tk_tr (mc_tk x) (tk_nx _)
      · exact mc_tk x
    · exact mc_tk x
theorem ml_in {w : Nat} : ∀ {x v : MS}, byteF x.tape → x.lx → x.isT → MS.mlF w x = (true, v) → v.lx ∧ v.isT ∧ x.too ≤ v.too := by
  induction w with
  | zero => intro x v _ _ _ h; cases h
  | succ w ih =>
    intro x v hb hl ht h
    cases c1 : x.mcF.1 with
    | false => rw [ml_0 (Nat.succ_pos w) c1] at h; cases h
    | true =>
      obtain ⟨y, ey⟩ : ∃ y, y = x.mcF.2 := ⟨_, rfl⟩
      obtain ⟨a1, a2, a3, a4, a5, -⟩ := mc_in hb hl ht (show x.mcF = (true, y) from Prod.ext c1 ey.symm)
      by_cases c2 : y.kind = 44
      · cases c3 : y.nx.1 with
        | false => rw [ml_n (Nat.succ_pos w) c1 ey c2 c3] at h; cases h
        | true =>
          obtain ⟨z, ez⟩ : ∃ z, z = y.nx.2 := ⟨_, rfl⟩
          rw [ml_m (Nat.succ_pos w) c1 ey c2 c3 ez] at h
          obtain ⟨n1, n2, -⟩ := nx_in a1 c3
          have t1 := (nx_isT c3).1
          rw [← ez] at n1 n2 t1
          have bz : byteF z.tape := by
            rw [show z.tape = x.tape by rw [ez, (nx_sT y).1, a3.1]]
            exact hb
          obtain ⟨r1, r2, r3⟩ := ih bz n1 t1 h
          have := n1.2.1
          exact ⟨r1, r2, by omega⟩
      · rw [ml_e (Nat.succ_pos w) c1 ey c2] at h
        have ev : v = y := (congrArg Prod.snd h).symm
        rw [ev]
        exact ⟨a1, a2, Nat.le_of_lt a5⟩
/-- a token behind this one -/
def MS.aft (x v : MS) : Prop := v.lx ∧ v.isT ∧ x.too ≤ v.frm ∧ (v.kind = 0 ∨ v.frm < v.too)
theorem nx_aft {x : MS} (h : x.lx) (hn : x.nx.1 = true) : x.aft x.nx.2 := by
  obtain ⟨a, b, c⟩ := nx_in h hn
  exact ⟨a, (nx_isT hn).1, b, c⟩
theorem nd_aft {x : MS} {k : Int32} (h : x.lx) (hn : (x.ndF k).1 = true) : x.aft (x.ndF k).2 := by
  have kk := (nd_in h hn).2.2.2
  have n1 : x.ndF k = x.nx := if_pos kk
  rw [n1] at hn ⊢
  exact nx_aft h hn
theorem aft_tr {x y z : MS} (h1 : x.aft y) (h2 : y.aft z) : x.aft z := ⟨h2.1, h2.2.1, by have := h1.1.2.1; have := h1.2.2.1; have := h2.2.2.1; omega, h2.2.2.2⟩
theorem aft_le {x y z : MS} (h1 : x.too ≤ y.too) (h2 : y.aft z) : x.aft z := ⟨h2.1, h2.2.1, by have := h2.2.2.1; omega, h2.2.2.2⟩
theorem nmG_tk {x y : MS} (h : x.tk y) (hx : x.nmG) : y.nmG := by
  have h1 : (x.tkS y).nmG := hx
  rw [← show y = x.tkS y from h] at h1
  exact h1
theorem byL_G {t : Nat} : ∀ {w : Nat} {y : MS}, y.nmG → y.length ≤ 65536 → y.frm ≤ y.too → y.too ≤ y.length → y.faultCode = 0 → (MS.byL t w y).2.nmG
  | 0, y, h, _, _, _, _ => h
  | w + 1, y, h, h1, h2, h3, h4 => by
    have ha : (y.adS t).nmG := by
      refine ⟨fun q => ?_, h.2⟩
      show va_up y.nameFroms (6 * t + y.tableNames t) y.frm q + va_up y.nameLengths (6 * t + y.tableNames t) (y.too - y.frm) q ≤ 65536
      unfold va_up
      split
      · omega
      · exact h.1 q
    have hz := nmG_tk (tk_nx (y.adS t)) ha
    unfold MS.byL
    split
    · split
      · exact nmG_tk (tk_fl y 4 y.frm) h
      · split
        · rename_i c2
          have lz := (nx_in (show (y.adS t).lx from ⟨h1, h2, h3, h4⟩) c2).1
          split
          · split
            · rename_i c4
              have lu := (nx_in lz c4).1
              exact byL_G (nmG_tk (tk_nx _) hz) lu.1 lu.2.1 lu.2.2.1 lu.2.2.2
            · exact nmG_tk (tk_nx _) hz
          · exact nmG_tk (tk_nd _ _) hz
        · exact hz
    · exact nmG_tk (tk_fl y 2 y.frm) h
theorem by_G {x : MS} (h : x.nmG) (hl : x.lx) : x.byF.2.nmG := by
  unfold MS.byF
  split
  · rename_i c1
    have l1 := (nx_in hl c1).1
    split
    · rename_i c2
      have l2 := (nd_in l1 c2).1
      exact byL_G (nmG_tk (tk_nd _ _) (nmG_tk (tk_nx x) h)) l2.1 l2.2.1 l2.2.2.1 l2.2.2.2
    · exact nmG_tk (tk_nd _ _) (nmG_tk (tk_nx x) h)
  · exact nmG_tk (tk_nx x) h
theorem byL_aft {t : Nat} : ∀ {w : Nat} {y v : MS}, y.lx → MS.byL t w y = (true, v) → y.aft v
  | 0, y, v, _, h => by cases h
  | w + 1, y, v, hl, h => by
    have hp : 0 < w + 1 := Nat.succ_pos w
    by_cases k2 : y.kind = 2
    · cases c1 : y.byT t with
      | true => rw [by_4 hp k2 c1] at h; cases h
      | false =>
        cases c2 : (y.adS t).nx.1 with
        | false => rw [by_n hp k2 c1 c2] at h; cases h
        | true =>
          obtain ⟨z, ez⟩ : ∃ z, z = (y.adS t).nx.2 := ⟨_, rfl⟩
          have az : y.aft z := by rw [ez]; exact nx_aft (x := y.adS t) hl c2
          by_cases c3 : z.kind = 44
          · cases c4 : z.nx.1 with
            | false => rw [by_mn hp k2 c1 c2 ez c3 c4] at h; cases h
            | true =>
              obtain ⟨u, eu⟩ : ∃ u, u = z.nx.2 := ⟨_, rfl⟩
              have au : z.aft u := by rw [eu]; exact nx_aft az.1 c4
              rw [by_m hp k2 c1 c2 ez c3 c4 eu] at h
              exact aft_tr az (aft_tr au (byL_aft au.1 h))
          · rw [by_e hp k2 c1 c2 ez c3] at h
            have g : (z.ndF 41).1 = true := by rw [h]
            have ev : v = (z.ndF 41).2 := by rw [h]
            rw [ev]
            exact aft_tr az (nd_aft az.1 g)
    · rw [by_k hp k2] at h; cases h
theorem by_aft {x v : MS} (hl : x.lx) (h : x.byF = (true, v)) : x.aft v := by
  cases c1 : x.nx.1 with
  | false => rw [byF_0 c1] at h; cases h
  | true =>
    obtain ⟨y, ey⟩ : ∃ y, y = x.nx.2 := ⟨_, rfl⟩
    have ay : x.aft y := by rw [ey]; exact nx_aft hl c1
    cases c2 : (y.ndF 40).1 with
    | false => rw [byF_1 c1 ey c2] at h; cases h
    | true =>
      obtain ⟨z, ez⟩ : ∃ z, z = (y.ndF 40).2 := ⟨_, rfl⟩
      have az : y.aft z := by rw [ez]; exact nd_aft ay.1 c2
      rw [byF_2 c1 ey c2 ez] at h
      exact aft_tr ay (aft_tr az (byL_aft az.1 h))
/-- behind a function that has been read -/
def MS.clR (x v : MS) (wk : Bool) : Prop := x.aft v ∧ x.ck v ∧ v.nmG ∧ (wk = true → v.qI ∧ v.pile = x.pile + 1) ∧ (wk = false → v.pile = x.pile)
theorem c5_in {z v : MS} {wh p : Nat} (hl : z.lx) (hn : z.nmG) (hq : z.works = true → z.qI ∧ z.tableNames z.pile ≤ 6) (h : z.cl5 wh p = (true, v)) : z.clR v z.works := by
  by_cases k : z.kind = 41
  · cases w : z.works with
    | true =>
      obtain ⟨u, eu⟩ : ∃ u, u = z.rkS wh p := ⟨_, rfl⟩
      rw [c5_y k w eu] at h
      have g : u.nx.1 = true := by rw [h]
      have ev : v = u.nx.2 := by rw [h]
      obtain ⟨r1, r2⟩ := rk_in (wh := wh) (p := p) (hq w).1 (hq w).2
      rw [← eu] at r1 r2
      have lu : u.lx := by rw [eu]; exact hl
      have au := nx_aft lu g
      rw [← ev] at au
      have tu : u.too = z.too := by rw [eu]; rfl
      refine ⟨aft_le (by rw [tu]; exact Nat.le_refl _) au, ck_tr (y := u) (by rw [eu]; exact ck_rk z wh p) (by rw [ev]; exact ck_tk (tk_nx u)), ?_, fun _ => ⟨by rw [ev]; exact qI_tk (tk_nx u) r1, ?_⟩, fun z9 => Bool.noConfusion z9⟩
      · rw [ev]
        exact nmG_tk (tk_nx u) ⟨by rw [eu]; exact hn.1, r1.2.2.2.2.2.2.1⟩
      · rw [ev, tk_f (tk_nx u) MS.pile rfl]
        exact r2
    | false =>
      rw [c5_n k w] at h
      have g : z.nx.1 = true := by rw [h]
      have ev : v = z.nx.2 := by rw [h]
      rw [ev]
      exact ⟨nx_aft hl g, ck_tk (tk_nx z), nmG_tk (tk_nx z) hn, fun z9 => Bool.noConfusion z9, fun _ => tk_f (tk_nx z) MS.pile rfl⟩
  · rw [c5_x k] at h; cases h
theorem clR_tk {x y v : MS} {wk : Bool} (h : x.tk y) (ha : x.too ≤ y.too) (hv : y.clR v wk) : x.clR v wk := ⟨aft_le ha hv.1, ck_tr (ck_tk h) hv.2.1, hv.2.2.1, fun w => by obtain ⟨a, b⟩ := hv.2.2.2.1 w; exact ⟨a, by rw [b, tk_f h MS.pile rfl]⟩, fun w => by rw [hv.2.2.2.2 w, tk_f h MS.pile rfl]⟩
theorem c4_in {y v : MS} {wh p : Nat} (hl : y.lx) (hn : y.nmG) (hq : y.works = true → y.qI ∧ y.tableNames y.pile ≤ 6) (h : y.cl4 wh p = (true, v)) : y.clR v y.works := by
  cases c : (y.ndF 125).1 with
  | false => rw [c4_0 c] at h; cases h
  | true =>
    obtain ⟨z, ez⟩ : ∃ z, z = (y.ndF 125).2 := ⟨_, rfl⟩
    have T : y.tk z := by rw [ez]; exact tk_nd _ _
    have az : y.aft z := by rw [ez]; exact nd_aft hl c
    have w1 : z.works = y.works := tk_f T MS.works rfl
    rw [c4_1 c ez] at h
    have r := c5_in az.1 (nmG_tk T hn) (fun w => by
      obtain ⟨a, b⟩ := hq (by rw [← w1]; exact w)
      exact ⟨qI_tk T a, by rw [tk_f T MS.pile rfl, tk_tn T]; exact b⟩) h
    rw [w1] at r
    exact clR_tk T (by have := az.1.2.1; have := az.2.2.1; omega) r
theorem c2_in {y v : MS} {wh : Nat} (hl : y.lx) (hb : byteF y.tape) (hn : y.nmG) (hq : y.works = true → y.qI ∧ y.tableNames y.pile ≤ 6) (h : y.cl2 wh = (true, v)) : y.clR v y.works := by
  cases c : (y.ndF 40).1 with
  | false => rw [c2_0 c] at h; cases h
  | true =>
    obtain ⟨z, ez⟩ : ∃ z, z = (y.ndF 40).2 := ⟨_, rfl⟩
    have Tz : y.tk z := by rw [ez]; exact tk_nd _ _
    have az : y.aft z := by rw [ez]; exact nd_aft hl c
    cases c2 : (z.ndF 123).1 with
    | false => rw [c2_1 c ez c2] at h; cases h
    | true =>
      obtain ⟨u, eu⟩ : ∃ u, u = (z.ndF 123).2 := ⟨_, rfl⟩
      have Tu : y.tk u := tk_tr Tz (by rw [eu]; exact tk_nd _ _)
      have au : y.aft u := aft_tr az (by rw [eu]; exact nd_aft az.1 c2)
      have key : ∀ m : MS, y.tk m → y.too ≤ m.too → m.lx → m.cl4 wh z.too = (true, v) → y.clR v y.works := by
        intro m Tm hm lm h4
        have w1 : m.works = y.works := tk_f Tm MS.works rfl
        have r := c4_in lm (nmG_tk Tm hn) (fun w => by
          obtain ⟨a, b⟩ := hq (by rw [← w1]; exact w)
          exact ⟨qI_tk Tm a, by rw [tk_f Tm MS.pile rfl, tk_tn Tm]; exact b⟩) h4
        rw [w1] at r
        exact clR_tk Tm hm r
      have hu : y.too ≤ u.too := by have := au.1.2.1; have := au.2.2.1; omega
      by_cases k : u.kind = 125
      · rw [c2_e c ez c2 eu k] at h
        exact key u Tu hu au.1 h
      · rw [c2_m c ez c2 eu k] at h
        cases c3 : (MS.mlF (u.length + 1) u).1 with
        | false =>
          rw [show MS.mlF (u.length + 1) u = (false, (MS.mlF (u.length + 1) u).2) from Prod.ext c3 rfl, c3_f] at h
          cases h
        | true =>
          have bu : byteF u.tape := by rw [tk_f Tu MS.tape rfl]; exact hb
          obtain ⟨m, em⟩ : ∃ m, m = (MS.mlF (u.length + 1) u).2 := ⟨_, rfl⟩
          have hm : MS.mlF (u.length + 1) u = (true, m) := Prod.ext c3 em.symm
          obtain ⟨m1, m2, m3⟩ := ml_in bu au.1 au.2.1 hm
          rw [hm, c3_t] at h
          exact key m (tk_tr Tu (by rw [em]; exact ml_tk)) (by omega) m1 h
theorem cl_in {x v : MS} {wh : Nat} (hl : x.lx) (hb : byteF x.tape) (hn : x.nmG) (hq : x.works = true → x.qI) (h : x.clF wh = (true, v)) : x.clR v x.works := by
  have l0 : x.cl0.lx := hl
  have k0 : x.ck x.cl0 := rfl
  have t0 : x.cl0.tableNames x.pile = 0 := va_us _ _ _
  have q0 : x.works = true → x.cl0.qI := fun w => by
    obtain ⟨b1, b2, b3, b4, b5, b6, b7, b8⟩ := hq w
    refine ⟨b1, b2, b3, b4, b5, b6, b7, fun t ht => ?_⟩
    have ht : t < x.pile := ht
    show x.tableRows t ≤ 256 ∧ va_up x.tableNames x.pile 0 t ≤ 6 ∧ ∀ q : Nat, q < x.tableRows t → va_up x.tableNames x.pile 0 t = 0 ∨ x.tOK (x.rowSeries (256 * t + q))
    rw [show va_up x.tableNames x.pile 0 t = x.tableNames t from if_neg (by omega)]
    exact b8 t ht
  cases c : x.cl0.nx.1 with
  | false => rw [cl_0 c] at h; cases h
  | true =>
    obtain ⟨y, ey⟩ : ∃ y, y = x.cl0.nx.2 := ⟨_, rfl⟩
    have Ty : x.cl0.tk y := by rw [ey]; exact tk_nx _
    have ay : x.aft y := by rw [ey]; exact nx_aft (x := x.cl0) l0 c
    have wy : y.works = x.works := tk_f Ty MS.works rfl
    have py : y.pile = x.pile := tk_f Ty MS.pile rfl
    have ny : y.nmG := nmG_tk Ty hn
    have by_ : byteF y.tape := by rw [tk_f Ty MS.tape rfl]; exact hb
    have ty : y.tableNames y.pile = 0 := by rw [py, tk_tn Ty]; exact t0
    have qy : x.works = true → y.qI := fun w => qI_tk Ty (q0 w)
    have fin : ∀ m : MS, y.ck m → m.works = y.works → m.pile = y.pile → y.too ≤ m.too → m.clR v m.works → x.clR v x.works := by
      intro m km wm pm hm r
      rw [wm, wy] at r
      refine ⟨aft_le ?_ r.1, ck_tr k0 (ck_tr (ck_tk Ty) (ck_tr km r.2.1)), r.2.2.1, fun w => ?_, fun w => by rw [r.2.2.2.2 w, pm, py]⟩
      · have := ay.1.2.1
        have := ay.2.2.1
        omega
      · obtain ⟨a, b⟩ := r.2.2.2.1 w
        exact ⟨a, by rw [b, pm, py]⟩
    cases c2 : y.nmB 98 121 32 32 2 with
    | false =>
      rw [cl_n c ey c2] at h
      exact fin y (ck_rf y) rfl rfl (Nat.le_refl _) (c2_in ay.1 by_ ny (fun w => ⟨qy (by rw [← wy]; exact w), by rw [ty]; decide⟩) h)
    | true =>
      cases c3 : y.byF.1 with
      | false => rw [cl_b c ey c2 c3] at h; cases h
      | true =>
        obtain ⟨z, ez⟩ : ∃ z, z = y.byF.2 := ⟨_, rfl⟩
        rw [cl_y c ey c2 c3 ez] at h
        have hz : y.byF = (true, z) := Prod.ext c3 ez.symm
        obtain ⟨r1, r2, r3, r4, r5, r6⟩ := by_in ay.1 ty hz
        have az := by_aft ay.1 hz
        have wz : z.works = y.works := nk_f r5 MS.works rfl
        have pz : z.pile = y.pile := nk_f r5 MS.pile rfl
        refine fin z (ck_nk r5) wz pz (by have := az.1.2.1; have := az.2.2.1; omega) (c2_in r1 (by rw [nk_f r5 MS.tape rfl]; exact by_) (by rw [ez]; exact by_G ny ay.1) (fun w => ?_) h)
        have hw : x.works = true := by rw [← wy, ← wz]; exact w
        obtain ⟨b1, b2, b3, b4, b5, b6, b7, b8⟩ := qy hw
        have e1 : z.tableRows = y.tableRows := nk_f r5 MS.tableRows rfl
        have e2 : z.rowSeries = y.rowSeries := nk_f r5 MS.rowSeries rfl
        have key : (y.nkS z).seriesCount ≤ 256 ∧ (∀ q : Nat, q < (y.nkS z).seriesCount → (y.nkS z).tOK q) ∧ (y.nkS z).points ≤ 12000 ∧ (∀ q : Nat, q < (y.nkS z).points → (y.nkS z).pointSeries q < 256) ∧ (y.nkS z).windows ≤ 64 ∧ 1 ≤ (y.nkS z).width ∧ (∀ q : Nat, (y.nkS z).keySeries q < 256) ∧ (∀ s : Nat, y.tOK s → (y.nkS z).tOK s) := ⟨b1, b2, b3, b4, b5, b6, b7, fun _ h => h⟩
        rw [← show z = y.nkS z from r5] at key
        obtain ⟨d1, d2, d3, d4, d5, d6, d7, d8⟩ := key
        refine ⟨⟨d1, d2, d3, d4, d5, d6, d7, fun t ht => ?_⟩, by rw [pz]; exact r4⟩
        have ht : t < y.pile := by rw [← pz]; exact ht
        obtain ⟨h1, h2, h3⟩ := b8 t ht
        unfold MS.tI
        rw [e1, e2, r6.1 t (by omega)]
        exact ⟨h1, h2, fun q hq => (h3 q hq).imp id (d8 _)⟩
/-- behind a sign that opens -/
def MS.psS' (x : MS) (sg : Nat) : MS := x.psS sg
/-- an operand's end: the signs that bind it are done -/
def MS.od3 (m : Bool × MS) : Bool × MS := if m.1 = true then m.2.dt 3 else (false, m.2)
def MS.nm1 (y : MS) : Bool × MS := if y.works = true then y.nbS.nx else y.nx
def MS.odF (x : MS) : Bool × MS := if x.kind = 45 then x.osF 109 else if x.kind = 40 then x.osF 40 else if (MS.s_wants x false).fnI < 0 then (if x.kind = 1 then MS.od3 (MS.s_wants x false).nm1 else (false, (MS.s_wants x false).flS 2 x.frm)) else MS.od3 ((MS.s_wants x false).clF (i2n (MS.s_wants x false).fnI))
/-- what reading a question keeps; e is 1 behind an operand -/
def MS.oI (x : MS) (e : Nat) : Prop := x.lx ∧ x.isT ∧ (x.kind = 0 ∨ x.frm < x.too) ∧ x.sI e ∧ (x.works = true → x.qI) ∧ x.nmG ∧ byteF x.tape ∧ (x.works = false → x.pile = 0)
theorem sI_of {x y : MS} {e e' : Nat} (h : x.sI e) (h1 : y.opn = x.opn) (h2 : y.signCount = x.signCount) (h3 : y.signs = x.signs) (h4 : y.works = true → y.pile + y.opn = y.signCount + e') : y.sI e' := by
  obtain ⟨a, b, c, d, -⟩ := h
  have h5 : y.isO = x.isO := by
    funext k
    show isOpS (y.signs k) = isOpS (x.signs k)
    rw [h3]
  refine ⟨by rw [h1]; exact a, by rw [h2, h5, h1]; exact b, ?_, ?_, h4⟩
  · rw [h2, h3]
    exact c
  · rw [h2, h3]
    exact d
/-- x with all that reading a question changes, of y -/
def MS.qkS (x y : MS) : MS := MS.s_wants (MS.s_opn (MS.s_signCount (MS.s_signPlaces (MS.s_signs (x.ckS y) y.signs) y.signPlaces) y.signCount) y.opn) y.wants
def MS.qk (x y : MS) : Prop := y = x.qkS y
theorem qk_tr {x y z : MS} (h1 : x.qk y) (h2 : y.qk z) : x.qk z := h2.trans ((congrArg (fun w => MS.qkS w z) h1).trans rfl)
theorem qk_f {x y : MS} {α : Type} (h : x.qk y) (f : MS → α) (hf : f (x.qkS y) = f x) : f y = f x := (congrArg f h).trans hf
theorem qk_ck {x y : MS} (h : x.ck y) : x.qk y := by
  have h1 : x.qk (x.ckS y) := rfl
  rw [← show y = x.ckS y from h] at h1
  exact h1
theorem qk_dk {x y : MS} (h : x.dk y) : x.qk y := by
  have h1 : x.qk (x.dkS y) := rfl
  rw [← show y = x.dkS y from h] at h1
  exact h1
/-- the token does not change when signs are done -/
def MS.sk' (x y : MS) : Prop := y.kind = x.kind ∧ y.frm = x.frm ∧ y.too = x.too
theorem sk_opS (x : MS) (sg : Int32) (q : Nat) : x.sk' (x.opS sg q) := by
  unfold MS.opS
  split
  · show x.sk' (x.opM sg)
    unfold MS.opM
    repeat' split
    all_goals exact ⟨rfl, rfl, rfl⟩
  · exact ⟨rfl, rfl, rfl⟩
theorem sk_dn (x : MS) : x.sk' x.dnF.2 := by
  unfold MS.dnF
  split
  · split
    · exact ⟨rfl, rfl, rfl⟩
    · exact sk_opS x.pop _ _
  · exact ⟨rfl, rfl, rfl⟩
theorem sk_dt {rk : Nat} : ∀ {w : Nat} {x : MS}, x.sk' (MS.dtF rk w x).2
  | 0, x => ⟨rfl, rfl, rfl⟩
  | w + 1, x => by
    unfold MS.dtF
    split
    · exact ⟨rfl, rfl, rfl⟩
    · split
      · exact ⟨rfl, rfl, rfl⟩
      · split
        · obtain ⟨a, b, c⟩ := sk_dn x
          obtain ⟨d, e, f⟩ := sk_dt (rk := rk) (w := w) (x := x.dnF.2)
          exact ⟨d.trans a, e.trans b, f.trans c⟩
        · exact sk_dn x
theorem isT_of {x y : MS} (h : x.isT) (h1 : x.sk' y) (h2 : x.sT y) : y.isT := by
  unfold MS.isT MS.atN MS.idE MS.tx MS.tw MS.atN at h ⊢
  rw [h1.1, h1.2.1, h1.2.2, h2.1, h2.2]
  exact h
/-- signs done: the question still stands well -/
theorem dt_oI {x v : MS} {rk : Nat} (hr : 1 ≤ rk) (h : x.oI 1) (hd : x.dt rk = (true, v)) : v.oI 1 ∧ x.dk v ∧ x.sk' v ∧ (v.signCount = 0 ∨ rkM v.top < rk) := by
  obtain ⟨h1, h2, h3, h4, h5, h6, h7, h8⟩ := h
  obtain ⟨a, b, c⟩ := dt_in hr (show x.dI from ⟨h4, h5, h6, h1.2.2.2⟩) rfl hd
  have s := sk_dt (rk := rk) (w := x.signCount) (x := x)
  have hd' : MS.dtF rk x.signCount x = (true, v) := hd
  rw [hd'] at s
  have s : x.sk' v := s
  have e1 : v.tape = x.tape := dk_f b MS.tape rfl
  have e2 : v.length = x.length := dk_f b MS.length rfl
  refine ⟨⟨?_, isT_of h2 s ⟨e1, e2⟩, by rw [s.1, s.2.1, s.2.2]; exact h3, a.1, a.2.1, a.2.2.1, by rw [e1]; exact h7, fun w => ?_⟩, b, s, c⟩
  · unfold MS.lx
    rw [e2, s.2.1, s.2.2]
    exact ⟨h1.1, h1.2.1, h1.2.2.1, a.2.2.2⟩
  · have w1 : x.works = false := (dk_f b MS.works rfl).symm.trans w
    have := pl_dt (rk := rk) (w := x.signCount) w1
    rw [hd'] at this
    exact this.trans (h8 w1)
theorem cnt_ext {f g : Nat → Bool} : ∀ {n : Nat}, (∀ k, k < n → f k = g k) → cnt n f = cnt n g
  | 0, _ => rfl
  | n + 1, h => by
    show cnt n f + (if f n then 1 else 0) = cnt n g + (if g n then 1 else 0)
    rw [cnt_ext (fun k hk => h k (by omega)), h n (Nat.lt_succ_self n)]
/-- a sign put on the others -/
theorem push_sI {x y : MS} {e e' sg : Nat} (h : x.sI e) (h2 : y.signCount = x.signCount + 1) (h3 : y.signs = va_up x.signs x.signCount sg) (h1 : (isOpS sg = true ∧ y.opn = x.opn + 1 ∧ x.opn < 8) ∨ (binS sg = true ∧ y.opn = x.opn ∧ (x.signCount = 0 ∨ binS x.top = false ∨ rkM x.top < rkM sg))) (h4 : y.works = true → y.pile + y.opn = y.signCount + e') : y.sI e' := by
  obtain ⟨a, b, c, d, -⟩ := h
  have lo : ∀ k, k < x.signCount → y.signs k = x.signs k := fun k hk => by
    rw [h3]
    exact if_neg (by omega)
  have hi : y.signs x.signCount = sg := by
    rw [h3]
    exact va_us _ _ _
  have cc : cnt y.signCount y.isO = x.opn + (if isOpS sg then 1 else 0) := by
    rw [h2]
    show cnt x.signCount y.isO + (if isOpS (y.signs x.signCount) then 1 else 0) = _
    rw [hi, ← b]
    congr 1
    exact cnt_ext (fun k hk => by show isOpS (y.signs k) = isOpS (x.signs k); rw [lo k hk])
  refine ⟨?_, ?_, fun k hk => ?_, fun k hk => ?_, h4⟩
  · rcases h1 with ⟨_, q, r⟩ | ⟨_, q, _⟩ <;> omega
  · rw [cc]
    rcases h1 with ⟨p, q, _⟩ | ⟨p, q, _⟩
    · rw [p, q]
      rfl
    · rw [(bin_c p).2.1, q]
      rfl
  · rw [h2] at hk
    by_cases g : k = x.signCount
    · rw [g, hi]
      rcases h1 with ⟨p, _⟩ | ⟨p, _⟩
      · exact Or.inl p
      · exact Or.inr p
    · rw [lo k (by omega)]
      exact c k (by omega)
  · rw [h2] at hk
    by_cases g : k + 1 = x.signCount
    · rw [lo k (by omega), g, hi]
      intro p1 p2
      rcases h1 with ⟨p, _⟩ | ⟨_, _, p⟩
      · exact absurd ((bin_c p2).2.1) (by rw [p]; decide)
      · have e1 : x.top = x.signs k := by
          unfold MS.top
          rw [show x.signCount - 1 = k by omega]
        rw [e1] at p
        rcases p with p | p | p
        · omega
        · rw [p] at p1
          cases p1
        · exact p
    · rw [lo k (by omega), lo (k + 1) (by omega)]
      exact d k (by omega)
theorem os_in {x v : MS} {sg : Nat} (h : x.oI 0) (hs : isOpS sg = true) (ho : x.osF sg = (true, v)) : v.oI 0 ∧ x.aft v ∧ x.qk v ∧ v.wants = x.wants := by
  obtain ⟨h1, h2, h3, h4, h5, h6, h7, h8⟩ := h
  by_cases c : x.opn = 8
  · rw [show x.osF sg = _ from if_pos c] at ho
    cases ho
  · have e : x.osF sg = (x.psS sg).nx := if_neg c
    rw [e] at ho
    have g : (x.psS sg).nx.1 = true := by rw [ho]
    have ev : v = (x.psS sg).nx.2 := by rw [ho]
    have T := tk_nx (x.psS sg)
    have A := nx_aft (x := x.psS sg) h1 g
    rw [← ev] at T A
    have p1 : v.pile = x.pile := tk_f T MS.pile rfl
    have p2 : v.opn = x.opn + 1 := tk_f T MS.opn rfl
    have p3 : v.signCount = x.signCount + 1 := tk_f T MS.signCount rfl
    have p4 : v.works = x.works := tk_f T MS.works rfl
    have o8 := h4.1
    refine ⟨⟨A.1, A.2.1, A.2.2.2, push_sI (sg := sg) h4 p3 (tk_f T MS.signs rfl) (Or.inl ⟨hs, p2, by omega⟩) (fun w => ?_), fun w => qI_tk T (h5 (by rw [← p4]; exact w)), nmG_tk T h6, by rw [tk_f T MS.tape rfl]; exact h7, fun w => by rw [p1]; exact h8 (by rw [← p4]; exact w)⟩, A, qk_tr (y := x.psS sg) rfl (qk_ck (ck_tk T)), tk_f T MS.wants rfl⟩
    have := h4.2.2.2.2 (by rw [← p4]; exact w)
    omega
theorem oI_dI {x : MS} (h : x.oI 1) : x.dI := ⟨h.2.2.2.1, h.2.2.2.2.1, h.2.2.2.2.2.1, h.1.2.2.2⟩
theorem od3_in {x m v : MS} (h : m.oI 1) (ha : x.aft m) (hq : x.qk m) (hd : m.dt 3 = (true, v)) : v.oI 1 ∧ x.aft v ∧ x.qk v ∧ v.wants = m.wants := by
  obtain ⟨a, b, c, -⟩ := dt_oI (by decide) h hd
  refine ⟨a, ⟨a.1, a.2.1, by rw [c.2.1]; exact ha.2.2.1, a.2.2.1⟩, qk_tr hq (qk_dk b), dk_f b MS.wants rfl⟩
theorem cl_oI {y m : MS} {wh : Nat} (h : y.oI 0) (hm : y.clF wh = (true, m)) : m.oI 1 ∧ y.aft m ∧ y.qk m ∧ m.wants = y.wants := by
  obtain ⟨h1, h2, h3, h4, h5, h6, h7, h8⟩ := h
  obtain ⟨r1, r2, r3, r4⟩ := cl_in h1 h7 h6 h5 hm
  have p2 : m.opn = y.opn := ck_f r2 MS.opn rfl
  have p3 : m.signCount = y.signCount := ck_f r2 MS.signCount rfl
  have p4 : m.works = y.works := ck_f r2 MS.works rfl
  refine ⟨⟨r1.1, r1.2.1, r1.2.2.2, sI_of h4 p2 p3 (ck_f r2 MS.signs rfl) (fun w => ?_), fun w => (r4.1 (by rw [← p4]; exact w)).1, r3, by rw [ck_f r2 MS.tape rfl]; exact h7, fun w => by rw [r4.2 (by rw [← p4]; exact w)]; exact h8 (by rw [← p4]; exact w)⟩, r1, qk_ck r2, ck_f r2 MS.wants rfl⟩
  have a := h4.2.2.2.2 (by rw [← p4]; exact w)
  have b := (r4.1 (by rw [← p4]; exact w)).2
  omega
theorem nm_oI {y m : MS} (h : y.oI 0) (hm : y.nm1 = (true, m)) : m.oI 1 ∧ y.aft m ∧ y.qk m ∧ m.wants = y.wants := by
  obtain ⟨h1, h2, h3, h4, h5, h6, h7, h8⟩ := h
  by_cases w : y.works = true
  · have e : y.nm1 = y.nbS.nx := if_pos w
    rw [e] at hm
    have g : y.nbS.nx.1 = true := by rw [hm]
    have ev : m = y.nbS.nx.2 := by rw [hm]
    have T := tk_nx y.nbS
    have A := nx_aft (x := y.nbS) h1 g
    rw [← ev] at T A
    obtain ⟨n1, n2⟩ := nb_in (h5 w)
    refine ⟨⟨A.1, A.2.1, A.2.2.2, sI_of h4 (tk_f T MS.opn rfl) (tk_f T MS.signCount rfl) (tk_f T MS.signs rfl) (fun _ => ?_), fun _ => qI_tk T n1, nmG_tk T h6, by rw [tk_f T MS.tape rfl]; exact h7, fun z => by rw [show m.works = y.works from tk_f T MS.works rfl, w] at z; cases z⟩, A, qk_tr (y := y.nbS) (qk_ck (ck_nb y)) (qk_ck (ck_tk T)), tk_f T MS.wants rfl⟩
    have a := h4.2.2.2.2 w
    have b : m.pile = y.pile + 1 := tk_f T MS.pile rfl
    have c : m.opn = y.opn := tk_f T MS.opn rfl
    have d : m.signCount = y.signCount := tk_f T MS.signCount rfl
    omega
  · have e : y.nm1 = y.nx := if_neg w
    rw [e] at hm
    have g : y.nx.1 = true := by rw [hm]
    have ev : m = y.nx.2 := by rw [hm]
    have T := tk_nx y
    have A := nx_aft h1 g
    rw [← ev] at T A
    have p4 : m.works = y.works := tk_f T MS.works rfl
    exact ⟨⟨A.1, A.2.1, A.2.2.2, sI_of h4 (tk_f T MS.opn rfl) (tk_f T MS.signCount rfl) (tk_f T MS.signs rfl) (fun z => absurd (p4.symm.trans z) w), fun z => absurd (p4.symm.trans z) w, nmG_tk T h6, by rw [tk_f T MS.tape rfl]; exact h7, fun z => by rw [tk_f T MS.pile rfl]; exact h8 (p4.symm.trans z)⟩, A, qk_ck (ck_tk T), tk_f T MS.wants rfl⟩
theorem od_in {x v : MS} (h : x.oI 0) (hw : x.wants = true) (ho : x.odF = (true, v)) : x.aft v ∧ x.qk v ∧ ¬ x.kind = 0 ∧ ((v.wants = true ∧ v.oI 0) ∨ (v.wants = false ∧ v.oI 1)) := by
  unfold MS.odF at ho
  by_cases c1 : x.kind = 45
  · rw [if_pos c1] at ho
    obtain ⟨a, b, c, d⟩ := os_in h (by decide) ho
    exact ⟨b, c, by rw [c1]; decide, Or.inl ⟨d.trans hw, a⟩⟩
  · rw [if_neg c1] at ho
    by_cases c2 : x.kind = 40
    · rw [if_pos c2] at ho
      obtain ⟨a, b, c, d⟩ := os_in h (by decide) ho
      exact ⟨b, c, by rw [c2]; decide, Or.inl ⟨d.trans hw, a⟩⟩
    · rw [if_neg c2] at ho
      have hy : (MS.s_wants x false).oI 0 := h
      have kx : x.qk (MS.s_wants x false) := rfl
      have fin : ∀ m : MS, m.oI 1 ∧ (MS.s_wants x false).aft m ∧ (MS.s_wants x false).qk m ∧ m.wants = (MS.s_wants x false).wants → m.dt 3 = (true, v) → x.aft v ∧ x.qk v ∧ v.wants = false ∧ v.oI 1 := by
        intro m ⟨a, b, c, d⟩ hd
        obtain ⟨e1, e2, e3, e4⟩ := od3_in (x := MS.s_wants x false) a b c hd
        exact ⟨e2, qk_tr kx e3, e4.trans d, e1⟩
      by_cases c3 : (MS.s_wants x false).fnI < 0
      · rw [if_pos c3] at ho
        by_cases c4 : x.kind = 1
        · rw [if_pos c4] at ho
          unfold MS.od3 at ho
          cases c5 : (MS.s_wants x false).nm1.1 with
          | false => rw [c5] at ho; cases ho
          | true =>
            rw [if_pos c5] at ho
            obtain ⟨r1, r2, r3, r4⟩ := fin _ (nm_oI hy (Prod.ext c5 rfl)) ho
            exact ⟨r1, r2, by rw [c4]; decide, Or.inr ⟨r3, r4⟩⟩
        · rw [if_neg c4] at ho
          cases ho
      · rw [if_neg c3] at ho
        unfold MS.od3 at ho
        cases c5 : ((MS.s_wants x false).clF (i2n (MS.s_wants x false).fnI)).1 with
        | false => rw [c5] at ho; cases ho
        | true =>
          rw [if_pos c5] at ho
          obtain ⟨r1, r2, r3, r4⟩ := fin _ (cl_oI hy (Prod.ext c5 rfl)) ho
          refine ⟨r1, r2, fun z => c3 ?_, Or.inr ⟨r3, r4⟩⟩
          have n0 : (MS.s_wants x false).fnN = 0 := if_neg (fun z2 => by
            have z2 : x.kind = 2 := z2
            rw [z] at z2
            exact absurd z2 (by decide))
          unfold MS.fnI
          rw [n0, if_neg (by decide), if_neg (by decide), if_neg (by decide), if_neg (by decide)]
          decide
theorem oI_pl {x : MS} {e : Nat} (h : x.oI e) (he : e ≤ 1) : x.pile < 20 := by
  cases w : x.works with
  | true =>
    have := sI_pl h.2.2.2.1 w he
    omega
  | false =>
    have := h.2.2.2.2.2.2.2 w
    omega
theorem qI_rkc {x : MS} (hp : x.pile < 20) (h : x.qI) : x.rkc := ⟨hp, h.1, h.2.1, h.2.2.1, h.2.2.2.1, h.2.2.2.2.1, h.2.2.2.2.2.1, h.2.2.2.2.2.2.1⟩
def MS.psh (x : MS) : MS := MS.s_wants (MS.s_signCount (MS.s_signPlaces (MS.s_signs x (va_up x.signs x.signCount (i2n x.kind))) (va_up x.signPlaces x.signCount x.frm)) (x.signCount + 1)) true
def MS.pop4 (x : MS) : MS := MS.s_opn (MS.s_signCount x (x.signCount - 1)) (x.opn - 1)
/-- a sign between operands, or a parenthesis closed -/
def MS.opr1 (x : MS) (rk : Nat) : Bool × MS := if (x.dt rk).1 = true then (x.dt rk).2.psh.nx else (false, (x.dt rk).2)
def MS.opr2 (x : MS) : Bool × MS := if (x.dt 1).1 = true then MS.od3 (x.dt 1).2.pop4.nx else (false, (x.dt 1).2)
def MS.opr (x : MS) : Bool × MS := if rkN x.kind = 1 ∨ rkN x.kind = 2 then x.opr1 (rkN x.kind) else if x.kind = 41 ∧ x.opnB = true then x.opr2 else (false, x.flS 2 x.frm)
theorem rkN_c {z : Int32} (h : rkN z = 1 ∨ rkN z = 2) : binS (i2n z) = true ∧ 0 ≤ z ∧ rkM (i2n z) = rkN z ∧ ¬ z = 0 := by
  have key : z = 43 ∨ z = 45 ∨ z = 42 ∨ z = 47 ∨ z = 37 := by
    unfold rkN at h
    by_cases h1 : z = 43 ∨ z = 45
    · rcases h1 with h1 | h1
      · exact Or.inl h1
      · exact Or.inr (Or.inl h1)
    · rw [if_neg h1] at h
      by_cases h2 : z = 42 ∨ z = 47 ∨ z = 37
      · exact Or.inr (Or.inr h2)
      · rw [if_neg h2] at h
        split at h <;> omega
  rcases key with h | h | h | h | h <;> subst h <;> decide
theorem top_0 {x : MS} (h : x.sI 1) (h0 : 0 < x.signCount) (hr : rkM x.top < 1) : x.top = 40 := by
  rcases h.2.2.1 (x.signCount - 1) (by omega) with a | a
  · rcases opn_c a with b | b
    · have b : x.top = 109 := b
      rw [b] at hr
      exact absurd hr (by decide)
    · exact b
  · have := (bin_c a).1
    have hr : rkM (x.signs (x.signCount - 1)) < 1 := hr
    omega
theorem anyB_t {f : Nat → Bool} : ∀ {n k : Nat}, k < n → f k = true → anyB n f = true
  | 0, k, h, _ => absurd h (Nat.not_lt_zero k)
  | n + 1, k, h, hf => by
    rw [anyB_s]
    by_cases e : k = n
    · subst e
      rw [hf, Bool.or_true]
    · rw [anyB_t (by omega) hf]
      rfl
theorem anyB_x {f : Nat → Bool} : ∀ {n : Nat}, anyB n f = true → ∃ k, k < n ∧ f k = true
  | 0, h => by cases h
  | n + 1, h => by
    rw [anyB_s, Bool.or_eq_true] at h
    rcases h with h | h
    · obtain ⟨k, a, b⟩ := anyB_x h
      exact ⟨k, Nat.lt_succ_of_lt a, b⟩
    · exact ⟨n, Nat.lt_succ_self n, h⟩
/-- a parenthesis stays when signs are done -/
theorem dt_opn {rk : Nat} (hr : 1 ≤ rk) : ∀ {w : Nat} {x v : MS}, x.dI → w = x.signCount → x.opnB = true → MS.dtF rk w x = (true, v) → v.opnB = true
  | 0, x, v, h, hw, ho, hd => by
    have ev : v = x := (congrArg Prod.snd hd).symm
    rw [ev]
    exact ho
  | w + 1, x, v, h, hw, ho, hd => by
    by_cases h0 : x.signCount = 0
    · omega
    · by_cases h1 : rkM x.top < rk
      · rw [dt_e (Or.inr h1)] at hd
        have ev : v = x := (congrArg Prod.snd hd).symm
        rw [ev]
        exact ho
      · cases h2 : x.dnF.1 with
        | false =>
          rw [dt_f (Nat.succ_pos w) h0 h1 h2] at hd
          cases hd
        | true =>
          obtain ⟨y, ey⟩ : ∃ y, y = x.dnF.2 := ⟨_, rfl⟩
          rw [dt_t (Nat.succ_pos w) h0 h1 h2 ey] at hd
          have h4 := rk_40 h1 hr
          obtain ⟨i1, i2⟩ := dn_in (v := y) h (by omega) h4 (Prod.ext h2 ey.symm)
          have D : x.dk y := by rw [ey]; exact dk_dn x
          refine dt_opn hr (w := w) i1 (by omega) ?_ hd
          obtain ⟨k, k1, k2⟩ := anyB_x ho
          have k2 : x.signs k = 40 := of_decide_eq_true k2
          have k3 : ¬ k = x.signCount - 1 := fun z => h4 (by rw [z] at k2; exact k2)
          refine anyB_t (k := k) (by omega) ?_
          show decide (y.signs k = 40) = true
          rw [dk_f D MS.signs rfl]
          exact decide_eq_true k2
theorem pop4_sI {x : MS} (h : x.sI 1) (h0 : 0 < x.signCount) (h4 : x.top = 40) : x.pop4.sI 1 ∧ 1 ≤ x.opn := by
  obtain ⟨h1, h2, h3, h5, h6⟩ := h
  have c1 := cnt_pred (f := x.isO) h0
  have e1 : x.isO (x.signCount - 1) = true := by
    show isOpS x.top = true
    rw [h4]
    rfl
  rw [e1, h2] at c1
  simp only [if_true] at c1
  refine ⟨⟨?_, ?_, fun k hk => h3 k ?_, fun k hk => h5 k ?_, fun w => ?_⟩, by omega⟩
  · show x.opn - 1 ≤ 8
    omega
  · show cnt (x.signCount - 1) x.isO = x.opn - 1
    omega
  · have hk : k < x.signCount - 1 := hk
    omega
  · have hk : k + 1 < x.signCount - 1 := hk
    omega
  · show x.pile + (x.opn - 1) = x.signCount - 1 + 1
    have := h6 w
    omega
theorem opr_in {x v : MS} (h : x.oI 1) (hw : x.wants = false) (ho : x.opr = (true, v)) : x.aft v ∧ x.qk v ∧ ¬ x.kind = 0 ∧ ((v.wants = true ∧ v.oI 0) ∨ (v.wants = false ∧ v.oI 1)) := by
  unfold MS.opr at ho
  by_cases c1 : rkN x.kind = 1 ∨ rkN x.kind = 2
  · rw [if_pos c1] at ho
    have hc := rkN_c c1
    unfold MS.opr1 at ho
    cases c2 : (x.dt (rkN x.kind)).1 with
    | false => rw [c2] at ho; cases ho
    | true =>
      rw [if_pos c2] at ho
      obtain ⟨y, ey⟩ : ∃ y, y = (x.dt (rkN x.kind)).2 := ⟨_, rfl⟩
      rw [← ey] at ho
      obtain ⟨d1, d2, d3, d4⟩ := dt_oI (v := y) (by omega) h (Prod.ext c2 ey.symm)
      have g : y.psh.nx.1 = true := by rw [ho]
      have ev : v = y.psh.nx.2 := by rw [ho]
      have T := tk_nx y.psh
      have A := nx_aft (x := y.psh) d1.1 g
      rw [← ev] at T A
      obtain ⟨e1, e2, e3, e4, e5, e6, e7, e8⟩ := d1
      have p2 : v.opn = y.opn := tk_f T MS.opn rfl
      have p3 : v.signCount = y.signCount + 1 := tk_f T MS.signCount rfl
      have p4 : v.works = y.works := tk_f T MS.works rfl
      have p1 : v.pile = y.pile := tk_f T MS.pile rfl
      refine ⟨⟨A.1, A.2.1, by rw [← d3.2.2]; exact A.2.2.1, A.2.2.2⟩, qk_tr (qk_dk d2) (qk_tr (y := y.psh) rfl (qk_ck (ck_tk T))), hc.2.2.2, Or.inl ⟨tk_f T MS.wants rfl, ⟨A.1, A.2.1, A.2.2.2, push_sI (sg := i2n y.kind) e4 p3 (tk_f T MS.signs rfl) (Or.inr ⟨by rw [d3.1]; exact hc.1, p2, ?_⟩) (fun w => ?_), fun w => qI_tk T (e5 (by rw [← p4]; exact w)), nmG_tk T e6, by rw [tk_f T MS.tape rfl]; exact e7, fun w => by rw [p1]; exact e8 (by rw [← p4]; exact w)⟩⟩⟩
      · rcases d4 with d4 | d4
        · exact Or.inl d4
        · refine Or.inr (Or.inr ?_)
          rw [d3.1, hc.2.2.1]
          exact d4
      · have := e4.2.2.2.2 (by rw [← p4]; exact w)
        omega
  · rw [if_neg c1] at ho
    by_cases c2 : x.kind = 41 ∧ x.opnB = true
    · rw [if_pos c2] at ho
      unfold MS.opr2 at ho
      cases c3 : (x.dt 1).1 with
      | false => rw [c3] at ho; cases ho
      | true =>
        rw [if_pos c3] at ho
        obtain ⟨y, ey⟩ : ∃ y, y = (x.dt 1).2 := ⟨_, rfl⟩
        rw [← ey] at ho
        have hd : x.dt 1 = (true, y) := Prod.ext c3 ey.symm
        obtain ⟨d1, d2, d3, d4⟩ := dt_oI (v := y) (by omega) h hd
        have oy := dt_opn (by decide) (oI_dI h) rfl c2.2 hd
        obtain ⟨k, k1, -⟩ := anyB_x oy
        have t4 := top_0 d1.2.2.2.1 (by omega) (d4.resolve_left (by omega))
        obtain ⟨s1, s2⟩ := pop4_sI d1.2.2.2.1 (by omega) t4
        unfold MS.od3 at ho
        cases c4 : y.pop4.nx.1 with
        | false => rw [c4] at ho; cases ho
        | true =>
          rw [if_pos c4] at ho
          obtain ⟨u, eu⟩ : ∃ u, u = y.pop4.nx.2 := ⟨_, rfl⟩
          rw [← eu] at ho
          have T := tk_nx y.pop4
          have A := nx_aft (x := y.pop4) d1.1 c4
          rw [← eu] at T A
          obtain ⟨e1, e2, e3, e4, e5, e6, e7, e8⟩ := d1
          have p4 : u.works = y.works := tk_f T MS.works rfl
          have p1 : u.pile = y.pile := tk_f T MS.pile rfl
          have p2 : u.opn = y.pop4.opn := tk_f T MS.opn rfl
          have p3 : u.signCount = y.pop4.signCount := tk_f T MS.signCount rfl
          have ou : u.oI 1 := ⟨A.1, A.2.1, A.2.2.2, sI_of s1 p2 p3 (tk_f T MS.signs rfl) (fun w => by rw [p1, p2, p3]; exact s1.2.2.2.2 (by show y.works = true; rw [← p4]; exact w)), fun w => qI_tk T (e5 (by rw [← p4]; exact w)), nmG_tk T e6, by rw [tk_f T MS.tape rfl]; exact e7, fun w => by rw [p1]; exact e8 (by rw [← p4]; exact w)⟩
          have ax : x.aft u := ⟨A.1, A.2.1, by rw [← d3.2.2]; exact A.2.2.1, A.2.2.2⟩
          have qu : x.qk u := qk_tr (qk_dk d2) (qk_tr (y := y.pop4) rfl (qk_ck (ck_tk T)))
          obtain ⟨r1, r2, r3, r4⟩ := od3_in ou ax qu ho
          refine ⟨r2, r3, by rw [c2.1]; decide, Or.inr ⟨?_, r1⟩⟩
          rw [r4, tk_f T MS.wants rfl]
          show y.wants = false
          rw [dk_f d2 MS.wants rfl]
          exact hw
    · rw [if_neg c2] at ho
      cases ho
/-- what the loop over tokens keeps -/
def MS.lI (x : MS) : Prop := (x.wants = true ∧ x.oI 0) ∨ (x.wants = false ∧ x.oI 1)
def MS.q1 (x : MS) : Bool × MS := if x.wants = true then x.odF else x.opr
theorem q1_in {x v : MS} (h : x.lI) (hq : x.q1 = (true, v)) : v.lI ∧ x.qk v ∧ x.frm < v.frm ∧ v.frm ≤ v.length := by
  unfold MS.q1 at hq
  have key : x.aft v ∧ x.qk v ∧ ¬ x.kind = 0 ∧ ((v.wants = true ∧ v.oI 0) ∨ (v.wants = false ∧ v.oI 1)) := by
    rcases h with ⟨a, b⟩ | ⟨a, b⟩
    · rw [if_pos a] at hq
      exact od_in b a hq
    · rw [if_neg (by rw [a]; decide)] at hq
      exact opr_in b a hq
  obtain ⟨k1, k2, k3, k4⟩ := key
  refine ⟨k4, k2, ?_, ?_⟩
  · have ht : x.kind = 0 ∨ x.frm < x.too := by
      rcases h with ⟨_, b⟩ | ⟨_, b⟩
      · exact b.2.2.1
      · exact b.2.2.1
    have := ht.resolve_left k3
    have := k1.2.2.1
    omega
  · have := k1.1.2.1
    have := k1.1.2.2.1
    omega
/-- the tokens of a question -/
def MS.qL : Nat → MS → Bool × MS
  | 0, x => (false, x)
  | w + 1, x => if x.kind = 0 ∧ x.wants = false then (true, x) else if x.q1.1 = true then MS.qL w x.q1.2 else (false, x.q1.2)
section QL
variable {w : Nat} {x y : MS}
theorem qL_e (hw : 0 < w) (h : x.kind = 0) (h2 : x.wants = false) : MS.qL w x = (true, x) := by
  obtain ⟨d, rfl⟩ : ∃ d, w = d + 1 := ⟨w - 1, by omega⟩
  exact if_pos ⟨h, h2⟩
theorem qL_s (hw : 0 < w) (h : ¬ x.kind = 0 ∨ x.wants = true) (e : y = x.q1.2) : MS.qL w x = (if x.q1.1 = true then MS.qL (w - 1) y else (false, y)) := by
  obtain ⟨d, rfl⟩ : ∃ d, w = d + 1 := ⟨w - 1, by omega⟩
  subst e
  exact if_neg (fun z => h.elim (fun h => h z.1) (fun h => by rw [z.2] at h; cases h))
end QL
theorem qL_in : ∀ {w : Nat} {x v : MS}, x.lI → MS.qL w x = (true, v) → v.oI 1 ∧ x.qk v ∧ v.kind = 0
  | 0, x, v, _, h => by cases h
  | w + 1, x, v, hx, h => by
    by_cases c : x.kind = 0 ∧ x.wants = false
    · rw [qL_e (Nat.succ_pos w) c.1 c.2] at h
      have ev : v = x := (congrArg Prod.snd h).symm
      rw [ev]
      rcases hx with ⟨a, _⟩ | ⟨_, b⟩
      · rw [c.2] at a; cases a
      · exact ⟨b, rfl, c.1⟩
    · have h' : ¬ x.kind = 0 ∨ x.wants = true := by
        by_cases k : x.kind = 0
        · refine Or.inr ?_
          cases w2 : x.wants with
          | true => rfl
          | false => exact absurd ⟨k, w2⟩ c
        · exact Or.inl k
      rw [qL_s (Nat.succ_pos w) h' rfl] at h
      cases g : x.q1.1 with
      | false => rw [g] at h; cases h
      | true =>
        rw [if_pos g] at h
        obtain ⟨a, b, -, -⟩ := q1_in hx (Prod.ext g rfl)
        obtain ⟨r1, r2, r3⟩ := qL_in a h
        exact ⟨r1, qk_tr b r2, r3⟩
def MS.qu0 (x : MS) (how : Bool) : MS := MS.s_wants (MS.s_opn (MS.s_signCount (MS.s_works (MS.s_pile (MS.s_too x 0) 0) how) 0) 0) true
def MS.qu3 (y : MS) : Bool × MS := if y.opnB = true then (false, y.flS 2 y.frm) else y.dt 1
/-- a question read (and worked) -/
def MS.quF (x : MS) (how : Bool) : Bool × MS := if (x.qu0 how).nx.1 = true then (if (MS.qL (x.length + 1) (x.qu0 how).nx.2).1 = true then (MS.qL (x.length + 1) (x.qu0 how).nx.2).2.qu3 else (false, (MS.qL (x.length + 1) (x.qu0 how).nx.2).2)) else (false, (x.qu0 how).nx.2)
theorem pop4_nx {y : MS} (h : y.oI 1) (hs : y.pop4.sI 1) (g : y.pop4.nx.1 = true) : y.pop4.nx.2.dI := by
  have T := tk_nx y.pop4
  have A := nx_aft (x := y.pop4) h.1 g
  generalize y.pop4.nx.2 = u at T A
  have p4 : u.works = y.works := tk_f T MS.works rfl
  have p1 : u.pile = y.pile := tk_f T MS.pile rfl
  have p2 : u.opn = y.pop4.opn := tk_f T MS.opn rfl
  have p3 : u.signCount = y.pop4.signCount := tk_f T MS.signCount rfl
  exact ⟨sI_of hs p2 p3 (tk_f T MS.signs rfl) (fun w => by rw [p1, p2, p3]; exact hs.2.2.2.2 (by show y.works = true; rw [← p4]; exact w)), fun w => qI_tk T (h.2.2.2.2.1 (by rw [← p4]; exact w)), nmG_tk T h.2.2.2.2.2.1, A.1.2.2.2⟩
def MS.quR (w : Nat) (y : MS) : Bool × MS := if (MS.qL w y).1 = true then (MS.qL w y).2.qu3 else (false, (MS.qL w y).2)
theorem quR_s {w : Nat} {y v : MS} (hw : 0 < w) (h : ¬ y.kind = 0 ∨ y.wants = true) (e : v = y.q1.2) : MS.quR w y = (if y.q1.1 = true then MS.quR (w - 1) v else (false, v)) := by
  unfold MS.quR
  rw [qL_s hw h e]
  cases g : y.q1.1 with
  | true => rw [if_pos rfl, if_pos rfl]
  | false => simp only [Bool.false_eq_true, if_false]
theorem quR_e {w : Nat} {y : MS} (hw : 0 < w) (h : y.kind = 0) (h2 : y.wants = false) : MS.quR w y = y.qu3 := by
  unfold MS.quR
  rw [qL_e hw h h2]
  rfl
theorem quF_0 {x y : MS} {how : Bool} (e : y = (x.qu0 how).nx.2) : x.quF how = (if (x.qu0 how).nx.1 = true then MS.quR (x.length + 1) y else (false, y)) := by
  subst e
  rfl
/-- what a question wants -/
def MS.qW (x : MS) (how : Bool) : Prop := x.length ≤ 65536 ∧ x.faultCode = 0 ∧ byteF x.tape ∧ x.nmG ∧ (how = true → x.seriesCount ≤ 256 ∧ (∀ q : Nat, q < x.seriesCount → x.tOK q) ∧ x.points ≤ 12000 ∧ (∀ q : Nat, q < x.points → x.pointSeries q < 256) ∧ x.windows ≤ 64 ∧ 1 ≤ x.width ∧ ∀ q : Nat, x.keySeries q < 256)
theorem qu0_lI {x : MS} {how : Bool} (h : x.qW how) (g : (x.qu0 how).nx.1 = true) : (x.qu0 how).nx.2.lI ∧ (MS.s_works x how).qk (x.qu0 how).nx.2 := by
  obtain ⟨h1, h2, h3, h4, h5⟩ := h
  have T := tk_nx (x.qu0 how)
  obtain ⟨a1, a2, a3⟩ := nx_in0 (x := x.qu0 how) h1 (Nat.zero_le _) h2 g
  have a4 := (nx_isT g).1
  generalize (x.qu0 how).nx.2 = u at T a1 a2 a3 a4
  have p4 : u.works = how := tk_f T MS.works rfl
  have p1 : u.pile = 0 := tk_f T MS.pile rfl
  have p2 : u.opn = 0 := tk_f T MS.opn rfl
  have p3 : u.signCount = 0 := tk_f T MS.signCount rfl
  refine ⟨Or.inl ⟨tk_f T MS.wants rfl, a1, a4, a3, ⟨by omega, by rw [p3, p2]; rfl, fun k hk => by omega, fun k hk => by omega, fun _ => by omega⟩, fun w => qI_tk T ?_, nmG_tk T h4, by rw [tk_f T MS.tape rfl]; exact h3, fun _ => p1⟩, qk_tr (y := x.qu0 how) rfl (qk_ck (ck_tk T))⟩
  obtain ⟨b1, b2, b3, b4, b5, b6, b7⟩ := h5 (p4.symm.trans w)
  exact ⟨b1, b2, b3, b4, b5, b6, b7, fun t ht => absurd ht (Nat.not_lt_zero t)⟩
/-- behind a question that is clean -/
theorem qu_in {x v : MS} {how : Bool} (h : x.qW how) (hq : x.quF how = (true, v)) : v.dI ∧ (MS.s_works x how).qk v ∧ v.signCount = 0 := by
  obtain ⟨u, eu⟩ : ∃ u, u = (x.qu0 how).nx.2 := ⟨_, rfl⟩
  rw [quF_0 eu] at hq
  cases g : (x.qu0 how).nx.1 with
  | false => rw [g] at hq; cases hq
  | true =>
    rw [if_pos g] at hq
    obtain ⟨l1, l2⟩ := qu0_lI h g
    rw [← eu] at l1 l2
    unfold MS.quR at hq
    cases g2 : (MS.qL (x.length + 1) u).1 with
    | false => rw [g2] at hq; cases hq
    | true =>
      rw [if_pos g2] at hq
      obtain ⟨m, em⟩ : ∃ m, m = (MS.qL (x.length + 1) u).2 := ⟨_, rfl⟩
      rw [← em] at hq
      obtain ⟨r1, r2, r3⟩ := qL_in l1 (show MS.qL (x.length + 1) u = (true, m) from Prod.ext g2 em.symm)
      unfold MS.qu3 at hq
      cases g3 : m.opnB with
      | true => rw [if_pos g3] at hq; cases hq
      | false =>
        rw [if_neg (by rw [g3]; decide)] at hq
        obtain ⟨d1, d2, d3, d4⟩ := dt_oI (by decide) r1 hq
        refine ⟨oI_dI d1, qk_tr l2 (qk_tr r2 (qk_dk d2)), ?_⟩
        rcases d4 with d4 | d4
        · exact d4
        · by_cases z : v.signCount = 0
          · exact z
          · have t4 := top_0 d1.2.2.2.1 (by omega) d4
            have hd' : MS.dtF 1 m.signCount m = (true, v) := hq
            have le := dt_le (rk := 1) (w := m.signCount) (x := m)
            rw [hd'] at le
            have le : v.signCount ≤ m.signCount := le
            have : m.opnB = true := anyB_t (k := v.signCount - 1) (by omega) (by
              show decide (m.signs (v.signCount - 1) = 40) = true
              rw [← dk_f d2 MS.signs rfl]
              exact decide_eq_true t4)
            rw [this] at g3
            cases g3
theorem lI_0 {x : MS} (h : x.lI) (w : x.wants = true) : x.oI 0 := by
  rcases h with ⟨_, b⟩ | ⟨a, _⟩
  · exact b
  · rw [w] at a; cases a
theorem lI_1 {x : MS} (h : x.lI) (w : x.wants = false) : x.oI 1 := by
  rcases h with ⟨a, _⟩ | ⟨_, b⟩
  · rw [w] at a; cases a
  · exact b
theorem lI_frm {x : MS} (h : x.lI) : x.frm ≤ x.length := by
  have l : x.lx := by
    rcases h with ⟨_, b⟩ | ⟨_, b⟩
    · exact b.1
    · exact b.1
  exact Nat.le_trans l.2.1 l.2.2.1
