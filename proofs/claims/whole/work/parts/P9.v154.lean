/-! Matches: read once, looked at again. -/
theorem whG_all {P : Int32 → Bool} {f : Nat → Int32} {n : Nat} : ∀ {w q i : Nat}, q ≤ i → i < whG P f n w q → P (f i) = true
  | 0, q, i, h1, h2 => by
    have h2 : i < q := h2
    omega
  | w + 1, q, i, h1, h2 => by
    have h2 : i < (if q < n ∧ P (f q) = true then whG P f n w (q + 1) else q) := h2
    by_cases c : q < n ∧ P (f q) = true
    · rw [if_pos c] at h2
      by_cases e : i = q
      · rw [e]; exact c.2
      · exact whG_all (w := w) (by omega) h2
    · rw [if_neg c] at h2
      omega
/-- between a token and the next one there are spaces -/
theorem nx_sp {y : MS} (hb : byteF y.tape) (hl : y.lx) (hn : y.nx.1 = true) : ∀ i, y.too ≤ i → i < y.nx.2.frm → y.atN i = 32 := by
  intro i h1 h2
  obtain ⟨-, e⟩ := nx_isT hn
  rw [e] at h2
  have e2 : y.sk = whE isSp y.tape y.length y.too := sk_wh _ _ rfl hl.2.2.1
  rw [e2] at h2
  have h3 := (whE_in (P := isSp) (f := y.tape) hl.2.2.1).2
  have h4 : isSp (y.tape i) = true := whG_all h1 h2
  have h5 : y.tape i = 32 := of_decide_eq_true h4
  show atI y.tape y.length i = 32
  rw [at_lt (by omega), h5]
  decide
theorem mc_at {x y z : MS} (hb : byteF x.tape) (hl : x.lx) (ht : x.isT) (k1 : x.kind = 2) (a1 : x.nx.1 = true) (ey : y = x.nx.2) (k2 : y.kind = 61 ∨ 256 ≤ y.kind) (a2 : y.nx.1 = true) (ez : z = y.nx.2) (k3 : z.kind = 3) : m1E x.tape x.length x.frm = x.too ∧ m2E x.tape x.length x.frm = y.frm ∧ m4E x.tape x.length x.frm = z.frm ∧ m5E x.tape x.length x.frm + 1 = z.too ∧ isSep (x.atN x.frm) = false ∧ ¬ x.atN x.frm = 125 ∧ (sgM x.tape x.length y.frm = 0 ∧ y.kind = 61 ∨ sgM x.tape x.length y.frm = 1 ∧ y.kind = 256 ∨ sgM x.tape x.length y.frm = 2 ∧ y.kind = 257 ∨ sgM x.tape x.length y.frm = 3 ∧ y.kind = 258) ∧ z.frm + 2 ≤ z.too := by
  obtain ⟨ly, fy, -⟩ := nx_in hl a1
  obtain ⟨ty, sy⟩ := nx_isT a1
  have py := nx_sT x
  rw [← ey] at ly fy ty sy py
  obtain ⟨lz, fz, -⟩ := nx_in ly a2
  obtain ⟨tz, sz⟩ := nx_isT a2
  have pz := nx_sT y
  rw [← ez] at lz fz tz sz pz
  have by_ : byteF y.tape := by rw [py.1]; exact hb
  obtain ⟨i1, i2⟩ := ht.1 k1
  have e1 : m1E x.tape x.length x.frm = x.too := i2.symm
  have e2 : m2E x.tape x.length x.frm = y.frm := by
    unfold m2E
    rw [e1, sy, sk_A hb]
  have e3 : (sgM x.tape x.length y.frm = 0 ∧ y.kind = 61 ∧ y.too = y.frm + 1) ∨ ((sgM x.tape x.length y.frm = 1 ∧ y.kind = 256 ∨ sgM x.tape x.length y.frm = 2 ∧ y.kind = 257 ∨ sgM x.tape x.length y.frm = 3 ∧ y.kind = 258) ∧ y.too = y.frm + 2) := by
    rcases k2 with c | c
    · obtain ⟨c1, c2⟩ := ty.2.2.1 (by rw [c]; decide) (by rw [c]; decide)
      have c3 : atI x.tape x.length y.frm = 61 := by
        rw [← py.1, ← py.2]
        exact c1.trans c
      exact Or.inl ⟨if_pos c3, c, c2⟩
    · obtain ⟨c0, c1, c2⟩ := ty.2.2.2 c
      refine Or.inr ⟨?_, c2⟩
      have w : y.tw y.frm = sgTwo (atI x.tape x.length y.frm) (atI x.tape x.length (y.frm + 1)) := by
        unfold MS.tw MS.atN
        rw [py.1, py.2]
      rw [w] at c0 c1
      unfold sgM
      rcases sgTwo_c c1 with ⟨d1, d2, d3⟩ | ⟨d1, d2, d3⟩ | ⟨d1, d2, d3⟩
      · rw [d3] at c0
        rw [d1, d2]
        exact Or.inl ⟨by decide, c0⟩
      · rw [d3] at c0
        rw [d1, d2]
        exact Or.inr (Or.inl ⟨by decide, c0⟩)
      · rw [d3] at c0
        rw [d1, d2]
        exact Or.inr (Or.inr ⟨by decide, c0⟩)
  have e3' : m3E x.tape x.length x.frm = y.too := by
    unfold m3E
    rw [e2]
    rcases e3 with ⟨c1, -, c2⟩ | ⟨c1, c2⟩
    · rw [if_pos c1, c2]
    · rw [if_neg (by rcases c1 with c | c | c <;> rw [c.1] <;> decide), c2]
  have e4 : m4E x.tape x.length x.frm = z.frm := by
    unfold m4E
    rw [e3', sz, sk_A by_, py.1, py.2]
  obtain ⟨j1, j2, j3⟩ := tz.2.1 k3
  have tt : z.tx z.frm = txG x.tape x.length (x.length + 1 - (z.frm + 1)) (z.frm + 1) := by
    unfold MS.tx
    rw [pz.1, pz.2, py.1, py.2]
  have j2' : atI x.tape x.length (z.tx z.frm) = 34 := by
    have j4 : atI z.tape z.length (z.tx z.frm) = 34 := j2
    rw [pz.1, pz.2, py.1, py.2] at j4
    exact j4
  have lt1 := lz.2.2.1
  have lt2 : z.length = x.length := by rw [pz.2, py.2]
  have hz34 : z.frm < x.length := by
    have : atI z.tape z.length z.frm = 34 := j1
    rw [pz.1, pz.2, py.1, py.2] at this
    exact atI_in this (by decide)
  have e5 : m5E x.tape x.length x.frm = z.tx z.frm := by
    unfold m5E
    rw [e4, tt]
    rw [tt] at j2'
    exact fq_tx j2' (by omega) (by omega)
  have tg : z.frm + 1 ≤ z.tx z.frm := by
    rw [tt, tx_wh hb _ _ rfl (by omega)]
    exact (whE_in (by omega)).1
  refine ⟨e1, e2, e4, by rw [e5, j3], lt_ns i1, fun e => ?_, ?_, by omega⟩
  · rw [e] at i1
    revert i1
    decide
  · rcases e3 with ⟨c1, c2, -⟩ | ⟨c1, -⟩
    · exact Or.inl ⟨c1, c2⟩
    · exact Or.inr c1
/-- begins with, and is the same as, a text on the tape -/
theorem mtB_b {x : MS} {W : List Int32} {z : Nat × Nat × Bool} (h : voR x.texts W z) (q n : Nat) : x.mtB z q n = begW W (seg x.tape q (q + n)) ∧ (x.mtB z q n && decide (z.2.1 = n)) = sameW W (seg x.tape q (q + n)) := by
  have l : (seg x.tape q (q + n)).length = n := by rw [seg_len, Nat.add_sub_cancel_left]
  have e1 : x.mtB z q n = begW W (seg x.tape q (q + n)) := by
    unfold MS.mtB begW
    rw [l, h.1]
    by_cases c : n ≤ W.length
    · rw [decide_eq_true c]
      congr 1
      refine allB_ext (fun i hi => ?_)
      unfold txEq smB
      rw [h.2 i (by omega), seg_get x.tape (by omega)]
    · rw [decide_eq_false c]
      rfl
  refine ⟨e1, ?_⟩
  rw [e1]
  unfold begW sameW
  rw [l, h.1]
  by_cases c : W.length = n
  · rw [c, decide_eq_true (Nat.le_refl n), decide_eq_true rfl, Bool.and_true]
  · rw [decide_eq_false c, Bool.and_false]
    rfl
theorem mt1_q {x y z : MS} {s : Nat} {SS : Nat → List LB} {k' : Int32} {k nt : Nat} (hx : txR x.texts x.textLengths x.seriesCount SS) (hs : s < x.seriesCount) (hg : serG (SS s)) (h1 : m1E x.tape x.length k = nt) (hkn : k ≤ nt) (h2 : m2E x.tape x.length k = y.frm) (h4 : m4E x.tape x.length k = z.frm) (h5 : m5E x.tape x.length k + 1 = z.too) (h6 : sgM x.tape x.length y.frm = 0 ∧ y.kind = 61 ∨ sgM x.tape x.length y.frm = 1 ∧ y.kind = 256 ∨ sgM x.tape x.length y.frm = 2 ∧ y.kind = 257 ∨ sgM x.tape x.length y.frm = 3 ∧ y.kind = 258) (h7 : z.frm + 2 ≤ z.too) (hk : kR y.kind k') : x.mt1 s k = hoB k' (valS (SS s) (seg x.tape k nt)) (seg x.tape (z.frm + 1) (z.too - 1)) := by
  have v := vo_val hx hs hg.2.1 hg.1.1 k (nt - k)
  rw [Nat.add_sub_cancel' hkn] at v
  have eq : x.mtQ k = z.frm + 1 := by unfold MS.mtQ; rw [h4]
  have en : z.frm + 1 + x.mtN k = z.too - 1 := by unfold MS.mtN; rw [h4]; omega
  have ev : x.mtV s k = x.vo s k (nt - k) := by unfold MS.mtV; rw [h1]
  obtain ⟨b1, b2⟩ := mtB_b v (z.frm + 1) (x.mtN k)
  rw [en] at b1 b2
  unfold MS.mt1
  rw [h2, ev, eq, b1]
  rw [b1] at b2
  rw [b2]
  have kf := (kR_f hk).1
  rcases h6 with ⟨e1, e2⟩ | ⟨e1, e2⟩ | ⟨e1, e2⟩ | ⟨e1, e2⟩
  · rw [e2] at kf
    rw [e1, kf]
    rfl
  · rw [e2] at kf
    rw [e1, kf]
    rfl
  · rw [e2] at kf
    rw [e1, kf]
    rfl
  · rw [e2] at kf
    rw [e1, kf]
    rfl
