theorem and255 {v : Int32} (h1 : -128 ≤ v.toInt) (h2 : v.toInt ≤ 127) (k : Nat) (hk : k < 128) : v &&& 255 = nI k ↔ v = nI k := by
  have e0 : (v &&& 255).toBitVec.toNat = v.toBitVec.toNat % 256 := by
    show (v.toBitVec &&& 255#32).toNat = _
    rw [BitVec.toNat_and]
    exact Nat.and_two_pow_sub_one_eq_mod v.toBitVec.toNat 8
  have e1 : v.toInt = v.toBitVec.toInt := rfl
  have e2 := BitVec.toInt_eq_toNat_cond v.toBitVec
  have e3 : (nI k).toBitVec.toNat = k := by
    show (BitVec.ofNat 32 k).toNat = k
    rw [BitVec.toNat_ofNat]
    omega
  have e4 := v.toBitVec.isLt
  constructor
  · intro h
    have h3 := congrArg (fun z => z.toBitVec.toNat) h
    simp only [e0, e3] at h3
    apply Int32.toBitVec_inj.mp
    apply BitVec.eq_of_toNat_eq
    rw [e3]
    split at e2 <;> omega
  · intro h
    have h3 : v.toBitVec.toNat = k := by rw [h]; exact e3
    apply Int32.toBitVec_inj.mp
    apply BitVec.eq_of_toNat_eq
    rw [e0, e3, h3]
    omega
theorem byteF_r {f : Nat → Int32} (h : byteF f) (q : Nat) : -128 ≤ (f q).toInt ∧ (f q).toInt ≤ 127 := by
  rw [← h q]
  have h1 := Int8.le_toInt (f q).toInt8
  have h2 := Int8.toInt_lt (f q).toInt8
  rw [Int8.toInt_toInt32]
  omega
theorem at_32 {f : Nat → Int32} (h : byteF f) {len q : Nat} (hq : ¬ len ≤ q) : atI f len q = 32 ↔ f q = 32 := by
  have h1 := byteF_r h q
  have := and255 h1.1 h1.2 32 (by decide)
  rw [show atI f len q = f q &&& 255 from if_neg hq]
  exact this
theorem sk_eq {f : Nat → Int32} (h : byteF f) {len : Nat} : ∀ {w q : Nat}, skG f len w q = skA f len w q
  | 0, q => rfl
  | w + 1, q => by
    show (if len ≤ q then q else if f q = 32 then skG f len w (q + 1) else q) = (if atI f len q = 32 then skA f len w (q + 1) else q)
    by_cases g : len ≤ q
    · rw [if_pos g, if_neg (by rw [show atI f len q = 0 from if_pos g]; decide)]
    · rw [if_neg g]
      by_cases g2 : f q = 32
      · rw [if_pos g2, if_pos ((at_32 h g).mpr g2)]
        exact sk_eq h
      · rw [if_neg g2, if_neg (fun z => g2 ((at_32 h g).mp z))]
/-- what a token's kind tells of the tape -/
def MS.isT (y : MS) : Prop := (y.kind = 2 → isLt (y.atN y.frm) = true ∧ y.too = y.idE y.frm) ∧ (y.kind = 3 → y.atN y.frm = 34 ∧ y.atN (y.tx y.frm) = 34 ∧ y.too = y.tx y.frm + 1) ∧ (32 ≤ y.kind → y.kind < 256 → y.atN y.frm = y.kind ∧ y.too = y.frm + 1) ∧ (256 ≤ y.kind → y.kind = nI (y.tw y.frm) ∧ ¬ y.tw y.frm = 0 ∧ y.too = y.frm + 2)
theorem sgOne_lt {z : Int32} (h : sgOne z = true) : 32 ≤ z ∧ z < 256 := by
  unfold sgOne at h
  simp only [Bool.or_eq_true, decide_eq_true_eq] at h
  rcases h with h | h | h | h | h | h | h | h | h | h | h <;> subst h <;> decide
theorem sgTwo_c {a b : Int32} (h : ¬ sgTwo a b = 0) : (a = 33 ∧ b = 61 ∧ sgTwo a b = 256) ∨ (a = 94 ∧ b = 61 ∧ sgTwo a b = 257) ∨ (a = 33 ∧ b = 94 ∧ sgTwo a b = 258) := by
  unfold sgTwo at h ⊢
  by_cases h1 : a = 33 ∧ b = 61
  · rw [if_pos h1]
    exact Or.inl ⟨h1.1, h1.2, rfl⟩
  · rw [if_neg h1] at h ⊢
    by_cases h2 : a = 94 ∧ b = 61
    · rw [if_pos h2]
      exact Or.inr (Or.inl ⟨h2.1, h2.2, rfl⟩)
    · rw [if_neg h2] at h ⊢
      by_cases h3 : a = 33 ∧ b = 94
      · rw [if_pos h3]
        exact Or.inr (Or.inr ⟨h3.1, h3.2, rfl⟩)
      · rw [if_neg h3] at h
        exact absurd rfl h
theorem nx_isT {x : MS} (hn : x.nx.1 = true) : x.nx.2.isT ∧ x.nx.2.frm = x.sk := by
  unfold MS.nx at hn ⊢
  by_cases g0 : x.length ≤ x.sk
  · rw [nx_e g0]
    exact ⟨⟨fun z => absurd (show (0 : Int32) = 2 from z) (by decide), fun z => absurd (show (0 : Int32) = 3 from z) (by decide), fun z _ => absurd (show (32 : Int32) ≤ 0 from z) (by decide), fun z => absurd (show (256 : Int32) ≤ 0 from z) (by decide)⟩, rfl⟩
  cases c1 : isDg (x.atN x.sk) with
  | true =>
    obtain ⟨b, v, k, hv⟩ : ∃ b v k, x.nu x.sk = (b, v, k) := ⟨_, _, _, rfl⟩
    cases v with
    | true =>
      rw [nx_n g0 c1 hv]
      exact ⟨⟨fun z => absurd (show (1 : Int32) = 2 from z) (by decide), fun z => absurd (show (1 : Int32) = 3 from z) (by decide), fun z _ => absurd (show (32 : Int32) ≤ 1 from z) (by decide), fun z => absurd (show (256 : Int32) ≤ 1 from z) (by decide)⟩, rfl⟩
    | false =>
      rw [nx_nx g0 c1 hv] at hn
      cases hn
  | false =>
    cases c2 : isLt (x.atN x.sk) with
    | true =>
      rw [nx_i g0 c1 c2]
      exact ⟨⟨fun _ => ⟨c2, rfl⟩, fun z => absurd (show (2 : Int32) = 3 from z) (by decide), fun z _ => absurd (show (32 : Int32) ≤ 2 from z) (by decide), fun z => absurd (show (256 : Int32) ≤ 2 from z) (by decide)⟩, rfl⟩
    | false =>
      by_cases c3 : x.atN x.sk = 34
      · by_cases c4 : x.atN (x.tx x.sk) = 34
        · rw [nx_t g0 c1 c2 c3 c4]
          exact ⟨⟨fun z => absurd (show (3 : Int32) = 2 from z) (by decide), fun _ => ⟨c3, c4, rfl⟩, fun z _ => absurd (show (32 : Int32) ≤ 3 from z) (by decide), fun z => absurd (show (256 : Int32) ≤ 3 from z) (by decide)⟩, rfl⟩
        · rw [nx_tx g0 c1 c2 c3 c4] at hn
          cases hn
      · by_cases c4 : x.tw x.sk = 0
        · cases c5 : sgOne (x.atN x.sk) with
          | true =>
            rw [nx_s1 g0 c1 c2 c3 c4 c5]
            have h5 := sgOne_lt c5
            refine ⟨⟨fun z => ?_, fun z => ?_, fun _ _ => ⟨rfl, rfl⟩, fun z => ?_⟩, rfl⟩
            · have z : x.atN x.sk = 2 := z
              rw [z] at h5
              exact absurd h5.1 (by decide)
            · have z : x.atN x.sk = 3 := z
              rw [z] at h5
              exact absurd h5.1 (by decide)
            · have z : 256 ≤ x.atN x.sk := z
              exact absurd h5.2 (Int32.not_lt.mpr z)
          | false =>
            rw [nx_sx g0 c1 c2 c3 c4 c5] at hn
            cases hn
        · rw [nx_s2 g0 c1 c2 c3 c4]
          have h5 : x.tw x.sk = 256 ∨ x.tw x.sk = 257 ∨ x.tw x.sk = 258 := by
            rcases sgTwo_c c4 with h | h | h
            · exact Or.inl h.2.2
            · exact Or.inr (Or.inl h.2.2)
            · exact Or.inr (Or.inr h.2.2)
          refine ⟨⟨fun z => ?_, fun z => ?_, fun _ z => ?_, fun _ => ⟨rfl, c4, rfl⟩⟩, rfl⟩
          · have z : nI (x.tw x.sk) = 2 := z
            rcases h5 with h | h | h <;> rw [h] at z <;> exact absurd z (by decide)
          · have z : nI (x.tw x.sk) = 3 := z
            rcases h5 with h | h | h <;> rw [h] at z <;> exact absurd z (by decide)
          · have z : nI (x.tw x.sk) < 256 := z
            rcases h5 with h | h | h <;> rw [h] at z <;> exact absurd z (by decide)
theorem fq_tx {f : Nat → Int32} {len : Nat} : ∀ {w k v : Nat}, atI f len (txG f len w k) = 34 → len ≤ k + w → len ≤ k + v → fqA f len v k = txG f len w k
  | 0, k, v, h, hw, hv => by
    have : k < len := atI_in h (by decide)
    omega
  | w + 1, k, v, h, hw, hv => by
    by_cases g : len ≤ k
    · rw [txG_n (Or.inl g)] at h
      have : k < len := atI_in h (by decide)
      omega
    · cases c : isTx (atI f len k) with
      | false =>
        rw [txG_n (Or.inr c)] at h ⊢
        exact fqA_y h
      | true =>
        rw [txG_t (Nat.succ_pos w) g c] at h ⊢
        have hn : ¬ atI f len k = 34 := fun z => by
          rw [z] at c
          revert c
          decide
        rw [fqA_n (show 0 < v by omega) hn]
        exact fq_tx h (by omega) (by omega)
/-- the tape is the same -/
def MS.sT (x y : MS) : Prop := y.tape = x.tape ∧ y.length = x.length
theorem sT_tk {x y : MS} (h : x.tk y) : x.sT y := ⟨tk_f h MS.tape rfl, tk_f h MS.length rfl⟩
def MS.okA (x : MS) (k : Nat) : Prop := ∃ n, mtOK x.tape x.length n k = true
theorem okA_c {x : MS} {k : Nat} (h : x.atN k = 125) : x.okA k := ⟨0, decide_eq_true h⟩
theorem okA_s {x : MS} {k : Nat} (h : isSep (x.atN k) = true) (h2 : x.okA (k + 1)) : x.okA k := by
  obtain ⟨n, hn⟩ := h2
  refine ⟨n + 1, ?_⟩
  show (decide (atI x.tape x.length k = 125) || (if isSep (atI x.tape x.length k) = true then mtOK x.tape x.length n (k + 1) else _)) = true
  rw [if_pos (show isSep (atI x.tape x.length k) = true from h), hn, Bool.or_true]
theorem okA_k {x : MS} : ∀ {w k : Nat}, x.okA (skA x.tape x.length w k) → x.okA k
  | 0, _, h => h
  | w + 1, k, h => by
    unfold skA at h
    by_cases g : atI x.tape x.length k = 32
    · rw [if_pos g] at h
      exact okA_s (by show isSep (atI x.tape x.length k) = true; rw [g]; rfl) (okA_k h)
    · rw [if_neg g] at h
      exact h
theorem okA_m {x : MS} {k : Nat} (h : isSep (x.atN k) = false) (h1 : m5E x.tape x.length k < x.length) (h2 : x.okA (m5E x.tape x.length k + 1)) : x.okA k := by
  obtain ⟨n, hn⟩ := h2
  refine ⟨n + 1, ?_⟩
  show (decide (atI x.tape x.length k = 125) || (if isSep (atI x.tape x.length k) = true then _ else decide (m5E x.tape x.length k < x.length) && mtOK x.tape x.length n (m5E x.tape x.length k + 1))) = true
  rw [if_neg (by rw [show isSep (atI x.tape x.length k) = false from h]; decide), hn, decide_eq_true h1]
  exact Bool.or_true _
theorem okA_t {x y : MS} {k : Nat} (h : x.sT y) : x.okA k ↔ y.okA k := by
  unfold MS.okA
  rw [h.1, h.2]
theorem m5_ge {f : Nat → Int32} {len k : Nat} : k ≤ m5E f len k := by
  have h1 : k ≤ m1E f len k := idG_ge
  have h2 : m1E f len k ≤ m2E f len k := skA_ge
  have h3 : m2E f len k ≤ m3E f len k := Nat.le_add_right _ _
  have h4 : m3E f len k ≤ m4E f len k := skA_ge
  have h5 : m4E f len k + 1 ≤ m5E f len k := fqA_ge
  omega
theorem mt_fuel {f : Nat → Int32} {len : Nat} : ∀ {n k m : Nat}, mtOK f len n k = true → len ≤ m + k → mtOK f len m k = true
  | n, k, 0, h, hm => by
    have h0 : atI f len k = 0 := if_pos (by omega)
    cases n with
    | zero =>
      have := of_decide_eq_true h
      rw [h0] at this
      exact absurd this (by decide)
    | succ n =>
      have h1 := mtOK_m h (by rw [h0]; decide) (by rw [h0]; decide)
      have := m5_ge (f := f) (len := len) (k := k)
      omega
  | n, k, m + 1, h, hm => by
    by_cases g : atI f len k = 125
    · show (decide (atI f len k = 125) || _) = true
      rw [decide_eq_true g]
      rfl
    · show (decide (atI f len k = 125) || (if isSep (atI f len k) = true then mtOK f len m (k + 1) else decide (m5E f len k < len) && mtOK f len m (m5E f len k + 1))) = true
      cases c : isSep (atI f len k) with
      | true =>
        rw [if_pos rfl, mt_fuel (mtOK_s h g c).2 (by omega)]
        exact Bool.or_true _
      | false =>
        have h1 := mtOK_m h g c
        have := m5_ge (f := f) (len := len) (k := k)
        rw [if_neg (by decide), mt_fuel h1.2.2 (by omega), decide_eq_true h1.2.1]
        exact Bool.or_true _
theorem okA_mOK {x : MS} {k : Nat} (h : x.okA k) (hk : k ≤ x.length) : x.mOK k := by
  obtain ⟨n, hn⟩ := h
  exact ⟨hk, mt_fuel hn (by omega)⟩
theorem nx_sT (x : MS) : x.sT x.nx.2 := sT_tk (tk_nx x)
theorem sT_tr {x y z : MS} (h1 : x.sT y) (h2 : y.sT z) : x.sT z := ⟨h2.1.trans h1.1, h2.2.trans h1.2⟩
theorem sT_sy {x y : MS} (h : x.sT y) : y.sT x := ⟨h.1.symm, h.2.symm⟩
theorem sk_A {x : MS} (h : byteF x.tape) : x.sk = skA x.tape x.length (x.length + 1 - x.too) x.too := sk_eq h
/-- the token behind a comma -/
theorem okA_x {x y : MS} (hb : byteF x.tape) (hn : x.nx.1 = true) (e : y = x.nx.2) (h : x.okA y.frm) : x.okA x.too := by
  subst e
  rw [(nx_isT hn).2, sk_A hb] at h
  exact okA_k h
theorem okA_44 {x y : MS} (hb : byteF x.tape) (ht : x.isT) (hk : x.kind = 44) (hn : x.nx.1 = true) (e : y = x.nx.2) (h : x.okA y.frm) : x.okA x.frm := by
  have h1 := ht.2.2.1 (by rw [hk]; decide) (by rw [hk]; decide)
  have h2 := okA_x hb hn e h
  rw [h1.2] at h2
  exact okA_s (by rw [h1.1, hk]; rfl) h2
theorem okA_125 {x : MS} (ht : x.isT) (hk : x.kind = 125) : x.okA x.frm := by
  have h1 := ht.2.2.1 (by rw [hk]; decide) (by rw [hk]; decide)
  exact okA_c (h1.1.trans hk)
theorem lt_ns {z : Int32} (h : isLt z = true) : isSep z = false := by
  unfold isSep
  rw [decide_eq_false (fun e => by subst e; revert h; decide), decide_eq_false (fun e => by subst e; revert h; decide)]
  rfl
theorem sgM_c {x : MS} {k : Nat} (h : ¬ x.tw k = 0) : ¬ sgM x.tape x.length k = 0 := by
  have h2 : ¬ atI x.tape x.length k = 61 := by
    rcases sgTwo_c h with g | g | g
    · exact fun z => absurd (show (33 : Int32) = 61 from g.1.symm.trans z) (by decide)
    · exact fun z => absurd (show (94 : Int32) = 61 from g.1.symm.trans z) (by decide)
    · exact fun z => absurd (show (33 : Int32) = 61 from g.1.symm.trans z) (by decide)
  unfold sgM
  rw [if_neg h2]
  repeat' split
  all_goals decide
/-- a match: its tokens, told by places -/
theorem mc_in {x v : MS} (hb : byteF x.tape) (hl : x.lx) (ht : x.isT) (h : x.mcF = (true, v)) : v.lx ∧ v.isT ∧ x.sT v ∧ x.tk v ∧ x.too < v.too ∧ (x.okA v.frm → x.okA x.frm) := by
  have g1 : (x.ndF 2).1 = true := by
    cases c : (x.ndF 2).1 with
    | true => rfl
    | false => rw [mc_n c] at h; cases h
  have k1 : x.kind = 2 := (nd_in hl g1).2.2.2
  have n1 : x.ndF 2 = x.nx := if_pos k1
  obtain ⟨y, ey⟩ : ∃ y, y = x.nx.2 := ⟨_, rfl⟩
  have a1 : x.nx.1 = true := by rw [← n1]; exact g1
  rw [mc_y g1 (show y = (x.ndF 2).2 by rw [n1]; exact ey)] at h
  obtain ⟨ly, fy, -⟩ := nx_in hl a1
  obtain ⟨ty, sy⟩ := nx_isT a1
  have py := nx_sT x
  have qy := tk_nx x
  rw [← ey] at ly fy ty sy py qy
  have k2 : y.kind = 61 ∨ 256 ≤ y.kind := by
    by_cases c1 : y.kind = 61
    · exact Or.inl c1
    · by_cases c2 : 256 ≤ y.kind
      · exact Or.inr c2
      · rw [mc1_x c1 c2] at h
        cases h
  have a2 : y.nx.1 = true := by
    cases c : y.nx.1 with
    | true => rfl
    | false => rw [mc1_n k2 c] at h; cases h
  obtain ⟨z, ez⟩ : ∃ z, z = y.nx.2 := ⟨_, rfl⟩
  rw [mc1_y k2 a2 ez] at h
  obtain ⟨lz, fz, -⟩ := nx_in ly a2
  obtain ⟨tz, sz⟩ := nx_isT a2
  have pz := nx_sT y
  have qz := tk_nx y
  rw [← ez] at lz fz tz sz pz qz
  have g3 : (z.ndF 3).1 = true := by rw [h]
  have k3 : z.kind = 3 := (nd_in lz g3).2.2.2
  have n3 : z.ndF 3 = z.nx := if_pos k3
  rw [n3] at h
  have a3 : z.nx.1 = true := by rw [h]
  have ev : v = z.nx.2 := by rw [h]
  obtain ⟨lv, fv, -⟩ := nx_in lz a3
  obtain ⟨tv, sv⟩ := nx_isT a3
  have pv := nx_sT z
  have qv := tk_nx z
  rw [← ev] at lv fv tv sv pv qv
  have hlt : y.frm < y.too := by
    rcases k2 with c | c
    · have := (ty.2.2.1 (by rw [c]; decide) (by rw [c]; decide)).2
      omega
    · have := (ty.2.2.2 c).2.2
      omega
  refine ⟨lv, tv, sT_tr py (sT_tr pz pv), tk_tr qy (tk_tr qz qv), ?_, fun ho => ?_⟩
  · have := ly.2.1
    have := lz.2.1
    have := lv.2.1
    omega
  · have by_ : byteF y.tape := by rw [py.1]; exact hb
    have bz : byteF z.tape := by rw [pz.1]; exact by_
    obtain ⟨i1, i2⟩ := ht.1 k1
    have e1 : m1E x.tape x.length x.frm = x.too := i2.symm
    have e2 : m2E x.tape x.length x.frm = y.frm := by
      unfold m2E
      rw [e1, sy, sk_A hb]
    have e3 : m3E x.tape x.length x.frm = y.too := by
      unfold m3E
      rw [e2]
      rcases k2 with c | c
      · obtain ⟨c1, c2⟩ := ty.2.2.1 (by rw [c]; decide) (by rw [c]; decide)
        have c3 : atI x.tape x.length y.frm = 61 := by
          rw [← py.1, ← py.2]
          exact c1.trans c
        rw [if_pos (show sgM x.tape x.length y.frm = 0 from if_pos c3), c2]
      · obtain ⟨-, c1, c2⟩ := ty.2.2.2 c
        have c3 : ¬ x.tw y.frm = 0 := by
          unfold MS.tw MS.atN at c1 ⊢
          rw [← py.1, ← py.2]
          exact c1
        rw [if_neg (sgM_c c3), c2]
    have e4 : m4E x.tape x.length x.frm = z.frm := by
      unfold m4E
      rw [e3, sz, sk_A by_, py.1, py.2]
    obtain ⟨j1, j2, j3⟩ := tz.2.1 k3
    have tt : z.tx z.frm = txG x.tape x.length (x.length + 1 - (z.frm + 1)) (z.frm + 1) := by
      unfold MS.tx
      rw [pz.1, pz.2, py.1, py.2]
    have j2 : atI x.tape x.length (z.tx z.frm) = 34 := by
      have j4 : atI z.tape z.length (z.tx z.frm) = 34 := j2
      rw [pz.1, pz.2, py.1, py.2] at j4
      exact j4
    have e5 : m5E x.tape x.length x.frm = z.tx z.frm := by
      unfold m5E
      rw [e4, tt]
      rw [tt] at j2
      exact fq_tx j2 (by omega) (by omega)
    have e6 : m5E x.tape x.length x.frm < x.length := by
      rw [e5]
      exact atI_in j2 (by decide)
    refine okA_m (lt_ns i1) e6 ?_
    rw [e5, ← j3]
    have p2 := sT_tr py pz
    refine (okA_t p2).mpr ?_
    exact okA_x bz a3 ev ((okA_t p2).mp ho)
/-- the matches from the token on -/
def MS.mlF : Nat → MS → Bool × MS
  | 0, y => (false, y)
  | w + 1, y => if y.mcF.1 = true then (if y.mcF.2.kind = 44 then (if y.mcF.2.nx.1 = true then MS.mlF w y.mcF.2.nx.2 else (false, y.mcF.2.nx.2)) else (true, y.mcF.2)) else (false, y.mcF.2)
section ML
variable {w : Nat} {y z u : MS}
theorem ml_0 (hw : 0 < w) (h : y.mcF.1 = false) : MS.mlF w y = (false, y.mcF.2) := by
  obtain ⟨d, rfl⟩ : ∃ d, w = d + 1 := ⟨w - 1, by omega⟩
  exact if_neg (by rw [h]; decide)
theorem ml_e (hw : 0 < w) (h : y.mcF.1 = true) (e : z = y.mcF.2) (h2 : ¬ z.kind = 44) : MS.mlF w y = (true, z) := by
  obtain ⟨d, rfl⟩ : ∃ d, w = d + 1 := ⟨w - 1, by omega⟩
  subst e
  exact (if_pos h).trans (if_neg h2)
theorem ml_n (hw : 0 < w) (h : y.mcF.1 = true) (e : z = y.mcF.2) (h2 : z.kind = 44) (h3 : z.nx.1 = false) : MS.mlF w y = (false, z.nx.2) := by
  obtain ⟨d, rfl⟩ : ∃ d, w = d + 1 := ⟨w - 1, by omega⟩
  subst e
  exact (if_pos h).trans ((if_pos h2).trans (if_neg (by rw [h3]; decide)))
theorem ml_m (hw : 0 < w) (h : y.mcF.1 = true) (e : z = y.mcF.2) (h2 : z.kind = 44) (h3 : z.nx.1 = true) (e2 : u = z.nx.2) : MS.mlF w y = MS.mlF (w - 1) u := by
  obtain ⟨d, rfl⟩ : ∃ d, w = d + 1 := ⟨w - 1, by omega⟩
  subst e
  subst e2
  exact (if_pos h).trans ((if_pos h2).trans (if_pos h3))
end ML
/-- behind the brace -/
def MS.cl5 (z : MS) (wh p : Nat) : Bool × MS := if z.kind = 41 then (if z.works = true then (z.rkS wh p).nx else z.nx) else (false, z.flS 2 z.frm)
def MS.cl4 (y : MS) (wh p : Nat) : Bool × MS := if (y.ndF 125).1 = true then (y.ndF 125).2.cl5 wh p else (false, (y.ndF 125).2)
/-- the matches are read -/
def MS.cl3 (m : Bool × MS) (wh p : Nat) : Bool × MS := if m.1 = true then m.2.cl4 wh p else (false, m.2)
def MS.cl2 (y : MS) (wh : Nat) : Bool × MS :=
  if (y.ndF 40).1 = true then (if ((y.ndF 40).2.ndF 123).1 = true then (if ((y.ndF 40).2.ndF 123).2.kind = 125 then ((y.ndF 40).2.ndF 123).2.cl4 wh (y.ndF 40).2.too else MS.cl3 (MS.mlF (((y.ndF 40).2.ndF 123).2.length + 1) ((y.ndF 40).2.ndF 123).2) wh (y.ndF 40).2.too) else (false, ((y.ndF 40).2.ndF 123).2)) else (false, (y.ndF 40).2)
def MS.cl0 (x : MS) : MS := MS.s_tableNames x (va_up x.tableNames x.pile 0)
/-- a function read and, if the question works, its table made -/
def MS.clF (x : MS) (wh : Nat) : Bool × MS :=
  if x.cl0.nx.1 = true then (if x.cl0.nx.2.nmB 98 121 32 32 2 = true then (if x.cl0.nx.2.byF.1 = true then x.cl0.nx.2.byF.2.cl2 wh else (false, x.cl0.nx.2.byF.2)) else x.cl0.nx.2.cl2 wh) else (false, x.cl0.nx.2)
section CL
variable {x y z u : MS} {wh p w : Nat}
theorem cl_0 (h : x.cl0.nx.1 = false) : x.clF wh = (false, x.cl0.nx.2) := if_neg (by rw [h]; decide)
theorem cl_b (h : x.cl0.nx.1 = true) (e : y = x.cl0.nx.2) (h2 : y.nmB 98 121 32 32 2 = true) (h3 : y.byF.1 = false) : x.clF wh = (false, y.byF.2) := by
  subst e
  exact (if_pos h).trans ((if_pos h2).trans (if_neg (by rw [h3]; decide)))
theorem cl_y (h : x.cl0.nx.1 = true) (e : y = x.cl0.nx.2) (h2 : y.nmB 98 121 32 32 2 = true) (h3 : y.byF.1 = true) (e2 : z = y.byF.2) : x.clF wh = z.cl2 wh := by
  subst e
  subst e2
  exact (if_pos h).trans ((if_pos h2).trans (if_pos h3))
theorem cl_n (h : x.cl0.nx.1 = true) (e : y = x.cl0.nx.2) (h2 : y.nmB 98 121 32 32 2 = false) : x.clF wh = y.cl2 wh := by
  subst e
  exact (if_pos h).trans (if_neg (by rw [h2]; decide))
theorem c2_0 (h : (y.ndF 40).1 = false) : y.cl2 wh = (false, (y.ndF 40).2) := if_neg (by rw [h]; decide)
theorem c2_1 (h : (y.ndF 40).1 = true) (e : z = (y.ndF 40).2) (h2 : (z.ndF 123).1 = false) : y.cl2 wh = (false, (z.ndF 123).2) := by
  subst e
  exact (if_pos h).trans (if_neg (by rw [h2]; decide))
theorem c2_e (h : (y.ndF 40).1 = true) (e : z = (y.ndF 40).2) (h2 : (z.ndF 123).1 = true) (e2 : u = (z.ndF 123).2) (h3 : u.kind = 125) : y.cl2 wh = u.cl4 wh z.too := by
  subst e
  subst e2
  exact (if_pos h).trans ((if_pos h2).trans (if_pos h3))
theorem c2_m (h : (y.ndF 40).1 = true) (e : z = (y.ndF 40).2) (h2 : (z.ndF 123).1 = true) (e2 : u = (z.ndF 123).2) (h3 : ¬ u.kind = 125) : y.cl2 wh = MS.cl3 (MS.mlF (u.length + 1) u) wh z.too := by
  subst e
  subst e2
  exact (if_pos h).trans ((if_pos h2).trans (if_neg h3))
theorem c3_t : MS.cl3 (true, y) wh p = y.cl4 wh p := rfl
theorem c3_f : MS.cl3 (false, y) wh p = (false, y) := rfl
theorem c4_0 (h : (y.ndF 125).1 = false) : y.cl4 wh p = (false, (y.ndF 125).2) := if_neg (by rw [h]; decide)
theorem c4_1 (h : (y.ndF 125).1 = true) (e : z = (y.ndF 125).2) : y.cl4 wh p = z.cl5 wh p := by
  subst e
  exact if_pos h
theorem c5_x (h : ¬ z.kind = 41) : z.cl5 wh p = (false, z.flS 2 z.frm) := if_neg h
theorem c5_n (h : z.kind = 41) (h2 : z.works = false) : z.cl5 wh p = z.nx := (if_pos h).trans (if_neg (by rw [h2]; decide))
theorem c5_y (h : z.kind = 41) (h2 : z.works = true) (e : u = z.rkS wh p) : z.cl5 wh p = u.nx := by
  subst e
  exact (if_pos h).trans (if_pos h2)
end CL
/-- what making a table wants -/
def MS.rkc (x : MS) : Prop := x.pile < 20 ∧ x.seriesCount ≤ 256 ∧ (∀ q : Nat, q < x.seriesCount → x.tOK q) ∧ x.points ≤ 12000 ∧ (∀ q : Nat, q < x.points → x.pointSeries q < 256) ∧ x.windows ≤ 64 ∧ 1 ≤ x.width ∧ ∀ q : Nat, x.keySeries q < 256
theorem rkc_tk {x y : MS} (h : x.tk y) (hx : x.rkc) : y.rkc := by
  have h1 : (x.tkS y).rkc := hx
  rw [← show y = x.tkS y from h] at h1
  exact h1
theorem lx_rk {x : MS} {wh p : Nat} (h : x.lx) : (x.rkS wh p).lx := h
