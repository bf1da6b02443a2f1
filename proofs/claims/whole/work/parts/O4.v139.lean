/-! Tokens: the reference's and the class's. -/
theorem by_ex {z : Int32} (h : z.toInt8.toInt32 = z) : ∃ n : Nat, n < 256 ∧ z = (Int8.ofBitVec (BitVec.ofNat 8 n)).toInt32 :=
  ⟨z.toInt8.toBitVec.toNat, z.toInt8.toBitVec.isLt, by
    rw [BitVec.ofNat_toNat, BitVec.setWidth_eq, Int8.ofBitVec_toBitVec]
    exact h.symm⟩
def byB (P : Int32 → Bool) : Prop := ∀ n : Nat, n < 256 → P (Int8.ofBitVec (BitVec.ofNat 8 n)).toInt32 = true
theorem byB_u {P : Int32 → Bool} (h : byB P) {z : Int32} (hz : z.toInt8.toInt32 = z) : P z = true := by
  obtain ⟨n, h1, h2⟩ := by_ex hz
  rw [h2]
  exact h n h1
def b_eq (a b : Bool) : Bool := (a && b) || (!a && !b)
theorem b_eqI {a b : Bool} (h : b_eq a b = true) : a = b := by revert h; cases a <;> cases b <;> decide
def b_k (k : Int32) (z : Int32) : Bool := b_eq (decide (z &&& 255 = k)) (decide (z = k))
theorem b_kI {k z : Int32} (h : b_k k z = true) : z &&& 255 = k ↔ z = k := by
  have := b_eqI h
  by_cases c : z = k
  · rw [decide_eq_true c] at this; exact ⟨fun _ => c, fun _ => of_decide_eq_true this⟩
  · rw [decide_eq_false c] at this; exact ⟨fun e => absurd e (of_decide_eq_false this), fun e => absurd e c⟩
def b_10 (z : Int32) : Bool := !isDg z || (decide (z &&& 255 = z) && (decide (z = 48) || (decide (z = 49) || (decide (z = 50) || (decide (z = 51) || (decide (z = 52) || (decide (z = 53) || (decide (z = 54) || (decide (z = 55) || (decide (z = 56) || decide (z = 57)))))))))))
section BY
variable {z : Int32}
theorem by_dg (hz : z.toInt8.toInt32 = z) : isDg (z &&& 255) = isDg z := b_eqI (byB_u (P := fun z => b_eq (isDg (z &&& 255)) (isDg z)) (by unfold byB; decide +kernel) hz)
theorem by_lt (hz : z.toInt8.toInt32 = z) : isLt (z &&& 255) = isLt z := b_eqI (byB_u (P := fun z => b_eq (isLt (z &&& 255)) (isLt z)) (by unfold byB; decide +kernel) hz)
theorem by_nm (hz : z.toInt8.toInt32 = z) : isNm (z &&& 255) = isNm z := by unfold isNm; rw [by_lt hz, by_dg hz]
theorem by_tx (hz : z.toInt8.toInt32 = z) : isTx (z &&& 255) = isTv z := b_eqI (byB_u (P := fun z => b_eq (isTx (z &&& 255)) (isTv z)) (by unfold byB; decide +kernel) hz)
theorem by_s1 (hz : z.toInt8.toInt32 = z) : sgOne (z &&& 255) = sgOne z := b_eqI (byB_u (P := fun z => b_eq (sgOne (z &&& 255)) (sgOne z)) (by unfold byB; decide +kernel) hz)
theorem by_33 (hz : z.toInt8.toInt32 = z) : z &&& 255 = 33 ↔ z = 33 := b_kI (byB_u (P := b_k 33) (by unfold byB; decide +kernel) hz)
theorem by_34 (hz : z.toInt8.toInt32 = z) : z &&& 255 = 34 ↔ z = 34 := b_kI (byB_u (P := b_k 34) (by unfold byB; decide +kernel) hz)
theorem by_61 (hz : z.toInt8.toInt32 = z) : z &&& 255 = 61 ↔ z = 61 := b_kI (byB_u (P := b_k 61) (by unfold byB; decide +kernel) hz)
theorem by_94 (hz : z.toInt8.toInt32 = z) : z &&& 255 = 94 ↔ z = 94 := b_kI (byB_u (P := b_k 94) (by unfold byB; decide +kernel) hz)
theorem by_so (hz : z.toInt8.toInt32 = z) (h : sgOne z = true) : z &&& 255 = z := by
  have := byB_u (P := fun z => !sgOne z || decide (z &&& 255 = z)) (by unfold byB; decide +kernel) hz
  rw [h] at this
  exact of_decide_eq_true this
theorem by_10 (hz : z.toInt8.toInt32 = z) (h : isDg z = true) : z &&& 255 = z ∧ (z = 48 ∨ z = 49 ∨ z = 50 ∨ z = 51 ∨ z = 52 ∨ z = 53 ∨ z = 54 ∨ z = 55 ∨ z = 56 ∨ z = 57) := by
  have := byB_u (P := b_10) (by unfold byB; decide +kernel) hz
  unfold b_10 at this
  rw [h] at this
  simpa using this
end BY
section TK
variable {f : Nat → Int32} {n : Nat}
theorem at_iv (q : Nat) : atI f n q = atV f n q &&& 255 := by
  unfold atI atV
  by_cases c : q < n
  · rw [if_neg (by omega), if_pos c]
  · rw [if_pos (by omega), if_neg c]; decide
theorem atV_by (hby : byteF f) (q : Nat) : (atV f n q).toInt8.toInt32 = atV f n q := by
  unfold atV
  split
  · exact hby q
  · decide
theorem at_lt {q : Nat} (h : q < n) : atI f n q = f q &&& 255 := if_neg (by omega)
theorem sk_wh : ∀ (k q : Nat), n - q = k → q ≤ n → skG f n (n + 1 - q) q = whE isSp f n q
  | 0, q, e, h => by
    rw [show n + 1 - q = 0 + 1 by omega, whE_n (by omega)]
    exact if_pos (by omega)
  | k + 1, q, e, h => by
    rw [show n + 1 - q = (k + 1) + 1 by omega]
    show (if n ≤ q then q else if f q = 32 then skG f n (k + 1) (q + 1) else q) = _
    rw [if_neg (by omega)]
    have ih := sk_wh k (q + 1) (by omega) (by omega)
    rw [show n + 1 - (q + 1) = k + 1 by omega] at ih
    by_cases c : f q = 32
    · rw [if_pos c, whE_t (by omega) (decide_eq_true c), ih]
    · rw [if_neg c, whE_f (decide_eq_false c)]
theorem id_wh (hby : byteF f) : ∀ (k q : Nat), n - q = k → q ≤ n → idG f n (n + 1 - q) q = whE isNm f n q
  | 0, q, e, h => by
    rw [show n + 1 - q = 0 + 1 by omega, whE_n (by omega)]
    show (if isNm (atI f n q) = true then _ else q) = q
    rw [show atI f n q = 0 from if_pos (by omega)]
    rfl
  | k + 1, q, e, h => by
    rw [show n + 1 - q = (k + 1) + 1 by omega]
    show (if isNm (atI f n q) = true then idG f n (k + 1) (q + 1) else q) = _
    have ih := id_wh hby k (q + 1) (by omega) (by omega)
    rw [show n + 1 - (q + 1) = k + 1 by omega] at ih
    rw [at_lt (by omega), by_nm (hby q)]
    cases c : isNm (f q) with
    | true => rw [if_pos rfl, whE_t (by omega) c, ih]
    | false => rw [if_neg (by decide), whE_f c]
theorem tx_wh (hby : byteF f) : ∀ (k q : Nat), n - q = k → q ≤ n → txG f n (n + 1 - q) q = whE isTv f n q
  | 0, q, e, h => by
    rw [show n + 1 - q = 0 + 1 by omega, whE_n (by omega)]
    exact if_pos (by omega)
  | k + 1, q, e, h => by
    rw [show n + 1 - q = (k + 1) + 1 by omega]
    show (if n ≤ q then q else if isTx (atI f n q) = true then txG f n (k + 1) (q + 1) else q) = _
    have ih := tx_wh hby k (q + 1) (by omega) (by omega)
    rw [show n + 1 - (q + 1) = k + 1 by omega] at ih
    rw [if_neg (by omega), at_lt (by omega), by_tx (hby q)]
    cases c : isTv (f q) with
    | true => rw [if_pos rfl, whE_t (by omega) c, ih]
    | false => rw [if_neg (by decide), whE_f c]
/-- too large or not -/
theorem ng_o {v : Int64} {z : Int32} (hz : z = 48 ∨ z = 49 ∨ z = 50 ∨ z = 51 ∨ z = 52 ∨ z = 53 ∨ z = 54 ∨ z = 55 ∨ z = 56 ∨ z = 57) : ngB true v (z - 48) = !decide ((9223372036854775807 - (z - 48).toInt64) / 10 < v) := by
  have ha : ∀ c : Int64, c = 922337203685477580 → (true && (decide (v < 922337203685477580) || (decide (v = 922337203685477580) && true))) = !decide (c < v) := by
    intro c e
    subst e
    by_cases h1 : v < 922337203685477580
    · rw [decide_eq_true h1, decide_eq_false (Int64.not_lt.mpr (Int64.le_of_lt h1))]; rfl
    · rw [decide_eq_false h1]
      by_cases h2 : v = 922337203685477580
      · rw [h2]; decide
      · rw [decide_eq_false h2, decide_eq_true (Int64.lt_of_le_of_ne (Int64.not_lt.mp h1) (fun e => h2 e.symm))]; rfl
  have hb : ∀ c : Int64, c = 922337203685477579 → (true && (decide (v < 922337203685477580) || (decide (v = 922337203685477580) && false))) = !decide (c < v) := by
    intro c e
    subst e
    have k1 : (922337203685477580 : Int64).toInt = 922337203685477580 := by decide
    have k2 : (922337203685477579 : Int64).toInt = 922337203685477579 := by decide
    by_cases h1 : v < 922337203685477580
    · have h3 : ¬ (922337203685477579 : Int64) < v := by
        rw [Int64.lt_iff_toInt_lt, k1] at h1
        rw [Int64.lt_iff_toInt_lt, k2]
        omega
      rw [decide_eq_true h1, decide_eq_false h3]; rfl
    · have h3 : (922337203685477579 : Int64) < v := by
        rw [Int64.lt_iff_toInt_lt, k1] at h1
        rw [Int64.lt_iff_toInt_lt, k2]
        omega
      rw [decide_eq_false h1, decide_eq_true h3, Bool.and_false]; rfl
  rcases hz with h | h | h | h | h | h | h | h | h | h
  · subst h; exact ha _ (by decide)
  · subst h; exact ha _ (by decide)
  · subst h; exact ha _ (by decide)
  · subst h; exact ha _ (by decide)
  · subst h; exact ha _ (by decide)
  · subst h; exact ha _ (by decide)
  · subst h; exact ha _ (by decide)
  · subst h; exact ha _ (by decide)
  · subst h; exact hb _ (by decide)
  · subst h; exact hb _ (by decide)
def nuR (f : Nat → Int32) (n d q : Nat) (r : Nat × Bool × Int64) : Prop := r.1 = whE isDg f n q ∧ r.2.1 = !nuO f d (whE isDg f n q - d) ∧ (nuO f d (whE isDg f n q - d) = false → r.2.2 = nuV f d (whE isDg f n q - d))
theorem nu_wh (hby : byteF f) (d : Nat) : ∀ (k q j : Nat) (m : Int64), n - q = k → q ≤ n → q = d + j → (nuO f d j = false → m = nuV f d j) → nuR f n d q (numG f n (n + 1 - q) q (!nuO f d j) m)
  | 0, q, j, m, e, h, ej, hm => by
    rw [show n + 1 - q = 0 + 1 by omega]
    show nuR f n d q (if isDg (atI f n q) = true then _ else (q, !nuO f d j, m))
    rw [show atI f n q = 0 from if_pos (by omega), if_neg (by decide)]
    unfold nuR
    rw [whE_n (by omega), show q - d = j by omega]
    exact ⟨rfl, rfl, hm⟩
  | k + 1, q, j, m, e, h, ej, hm => by
    rw [show n + 1 - q = (k + 1) + 1 by omega]
    show nuR f n d q (if isDg (atI f n q) = true then numG f n (k + 1) (q + 1) (ngB (!nuO f d j) m (atI f n q - 48)) (ngA (!nuO f d j) m (atI f n q - 48)) else (q, !nuO f d j, m))
    rw [at_lt (by omega), by_dg (hby q)]
    cases c : isDg (f q) with
    | true =>
      obtain ⟨b1, b2⟩ := by_10 (hby q) c
      rw [if_pos rfl, b1]
      have en : nuO f d (j + 1) = (nuO f d j || decide ((9223372036854775807 - (f q - 48).toInt64) / 10 < nuV f d j)) := by rw [ej]; rfl
      have ev : nuV f d (j + 1) = 10 * nuV f d j + (f q - 48).toInt64 := by rw [ej]; rfl
      have eg : ngB (!nuO f d j) m (f q - 48) = !nuO f d (j + 1) := by
        rw [en]
        cases g : nuO f d j with
        | true => rfl
        | false => rw [hm g]; exact ng_o b2
      have ih := nu_wh hby d k (q + 1) (j + 1) (ngA (!nuO f d j) m (f q - 48)) (by omega) (by omega) (by omega) (fun g => by
        unfold ngA
        rw [eg, g, if_pos (show (!false) = true from rfl), ev]
        rw [en, Bool.or_eq_false_iff] at g
        rw [hm g.1])
      rw [show n + 1 - (q + 1) = k + 1 by omega, ← eg] at ih
      unfold nuR at ih ⊢
      rw [whE_t (by omega) c]
      exact ih
    | false =>
      rw [if_neg (by decide)]
      unfold nuR
      rw [whE_f c, show q - d = j by omega]
      exact ⟨rfl, rfl, hm⟩
end TK
/-- kinds of tokens -/
def kR (a b : Int32) : Prop := (a = 0 ∧ b = 256) ∨ (a = 1 ∧ b = 257) ∨ (a = 2 ∧ b = 258) ∨ (a = 3 ∧ b = 259) ∨ (a = 256 ∧ b = 260) ∨ (a = 257 ∧ b = 261) ∨ (a = 258 ∧ b = 262) ∨ (sgOne a = true ∧ b = a)
/-- the token read -/
def tkR (m : MS) (t : TKQ) : Prop := kR m.kind t.1 ∧ m.frm = t.2.1 ∧ m.too = t.2.2.1 ∧ (m.kind = 1 → m.amount = t.2.2.2.1) ∧ m.faultCode = 0 ∧ t.2.2.2.2.1 = 0 ∧ m.faultPlace = t.2.2.2.2.2
/-- read, or not a token -/
def nxR (r : Bool × MS) (u : TKQ) : Prop := (r.1 = true ∧ tkR r.2 u) ∨ (r.1 = false ∧ u.1 = 263 ∧ ¬ u.2.2.2.2.1 = 0 ∧ r.2.faultCode = u.2.2.2.2.1 ∧ r.2.faultPlace = u.2.2.2.2.2)
theorem adX_n {d : TD} {t : TKQ} (h : ¬ d.1 = 263) : adX d t = mkT d t := if_neg h
theorem adX_b {d : TD} {t : TKQ} (h : d.1 = 263) (h0 : t.2.2.2.2.1 = 0) : adX d t = (d.1, d.2.1, d.2.2.1, d.2.2.2, 1, nI d.2.1) := by
  unfold adX rfT
  rw [if_pos h]
  exact if_pos h0
theorem sgOne_i {z : Int32} : (z = 37 ∨ z = 40 ∨ z = 41 ∨ z = 42 ∨ z = 43 ∨ z = 44 ∨ z = 45 ∨ z = 47 ∨ z = 61 ∨ z = 123 ∨ z = 125) ↔ sgOne z = true := by
  constructor
  · intro h
    rcases h with h | h | h | h | h | h | h | h | h | h | h <;> subst h <;> decide
  · intro h
    unfold sgOne at h
    simp only [Bool.or_eq_true, decide_eq_true_eq] at h
    rcases h with h | h | h | h | h | h | h | h | h | h | h <;> subst h <;> decide
theorem sg_q {z y : Int32} (hz : z.toInt8.toInt32 = z) (hy : y.toInt8.toInt32 = y) : (sgTwo (z &&& 255) (y &&& 255) = 256 ∧ sgV z y = (260, 2)) ∨ (sgTwo (z &&& 255) (y &&& 255) = 257 ∧ sgV z y = (261, 2)) ∨ (sgTwo (z &&& 255) (y &&& 255) = 258 ∧ sgV z y = (262, 2)) ∨ (sgTwo (z &&& 255) (y &&& 255) = 0 ∧ sgOne (z &&& 255) = true ∧ sgV z y = (z, 1)) ∨ (sgTwo (z &&& 255) (y &&& 255) = 0 ∧ sgOne (z &&& 255) = false ∧ sgV z y = (263, 1)) := by
  unfold sgTwo sgV
  simp only [by_33 hz, by_94 hz, by_61 hy, by_94 hy, by_s1 hz]
  by_cases c1 : z = 33
  · have c2 : ¬ z = 94 := by rw [c1]; decide
    have c3 : sgOne z = false := by rw [c1]; decide
    rw [if_pos c1]
    by_cases d1 : y = 61
    · rw [if_pos ⟨c1, d1⟩, if_pos d1]; exact Or.inl ⟨rfl, rfl⟩
    · rw [if_neg (fun h => d1 h.2), if_neg (fun h => c2 h.1), if_neg d1]
      by_cases d2 : y = 94
      · rw [if_pos ⟨c1, d2⟩, if_pos d2]; exact Or.inr (Or.inr (Or.inl ⟨rfl, rfl⟩))
      · rw [if_neg (fun h => d2 h.2), if_neg d2]; exact Or.inr (Or.inr (Or.inr (Or.inr ⟨rfl, c3, rfl⟩)))
  · rw [if_neg (fun h => c1 h.1), if_neg c1]
    by_cases c2 : z = 94
    · have c3 : sgOne z = false := by rw [c2]; decide
      rw [if_pos c2]
      by_cases d1 : y = 61
      · rw [if_pos ⟨c2, d1⟩, if_pos d1]; exact Or.inr (Or.inl ⟨rfl, rfl⟩)
      · rw [if_neg (fun h => d1 h.2), if_neg (fun h => c1 h.1), if_neg d1]; exact Or.inr (Or.inr (Or.inr (Or.inr ⟨rfl, c3, rfl⟩)))
    · rw [if_neg (fun h => c2 h.1), if_neg (fun h => c1 h.1), if_neg c2]
      cases s : sgOne z with
      | true => rw [if_pos (sgOne_i.mpr s)]; exact Or.inr (Or.inr (Or.inr (Or.inl ⟨rfl, rfl, rfl⟩)))
      | false => rw [if_neg (fun h => by rw [sgOne_i.mp h] at s; cases s)]; exact Or.inr (Or.inr (Or.inr (Or.inr ⟨rfl, rfl, rfl⟩)))
theorem nx_q {m : MS} {t : TKQ} (hby : byteF m.tape) (ht : m.too = t.2.2.1) (hle : m.too ≤ m.length) (h0 : t.2.2.2.2.1 = 0) (hm : m.faultCode = 0) (hp : m.faultPlace = t.2.2.2.2.2) : nxR m.nx (nxT m.tape m.length t) := by
  have es : m.sk = whE isSp m.tape m.length t.2.2.1 := by rw [← ht]; exact sk_wh _ _ rfl hle
  have ei := (whE_in (P := isSp) (f := m.tape) (q := t.2.2.1) (by rw [← ht]; exact hle)).2
  show nxR (m.nxD m.sk) (adX (tkD m.tape m.length t.2.2.2.1 (whE isSp m.tape m.length t.2.2.1)) t)
  rw [es]
  generalize whE isSp m.tape m.length t.2.2.1 = d at ei
  clear es
  by_cases c0 : m.length ≤ d
  · rw [nx_e c0, show tkD m.tape m.length t.2.2.2.1 d = (256, d, m.length, t.2.2.2.1) from if_pos (by omega), adX_n (by show ¬ (256 : Int32) = 263; decide)]
    exact Or.inl ⟨rfl, Or.inl ⟨rfl, rfl⟩, rfl, (by show d = m.length; omega), fun e => absurd e (by show ¬ (0 : Int32) = 1; decide), hm, h0, hp⟩
  have ed : m.atN d = m.tape d &&& 255 := at_lt (by omega)
  have e1 : ¬ d = m.length := by omega
  cases c1 : isDg (m.tape d) with
  | true =>
    have hd : isDg (m.atN d) = true := by rw [ed, by_dg (hby d)]; exact c1
    obtain ⟨b, v, k, hv⟩ : ∃ b v k, m.nu d = (b, v, k) := ⟨_, _, _, rfl⟩
    have nr := nu_wh (n := m.length) hby d _ d 0 0 rfl (by omega) rfl (fun _ => rfl)
    rw [show numG m.tape m.length (m.length + 1 - d) d (!nuO m.tape d 0) 0 = (b, v, k) from hv] at nr
    obtain ⟨r1, r2, r3⟩ := nr
    rw [show tkD m.tape m.length t.2.2.2.1 d = (nuK m.tape d (whE isDg m.tape m.length d - d), d, whE isDg m.tape m.length d, nuV m.tape d (whE isDg m.tape m.length d - d)) from (if_neg e1).trans (if_pos c1)]
    cases v with
    | true =>
      have o : nuO m.tape d (whE isDg m.tape m.length d - d) = false := by
        have r2 : true = !nuO m.tape d (whE isDg m.tape m.length d - d) := r2
        cases q : nuO m.tape d (whE isDg m.tape m.length d - d) with
        | true => rw [q] at r2; cases r2
        | false => rfl
      have o2 : nuK m.tape d (whE isDg m.tape m.length d - d) = 257 := if_neg (by rw [o]; decide)
      rw [nx_n c0 hd hv, o2, adX_n (by show ¬ (257 : Int32) = 263; decide)]
      exact Or.inl ⟨rfl, Or.inr (Or.inl ⟨rfl, rfl⟩), rfl, r1, fun _ => r3 o, hm, h0, hp⟩
    | false =>
      have o : nuO m.tape d (whE isDg m.tape m.length d - d) = true := by
        have r2 : false = !nuO m.tape d (whE isDg m.tape m.length d - d) := r2
        cases q : nuO m.tape d (whE isDg m.tape m.length d - d) with
        | true => rfl
        | false => rw [q] at r2; cases r2
      have o2 : nuK m.tape d (whE isDg m.tape m.length d - d) = 263 := if_pos o
      rw [nx_nx c0 hd hv, o2, adX_b rfl h0]
      exact Or.inr ⟨rfl, rfl, by show ¬ (1 : Int32) = 0; decide, rfl, rfl⟩
  | false =>
    have hd : isDg (m.atN d) = false := by rw [ed, by_dg (hby d)]; exact c1
    have n1 : ¬ isDg (m.tape d) = true := by rw [c1]; decide
    cases c2 : isLt (m.tape d) with
    | true =>
      have hl : isLt (m.atN d) = true := by rw [ed, by_lt (hby d)]; exact c2
      have hn : isNm (m.tape d) = true := by unfold isNm; rw [c2]; rfl
      rw [nx_i c0 hd hl, show tkD m.tape m.length t.2.2.2.1 d = (258, d, whE isNm m.tape m.length (d + 1), t.2.2.2.1) from (if_neg e1).trans ((if_neg n1).trans (if_pos hn)), adX_n (by show ¬ (258 : Int32) = 263; decide)]
      refine Or.inl ⟨rfl, Or.inr (Or.inr (Or.inl ⟨rfl, rfl⟩)), rfl, ?_, fun e => absurd e (by show ¬ (2 : Int32) = 1; decide), hm, h0, hp⟩
      show m.idE d = whE isNm m.tape m.length (d + 1)
      rw [← whE_t (by omega) hn]
      exact id_wh hby _ _ rfl ei
    | false =>
      have hl : isLt (m.atN d) = false := by rw [ed, by_lt (hby d)]; exact c2
      have n2 : ¬ isNm (m.tape d) = true := by unfold isNm; rw [c2, c1]; decide
      by_cases c3 : m.tape d = 34
      · have h3 : m.atN d = 34 := by rw [ed, by_34 (hby d)]; exact c3
        have et : m.tx d = whE isTv m.tape m.length (d + 1) := tx_wh hby _ _ rfl (by omega)
        have e4 : m.atN (m.tx d) = 34 ↔ atV m.tape m.length (whE isTv m.tape m.length (d + 1)) = 34 := by
          rw [et]
          show atI m.tape m.length _ = 34 ↔ _
          rw [at_iv]
          exact by_34 (atV_by hby _)
        rw [show tkD m.tape m.length t.2.2.2.1 d = (tvK m.tape m.length d, d, tvN m.tape m.length d (d + 1), t.2.2.2.1) from (if_neg e1).trans ((if_neg n1).trans ((if_neg n2).trans (if_pos c3)))]
        by_cases c4 : atV m.tape m.length (whE isTv m.tape m.length (d + 1)) = 34
        · rw [nx_t c0 hd hl h3 (e4.mpr c4), tvK_y c4, tvN_y c4, adX_n (by show ¬ (259 : Int32) = 263; decide)]
          exact Or.inl ⟨rfl, Or.inr (Or.inr (Or.inr (Or.inl ⟨rfl, rfl⟩))), rfl, congrArg (· + 1) et, fun e => absurd e (by show ¬ (3 : Int32) = 1; decide), hm, h0, hp⟩
        · rw [nx_tx c0 hd hl h3 (fun e => c4 (e4.mp e)), tvK_n c4, adX_b rfl h0]
          exact Or.inr ⟨rfl, rfl, by show ¬ (1 : Int32) = 0; decide, rfl, rfl⟩
      · have h3 : ¬ m.atN d = 34 := by rw [ed, by_34 (hby d)]; exact c3
        have tw : m.tw d = sgTwo (m.tape d &&& 255) (atV m.tape m.length (d + 1) &&& 255) := by
          unfold MS.tw
          rw [ed, show m.atN (d + 1) = _ from at_iv (d + 1)]
        have td : tkD m.tape m.length t.2.2.2.1 d = ((sgV (m.tape d) (atV m.tape m.length (d + 1))).1, d, d + 1 + ((sgV (m.tape d) (atV m.tape m.length (d + 1))).2 - 1), t.2.2.2.1) := (if_neg e1).trans ((if_neg n1).trans ((if_neg n2).trans (if_neg c3)))
        rw [td]
        rcases sg_q (hby d) (atV_by (n := m.length) hby (d + 1)) with ⟨a, b⟩ | ⟨a, b⟩ | ⟨a, b⟩ | ⟨a, s, b⟩ | ⟨a, s, b⟩
        · rw [nx_s2 c0 hd hl h3 (by rw [tw, a]; decide), b, adX_n (by show ¬ (260 : Int32) = 263; decide), tw, a]
          exact Or.inl ⟨rfl, Or.inr (Or.inr (Or.inr (Or.inr (Or.inl ⟨rfl, rfl⟩)))), rfl, rfl, fun e => absurd e (by show ¬ (nI 256) = 1; decide), hm, h0, hp⟩
        · rw [nx_s2 c0 hd hl h3 (by rw [tw, a]; decide), b, adX_n (by show ¬ (261 : Int32) = 263; decide), tw, a]
          exact Or.inl ⟨rfl, Or.inr (Or.inr (Or.inr (Or.inr (Or.inr (Or.inl ⟨rfl, rfl⟩))))), rfl, rfl, fun e => absurd e (by show ¬ (nI 257) = 1; decide), hm, h0, hp⟩
        · rw [nx_s2 c0 hd hl h3 (by rw [tw, a]; decide), b, adX_n (by show ¬ (262 : Int32) = 263; decide), tw, a]
          exact Or.inl ⟨rfl, Or.inr (Or.inr (Or.inr (Or.inr (Or.inr (Or.inr (Or.inl ⟨rfl, rfl⟩)))))), rfl, rfl, fun e => absurd e (by show ¬ (nI 258) = 1; decide), hm, h0, hp⟩
        · have s2 : sgOne (m.tape d) = true := by rw [← by_s1 (hby d)]; exact s
          have e5 : m.atN d = m.tape d := ed.trans (by_so (hby d) s2)
          have e6 : ¬ m.tape d = 263 := fun e => by rw [e] at s2; revert s2; decide
          have e7 : ¬ m.tape d = 1 := fun e => by rw [e] at s2; revert s2; decide
          rw [nx_s1 c0 hd hl h3 (by rw [tw, a]) (by rw [e5]; exact s2), b, adX_n e6]
          exact Or.inl ⟨rfl, Or.inr (Or.inr (Or.inr (Or.inr (Or.inr (Or.inr (Or.inr ⟨by show sgOne (m.atN d) = true; rw [e5]; exact s2, e5.symm⟩)))))), rfl, rfl, fun e => absurd e (by show ¬ m.atN d = 1; rw [e5]; exact e7), hm, h0, hp⟩
        · rw [nx_sx c0 hd hl h3 (by rw [tw, a]) (by rw [ed]; exact s), b, adX_b rfl h0]
          exact Or.inr ⟨rfl, rfl, by show ¬ (1 : Int32) = 0; decide, rfl, rfl⟩
