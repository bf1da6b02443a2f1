/-- the first place from k on where v stands, or en -/
def fbG (t : Nat → Int32) (v : Int32) (en : Nat) : Nat → Nat → Nat
  | 0, k => k
  | w + 1, k => if en ≤ k then k else if t k = v then k else fbG t v en w (k + 1)
theorem fbG_y {t : Nat → Int32} {v : Int32} {en w k : Nat} (h : t k = v) : fbG t v en w k = k := by
  cases w with
  | zero => rfl
  | succ w =>
    show (if en ≤ k then k else if t k = v then k else fbG t v en w (k + 1)) = k
    rw [if_pos h]
    split <;> rfl
theorem fbG_e {t : Nat → Int32} {v : Int32} {en w k : Nat} (h : en ≤ k) : fbG t v en w k = k := by
  cases w with
  | zero => rfl
  | succ w => exact if_pos h
theorem fbG_n {t : Nat → Int32} {v : Int32} {en k : Nat} (h0 : k < en) (h : ¬ t k = v) : fbG t v en (en - k) k = fbG t v en (en - (k + 1)) (k + 1) := by
  obtain ⟨d, hd⟩ : ∃ d, en - k = d + 1 := ⟨en - k - 1, by omega⟩
  rw [hd, show en - (k + 1) = d by omega]
  show (if en ≤ k then k else if t k = v then k else fbG t v en d (k + 1)) = _
  rw [if_neg (by omega), if_neg h]
theorem fbG_ge {t : Nat → Int32} {v : Int32} {en : Nat} : ∀ {w k : Nat}, k ≤ fbG t v en w k
  | 0, k => Nat.le_refl k
  | w + 1, k => by
    unfold fbG
    split
    · exact Nat.le_refl k
    · split
      · exact Nat.le_refl k
      · have := fbG_ge (t := t) (v := v) (en := en) (w := w) (k := k + 1)
        omega
theorem fbG_le {t : Nat → Int32} {v : Int32} {en : Nat} : ∀ {w k : Nat}, k ≤ en → fbG t v en w k ≤ en
  | 0, k, h => h
  | w + 1, k, h => by
    unfold fbG
    split
    · exact h
    · split
      · exact h
      · exact fbG_le (by omega)
def eqP (t : Nat → Int32) (en k : Nat) : Nat := fbG t 61 en (en - k) k
def cmP (t : Nat → Int32) (en k : Nat) : Nat := fbG t 44 en (en - k) k
def txEq (t tp : Nat → Int32) (k nm j : Nat) : Bool := decide (t (k + j) = tp (nm + j))
def voM (t tp : Nat → Int32) (en nm n k : Nat) : Bool := decide (eqP t en k - k = n) && allB n (txEq t tp k nm)
/-- a text's value of a name: where, how long, is it there -/
def voG (t tp : Nat → Int32) (en nm n : Nat) : Nat → Nat → Nat × Nat × Bool
  | 0, _ => (0, 0, false)
  | w + 1, k => if en ≤ k then (0, 0, false) else if voM t tp en nm n k = true then (eqP t en k + 1, cmP t en (eqP t en k) - eqP t en k - 1, true) else voG t tp en nm n w (cmP t en (eqP t en k) + 1)
/-- is this a text of labels -/
def txOK (t : Nat → Int32) (en : Nat) : Nat → Nat → Bool
  | 0, k => decide (en ≤ k)
  | w + 1, k => decide (en ≤ k) || (decide (eqP t en k < en) && (decide (cmP t en (eqP t en k) ≤ eqP t en k + 25) && txOK t en w (cmP t en (eqP t en k) + 1)))
theorem tx_pos {t : Nat → Int32} {en w k : Nat} (h : txOK t en w k = true) (hk : ¬ en ≤ k) : 0 < w ∧ eqP t en k < en ∧ cmP t en (eqP t en k) ≤ eqP t en k + 25 ∧ txOK t en (w - 1) (cmP t en (eqP t en k) + 1) = true := by
  cases w with
  | zero => exact absurd (of_decide_eq_true h) hk
  | succ w =>
    have h2 : (decide (en ≤ k) || (decide (eqP t en k < en) && (decide (cmP t en (eqP t en k) ≤ eqP t en k + 25) && txOK t en w (cmP t en (eqP t en k) + 1)))) = true := h
    rw [decide_eq_false hk, Bool.false_or, Bool.and_eq_true, Bool.and_eq_true] at h2
    exact ⟨Nat.succ_pos w, of_decide_eq_true h2.1, of_decide_eq_true h2.2.1, h2.2.2⟩
theorem voG_t {t tp : Nat → Int32} {en nm n w k q r : Nat} (hw : 0 < w) (hk : ¬ en ≤ k) (h1 : eqP t en k = q) (h2 : cmP t en q = r) (hm : voM t tp en nm n k = true) : voG t tp en nm n w k = (q + 1, r - q - 1, true) := by
  obtain ⟨d, rfl⟩ : ∃ d, w = d + 1 := ⟨w - 1, by omega⟩
  show (if en ≤ k then _ else if voM t tp en nm n k = true then _ else _) = _
  rw [if_neg hk, if_pos hm, h1, h2]
theorem voG_f {t tp : Nat → Int32} {en nm n w k q r : Nat} (hw : 0 < w) (hk : ¬ en ≤ k) (h1 : eqP t en k = q) (h2 : cmP t en q = r) (hm : voM t tp en nm n k = false) : voG t tp en nm n w k = voG t tp en nm n (w - 1) (r + 1) := by
  obtain ⟨d, rfl⟩ : ∃ d, w = d + 1 := ⟨w - 1, by omega⟩
  show (if en ≤ k then _ else if voM t tp en nm n k = true then _ else voG t tp en nm n d (cmP t en (eqP t en k) + 1)) = _
  rw [if_neg hk, if_neg (by rw [hm]; decide), h1, h2]
  rfl
theorem voG_e {t tp : Nat → Int32} {en nm n w k : Nat} (hk : en ≤ k) : voG t tp en nm n w k = (0, 0, false) := by
  cases w with
  | zero => rfl
  | succ w => exact if_pos hk
/-- the value lies in the text -/
theorem voG_in {t tp : Nat → Int32} {en nm n : Nat} : ∀ {w k : Nat}, txOK t en w k = true → (voG t tp en nm n w k).1 + (voG t tp en nm n w k).2.1 ≤ en ∧ (0 < (voG t tp en nm n w k).2.1 → (voG t tp en nm n w k).2.2 = true)
  | 0, k, _ => ⟨Nat.zero_le _, fun h => absurd h (Nat.lt_irrefl 0)⟩
  | w + 1, k, h => by
    by_cases hk : en ≤ k
    · rw [voG_e hk]
      exact ⟨Nat.zero_le _, fun h => absurd h (Nat.lt_irrefl 0)⟩
    · obtain ⟨h1, h2, -, h3⟩ := tx_pos h hk
      cases hm : voM t tp en nm n k with
      | true =>
        rw [voG_t h1 hk rfl rfl hm]
        refine ⟨?_, fun _ => rfl⟩
        have z1 := fbG_le (t := t) (v := 44) (en := en) (w := en - eqP t en k) (k := eqP t en k) (by omega)
        show eqP t en k + 1 + (cmP t en (eqP t en k) - eqP t en k - 1) ≤ en
        have z2 : cmP t en (eqP t en k) ≤ en := z1
        omega
      | false =>
        rw [voG_f h1 hk rfl rfl hm]
        exact voG_in h3
theorem voG_24 {t tp : Nat → Int32} {en nm n : Nat} : ∀ {w k : Nat}, txOK t en w k = true → (voG t tp en nm n w k).2.1 ≤ 24
  | 0, k, _ => Nat.zero_le _
  | w + 1, k, h => by
    by_cases hk : en ≤ k
    · rw [voG_e hk]
      exact Nat.zero_le _
    · obtain ⟨h1, h2, h4, h3⟩ := tx_pos h hk
      cases hm : voM t tp en nm n k with
      | true =>
        rw [voG_t h1 hk rfl rfl hm]
        show cmP t en (eqP t en k) - eqP t en k - 1 ≤ 24
        omega
      | false =>
        rw [voG_f h1 hk rfl rfl hm]
        exact voG_24 h3
def voI (z : Nat × Nat × Bool) : Int32 := if z.2.2 = true then nI z.1 else -1
theorem voI_t {z : Nat × Nat × Bool} (h : z.2.2 = true) : voI z = nI z.1 := if_pos h
def MS.vo (x : MS) (s nm n : Nat) : Nat × Nat × Bool := voG x.texts x.tape (304 * s + x.textLengths s) nm n 7 (304 * s)
/-- is the text of series s one of labels -/
def MS.tOK (x : MS) (s : Nat) : Prop := s < 256 ∧ x.textLengths s ≤ 304 ∧ txOK x.texts (304 * s + x.textLengths s) 7 (304 * s) = true
theorem vo_in {x : MS} {s nm n : Nat} (h : x.tOK s) : (x.vo s nm n).1 + (x.vo s nm n).2.1 ≤ 77824 := by
  obtain ⟨h1, h2, h3⟩ := h
  have := (voG_in (tp := x.tape) (nm := nm) (n := n) h3).1
  show (voG x.texts x.tape (304 * s + x.textLengths s) nm n 7 (304 * s)).1 + (voG x.texts x.tape (304 * s + x.textLengths s) nm n 7 (304 * s)).2.1 ≤ 77824
  omega
theorem vo_24 {x : MS} {s nm n : Nat} (h : x.tOK s) : (x.vo s nm n).2.1 ≤ 24 := voG_24 h.2.2
theorem vo_add {x : MS} {s nm n j : Nat} (h : x.tOK s) (hj : j < (x.vo s nm n).2.1) : voI (x.vo s nm n) + nI j = nI ((x.vo s nm n).1 + j) := by
  have h2 : (x.vo s nm n).2.2 = true := (voG_in (tp := x.tape) (nm := nm) (n := n) h.2.2).2 (Nat.lt_of_le_of_lt (Nat.zero_le j) hj)
  rw [voI_t h2]
  exact nI_add _ _
/-- names of table t: the value of series s -/
def MS.vn (x : MS) (t s k : Nat) : Nat × Nat × Bool := x.vo s (x.nameFroms (6 * t + k)) (x.nameLengths (6 * t + k))
def MS.cmR (x : MS) (t a b k : Nat) : Int32 := cmpT x.texts (x.vn t a k).1 (x.vn t a k).2.1 (x.vn t b k).1 (x.vn t b k).2.1
/-- two series by the names of a table, from name k on: the answer, the last length -/
def crG (cm : Nat → Int32) (vl : Nat → Nat) : Nat → Nat → Nat → Int32 × Nat
  | 0, _, v => (0, v)
  | w + 1, k, _ => if cm k = 0 then crG cm vl w (k + 1) (vl k) else (cm k, vl k)
theorem crG_0 {cm : Nat → Int32} {vl : Nat → Nat} {w k v : Nat} (hw : 0 < w) (h : cm k = 0) : crG cm vl w k v = crG cm vl (w - 1) (k + 1) (vl k) := by
  obtain ⟨d, rfl⟩ : ∃ d, w = d + 1 := ⟨w - 1, by omega⟩
  exact if_pos h
theorem crG_1 {cm : Nat → Int32} {vl : Nat → Nat} {w k v : Nat} (hw : 0 < w) (h : ¬ cm k = 0) : crG cm vl w k v = (cm k, vl k) := by
  obtain ⟨d, rfl⟩ : ∃ d, w = d + 1 := ⟨w - 1, by omega⟩
  exact if_neg h
def MS.crL (x : MS) (t b k : Nat) : Nat := (x.vn t b k).2.1
def MS.cr (x : MS) (t a b : Nat) : Int32 × Nat := crG (x.cmR t a b) (x.crL t b) (x.tableNames t) 0 x.valueLength
/-- are the names of table t on the tape -/
def MS.nOK (x : MS) (t : Nat) : Prop := t < 20 ∧ x.tableNames t ≤ 6 ∧ ∀ k : Nat, k < x.tableNames t → x.nameFroms (6 * t + k) + x.nameLengths (6 * t + k) ≤ 65536
theorem nI_inj {a b : Nat} (ha : a < 2 ^ 31) (hb : b < 2 ^ 31) (h : nI a = nI b) : a = b := by
  have h1 := congrArg Int32.toInt h
  rw [nI_toInt ha, nI_toInt hb] at h1
  omega
theorem sub_ne {a b : Int32} (h : ¬ a = b) : ¬ a - b = 0 := fun z => h (by
  have := congrArg (· + b) z
  simpa using this)
theorem cr_d {cm : Nat → Int32} {vl : Nat → Nat} {w k v : Nat} {p q : Int32} (hw : 0 < w) (h : cm k = p - q) (hn : ¬ p = q) : crG cm vl w k v = (p - q, vl k) := by
  rw [crG_1 hw (by rw [h]; exact sub_ne hn), h]
theorem cr_n {cm : Nat → Int32} {vl : Nat → Nat} {w k v n m : Nat} (hw : 0 < w) (h : cm k = nI n - nI m) (hn : n < 2 ^ 31) (hm : m < 2 ^ 31) (hne : ¬ n = m) : crG cm vl w k v = (nI n - nI m, vl k) := by
  rw [crG_1 hw (by rw [h]; exact sub_ne (fun z => hne (nI_inj hn hm z))), h]
theorem d_M_valueOf_0 : decode prog_14_method_65_code 0 = .ok (.aload_n 0, 1) := by decide +kernel
theorem d_M_valueOf_1 : decode prog_14_method_65_code 1 = .ok (.iconst 0, 1) := by decide +kernel
theorem d_M_valueOf_2 : decode prog_14_method_65_code 2 = .ok (.putfield 384, 3) := by decide +kernel
theorem d_M_valueOf_5 : decode prog_14_method_65_code 5 = .ok (.sipush 304, 3) := by decide +kernel
theorem d_M_valueOf_8 : decode prog_14_method_65_code 8 = .ok (.iload_n 1, 1) := by decide +kernel
theorem d_M_valueOf_9 : decode prog_14_method_65_code 9 = .ok (.imul, 1) := by decide +kernel
theorem d_M_valueOf_10 : decode prog_14_method_65_code 10 = .ok (.aload_n 0, 1) := by decide +kernel
theorem d_M_valueOf_11 : decode prog_14_method_65_code 11 = .ok (.getfield 32, 3) := by decide +kernel
theorem d_M_valueOf_14 : decode prog_14_method_65_code 14 = .ok (.iload_n 1, 1) := by decide +kernel
theorem d_M_valueOf_15 : decode prog_14_method_65_code 15 = .ok (.iaload, 1) := by decide +kernel
theorem d_M_valueOf_16 : decode prog_14_method_65_code 16 = .ok (.iadd, 1) := by decide +kernel
theorem d_M_valueOf_17 : decode prog_14_method_65_code 17 = .ok (.istore 4, 2) := by decide +kernel
theorem d_M_valueOf_19 : decode prog_14_method_65_code 19 = .ok (.sipush 304, 3) := by decide +kernel
theorem d_M_valueOf_22 : decode prog_14_method_65_code 22 = .ok (.iload_n 1, 1) := by decide +kernel
theorem d_M_valueOf_23 : decode prog_14_method_65_code 23 = .ok (.imul, 1) := by decide +kernel
theorem d_M_valueOf_24 : decode prog_14_method_65_code 24 = .ok (.istore 5, 2) := by decide +kernel
theorem d_M_valueOf_26 : decode prog_14_method_65_code 26 = .ok (.iload 5, 2) := by decide +kernel
theorem d_M_valueOf_28 : decode prog_14_method_65_code 28 = .ok (.iload 4, 2) := by decide +kernel
theorem d_M_valueOf_30 : decode prog_14_method_65_code 30 = .ok (.if_icmp .ge 149, 3) := by decide +kernel
theorem d_M_valueOf_179 : decode prog_14_method_65_code 179 = .ok (.iconst (-1), 1) := by decide +kernel
theorem d_M_valueOf_180 : decode prog_14_method_65_code 180 = .ok (.ireturn, 1) := by decide +kernel
theorem d_M_valueOf_33 : decode prog_14_method_65_code 33 = .ok (.iload 5, 2) := by decide +kernel
theorem d_M_valueOf_55 : decode prog_14_method_65_code 55 = .ok (.iload 6, 2) := by decide +kernel
theorem d_M_valueOf_98 : decode prog_14_method_65_code 98 = .ok (.istore 8, 2) := by decide +kernel
theorem d_M_valueOf_149 : decode prog_14_method_65_code 149 = .ok (.iload 8, 2) := by decide +kernel
theorem d_M_valueOf_151 : decode prog_14_method_65_code 151 = .ok (.ifCond .eq 19, 3) := by decide +kernel
theorem d_M_valueOf_170 : decode prog_14_method_65_code 170 = .ok (.iload 7, 2) := by decide +kernel
theorem d_M_valueOf_172 : decode prog_14_method_65_code 172 = .ok (.iconst 1, 1) := by decide +kernel
theorem d_M_valueOf_173 : decode prog_14_method_65_code 173 = .ok (.iadd, 1) := by decide +kernel
theorem d_M_valueOf_174 : decode prog_14_method_65_code 174 = .ok (.istore 5, 2) := by decide +kernel
theorem d_M_valueOf_176 : decode prog_14_method_65_code 176 = .ok (.goto (-150), 3) := by decide +kernel
theorem d_M_valueOf_154 : decode prog_14_method_65_code 154 = .ok (.aload_n 0, 1) := by decide +kernel
theorem d_M_valueOf_155 : decode prog_14_method_65_code 155 = .ok (.iload 7, 2) := by decide +kernel
theorem d_M_valueOf_157 : decode prog_14_method_65_code 157 = .ok (.iload 6, 2) := by decide +kernel
theorem d_M_valueOf_159 : decode prog_14_method_65_code 159 = .ok (.isub, 1) := by decide +kernel
theorem d_M_valueOf_160 : decode prog_14_method_65_code 160 = .ok (.iconst 1, 1) := by decide +kernel
theorem d_M_valueOf_161 : decode prog_14_method_65_code 161 = .ok (.isub, 1) := by decide +kernel
theorem d_M_valueOf_162 : decode prog_14_method_65_code 162 = .ok (.putfield 384, 3) := by decide +kernel
theorem d_M_valueOf_165 : decode prog_14_method_65_code 165 = .ok (.iload 6, 2) := by decide +kernel
theorem d_M_valueOf_167 : decode prog_14_method_65_code 167 = .ok (.iconst 1, 1) := by decide +kernel
theorem d_M_valueOf_168 : decode prog_14_method_65_code 168 = .ok (.iadd, 1) := by decide +kernel
theorem d_M_valueOf_169 : decode prog_14_method_65_code 169 = .ok (.ireturn, 1) := by decide +kernel
theorem d_M_valueOf_100 : decode prog_14_method_65_code 100 = .ok (.iconst 0, 1) := by decide +kernel
theorem d_M_valueOf_101 : decode prog_14_method_65_code 101 = .ok (.istore 9, 2) := by decide +kernel
theorem d_M_valueOf_103 : decode prog_14_method_65_code 103 = .ok (.iload 9, 2) := by decide +kernel
theorem d_M_valueOf_105 : decode prog_14_method_65_code 105 = .ok (.iload_n 3, 1) := by decide +kernel
theorem d_M_valueOf_106 : decode prog_14_method_65_code 106 = .ok (.if_icmp .ge 43, 3) := by decide +kernel
theorem d_M_valueOf_109 : decode prog_14_method_65_code 109 = .ok (.iload 8, 2) := by decide +kernel
theorem d_M_valueOf_111 : decode prog_14_method_65_code 111 = .ok (.ifCond .eq 38, 3) := by decide +kernel
theorem d_M_valueOf_114 : decode prog_14_method_65_code 114 = .ok (.aload_n 0, 1) := by decide +kernel
theorem d_M_valueOf_115 : decode prog_14_method_65_code 115 = .ok (.getfield 29, 3) := by decide +kernel
theorem d_M_valueOf_118 : decode prog_14_method_65_code 118 = .ok (.iload 5, 2) := by decide +kernel
theorem d_M_valueOf_120 : decode prog_14_method_65_code 120 = .ok (.iload 9, 2) := by decide +kernel
theorem d_M_valueOf_122 : decode prog_14_method_65_code 122 = .ok (.iadd, 1) := by decide +kernel
theorem d_M_valueOf_123 : decode prog_14_method_65_code 123 = .ok (.baload, 1) := by decide +kernel
theorem d_M_valueOf_124 : decode prog_14_method_65_code 124 = .ok (.aload_n 0, 1) := by decide +kernel
theorem d_M_valueOf_125 : decode prog_14_method_65_code 125 = .ok (.getfield 8, 3) := by decide +kernel
theorem d_M_valueOf_128 : decode prog_14_method_65_code 128 = .ok (.iload_n 2, 1) := by decide +kernel
theorem d_M_valueOf_129 : decode prog_14_method_65_code 129 = .ok (.iload 9, 2) := by decide +kernel
theorem d_M_valueOf_131 : decode prog_14_method_65_code 131 = .ok (.iadd, 1) := by decide +kernel
theorem d_M_valueOf_132 : decode prog_14_method_65_code 132 = .ok (.baload, 1) := by decide +kernel
theorem d_M_valueOf_133 : decode prog_14_method_65_code 133 = .ok (.if_icmp .ne 7, 3) := by decide +kernel
theorem d_M_valueOf_140 : decode prog_14_method_65_code 140 = .ok (.iconst 0, 1) := by decide +kernel
theorem d_M_valueOf_141 : decode prog_14_method_65_code 141 = .ok (.istore 8, 2) := by decide +kernel
theorem d_M_valueOf_143 : decode prog_14_method_65_code 143 = .ok (.iinc 9 1, 3) := by decide +kernel
theorem d_M_valueOf_146 : decode prog_14_method_65_code 146 = .ok (.goto (-43), 3) := by decide +kernel
theorem d_M_valueOf_136 : decode prog_14_method_65_code 136 = .ok (.iconst 1, 1) := by decide +kernel
theorem d_M_valueOf_137 : decode prog_14_method_65_code 137 = .ok (.goto 4, 3) := by decide +kernel
theorem d_M_valueOf_84 : decode prog_14_method_65_code 84 = .ok (.iload 6, 2) := by decide +kernel
theorem d_M_valueOf_86 : decode prog_14_method_65_code 86 = .ok (.iload 5, 2) := by decide +kernel
theorem d_M_valueOf_88 : decode prog_14_method_65_code 88 = .ok (.isub, 1) := by decide +kernel
theorem d_M_valueOf_89 : decode prog_14_method_65_code 89 = .ok (.iload_n 3, 1) := by decide +kernel
theorem d_M_valueOf_90 : decode prog_14_method_65_code 90 = .ok (.if_icmp .ne 7, 3) := by decide +kernel
theorem d_M_valueOf_97 : decode prog_14_method_65_code 97 = .ok (.iconst 0, 1) := by decide +kernel
theorem d_M_valueOf_93 : decode prog_14_method_65_code 93 = .ok (.iconst 1, 1) := by decide +kernel
theorem d_M_valueOf_94 : decode prog_14_method_65_code 94 = .ok (.goto 4, 3) := by decide +kernel
theorem d_M_valueOf_57 : decode prog_14_method_65_code 57 = .ok (.istore 7, 2) := by decide +kernel
theorem d_M_valueOf_59 : decode prog_14_method_65_code 59 = .ok (.iload 7, 2) := by decide +kernel
theorem d_M_valueOf_61 : decode prog_14_method_65_code 61 = .ok (.iload 4, 2) := by decide +kernel
theorem d_M_valueOf_63 : decode prog_14_method_65_code 63 = .ok (.if_icmp .ge 21, 3) := by decide +kernel
theorem d_M_valueOf_66 : decode prog_14_method_65_code 66 = .ok (.aload_n 0, 1) := by decide +kernel
theorem d_M_valueOf_67 : decode prog_14_method_65_code 67 = .ok (.getfield 29, 3) := by decide +kernel
theorem d_M_valueOf_70 : decode prog_14_method_65_code 70 = .ok (.iload 7, 2) := by decide +kernel
theorem d_M_valueOf_72 : decode prog_14_method_65_code 72 = .ok (.baload, 1) := by decide +kernel
theorem d_M_valueOf_73 : decode prog_14_method_65_code 73 = .ok (.bipush 44, 2) := by decide +kernel
theorem d_M_valueOf_75 : decode prog_14_method_65_code 75 = .ok (.if_icmp .eq 9, 3) := by decide +kernel
theorem d_M_valueOf_78 : decode prog_14_method_65_code 78 = .ok (.iinc 7 1, 3) := by decide +kernel
theorem d_M_valueOf_81 : decode prog_14_method_65_code 81 = .ok (.goto (-22), 3) := by decide +kernel
theorem d_M_valueOf_35 : decode prog_14_method_65_code 35 = .ok (.istore 6, 2) := by decide +kernel
theorem d_M_valueOf_37 : decode prog_14_method_65_code 37 = .ok (.aload_n 0, 1) := by decide +kernel
theorem d_M_valueOf_38 : decode prog_14_method_65_code 38 = .ok (.getfield 29, 3) := by decide +kernel
theorem d_M_valueOf_41 : decode prog_14_method_65_code 41 = .ok (.iload 6, 2) := by decide +kernel
theorem d_M_valueOf_43 : decode prog_14_method_65_code 43 = .ok (.baload, 1) := by decide +kernel
theorem d_M_valueOf_44 : decode prog_14_method_65_code 44 = .ok (.bipush 61, 2) := by decide +kernel
theorem d_M_valueOf_46 : decode prog_14_method_65_code 46 = .ok (.if_icmp .eq 9, 3) := by decide +kernel
theorem d_M_valueOf_49 : decode prog_14_method_65_code 49 = .ok (.iinc 6 1, 3) := by decide +kernel
theorem d_M_valueOf_52 : decode prog_14_method_65_code 52 = .ok (.goto (-15), 3) := by decide +kernel
theorem w977 : Cond.fieldLink "SeriesVaultModel" 384 "SeriesVaultModel" "valueLength" "I" ∈ aW := aw_of (tb_8 (List.mem_of_getElem? (i := 234) rfl)) rfl
set_option maxHeartbeats 4000000 in
set_option maxRecDepth 100000 in
theorem k_valueOf (l : Launch) (D : va_G) (dA : Nat → ClassId) (sz : Nat) (h : Nat) (ad : Nat → Nat) (x : MS) (s7 : Nat) (nm : Nat) (n : Nat) (hok : x.tOK s7) (hnm : nm + n ≤ 65536) : Met l ⟨"SeriesVaultModel", "valueOf", "(III)I"⟩ [Cond.code ⟨"SeriesVaultModel", "valueOf", "(III)I"⟩ prog_14_method_65_code 10 (some FieldType.int)] { frames := 1, cells := 0, slots := 0, locals := 0 } (pC D dA [.ref h, .int (nI s7), .int (nI nm), .int (nI n)] (MW dA h ad x) sz) (va_Qi (fun (r9 : Int32) (u9 : Unit) => r9 = voI (x.vo s7 nm n)) (fun (u9 : Unit) t9 => bW D (va_A (MW dA h ad x) sz) (MW dA h ad (MS.s_valueLength x ((x.vo s7 nm n).2.1))) t9) (va_A (MW dA h ad x) sz)) 0 0 (va_A (MW dA h ad x) sz) := by
  refine mkC (y := ⟨"SeriesVaultModel", "valueOf", "(III)I"⟩) (cc := prog_14_method_65_code) (maxL := 10) (av := [.ref h, .int (nI s7), .int (nI nm), .int (nI n)]) (ws := MW dA h ad x) (sz := sz) (Qc := fun A => va_Qi (fun (r9 : Int32) (u9 : Unit) => r9 = voI (x.vo s7 nm n)) (fun (u9 : Unit) t9 => bW D A (MW dA h ad (MS.s_valueLength x ((x.vo s7 nm n).2.1))) t9) A) (by decide) (Nat.le_of_ble_eq_true rfl) ?_
  intro A p e s m below meth c ls hsz hB
  obtain ⟨hx, hb, hr, hml, hown, hin, hlk, hE, hK, hP, hD, hS, hA, hN, hl⟩ := hB
  have hown : s.vm.findClass "SeriesVaultModel" = some m.cls := hown
  have hl : lv_has ls 10 [(0, .ref h), (1, .int (nI s7)), (2, .int (nI nm)), (3, .int (nI n))] := hl
  obtain ⟨H, hH⟩ : ∃ z, z = s.heap := ⟨_, rfl⟩
  have hP : va_P D vwCl (MW dA h ad x) H := by rw [hH]; exact hP
  have hS : va_S A s.heap H [] := by rw [hH]; exact hS
  rw [← hH]
  obtain ⟨hs7, htl, htx⟩ := hok
  refine lv_aload_n hx hb d_M_valueOf_0 rfl (lv_at hl 0 rfl) ?_
  refine lv_iconst (v := 0) hx hb d_M_valueOf_1 (by decide) ?_
  refine pF (v := .int (nI 0)) hx hb hown hE hK hP hD hS 0 rfl rfl layM tyM tokM nmM 60 (by decide) w977 rfl rfl rfl (Nat.le_of_ble_eq_true rfl) d_M_valueOf_2 (fun H locs hP hD hS => ?_)
  have hP : va_P D vwCl (MW dA h ad (MS.s_valueLength x 0)) H := hP
  have hD : va_D A (MW dA h ad (MS.s_valueLength x 0)) := hD
  refine lv_sipush (v := 304) hx hb d_M_valueOf_5 (by decide) ?_
  refine lv_iload_n hx hb d_M_valueOf_8 rfl (lv_at hl 1 rfl) ?_
  refine lv_imul hx hb d_M_valueOf_9 (tpi (y := nI (304 * s7)) (pk_mul (304) (s7)) ?_)
  refine lv_aload_n hx hb d_M_valueOf_10 rfl (lv_at hl 0 rfl) ?_
  refine gF (v := .ref (ad 11)) hx hb hown hE hK hP 0 rfl rfl layM 11 (by decide) w500 rfl d_M_valueOf_11 ?_
  refine lv_iload_n hx hb d_M_valueOf_14 rfl (lv_at hl 1 rfl) ?_
  refine nild (f := (fun z9 => nI (x.textLengths z9))) hx hb hK hP 3 1 rfl rfl (s7) (by omega) (by decide) d_M_valueOf_15 ?_
  refine lv_iadd hx hb d_M_valueOf_16 (tpi (y := nI ((304 * s7) + (x.textLengths s7))) (nI_add (304 * s7) (x.textLengths s7)) ?_)
  refine lv_istore hx hb d_M_valueOf_17 hl (by decide) rfl (fun ls hl => ?_)
  have hl : lv_has ls 10 [(4, .int (nI ((304 * s7) + (x.textLengths s7)))), (0, .ref h), (1, .int (nI s7)), (2, .int (nI nm)), (3, .int (nI n))] := hl
  refine lv_sipush (v := 304) hx hb d_M_valueOf_19 (by decide) ?_
  refine lv_iload_n hx hb d_M_valueOf_22 rfl (lv_at hl 2 rfl) ?_
  refine lv_imul hx hb d_M_valueOf_23 (tpi (y := nI (304 * s7)) (pk_mul (304) (s7)) ?_)
  refine lv_istore hx hb d_M_valueOf_24 hl (by decide) rfl (fun ls hl => ?_)
  have hl : lv_has ls 10 [(5, .int (nI (304 * s7))), (4, .int (nI ((304 * s7) + (x.textLengths s7)))), (0, .ref h), (1, .int (nI s7)), (2, .int (nI nm)), (3, .int (nI n))] := hl
  have L26 : ∀ (k9 : Nat) (k : Nat) (w : Nat) (i1 : voG x.texts x.tape (304 * s7 + x.textLengths s7) nm n w k = x.vo s7 nm n) (i2 : txOK x.texts (304 * s7 + x.textLengths s7) w k = true) (i3 : k ≤ 77825) (hk9 : w = k9), ∀ (H : Heap) (locs : List Loc) (ls : Array Slot) (hP : va_P D vwCl (MW dA h ad (MS.s_valueLength x 0)) H) (hD : va_D A (MW dA h ad (MS.s_valueLength x 0))) (hS : va_S A s.heap H locs) (hl : lv_has ls 10 [(5, .int (nI k)), (1, .int (nI s7)), (2, .int (nI nm)), (3, .int (nI n)), (0, .ref h), (4, .int (nI (304 * s7 + x.textLengths s7)))]), W p l e ({ frames := 1, cells := 0, slots := 0, locals := 0 } : Room) s m ([.ref h, .int (nI s7), .int (nI nm), .int (nI n)] : List Value).toArray below meth c H locs 0 0 (MQ below (va_Qi (fun (r9 : Int32) (u9 : Unit) => r9 = voI (x.vo s7 nm n)) (fun (u9 : Unit) t9 => bW D A (MW dA h ad (MS.s_valueLength x ((x.vo s7 nm n).2.1))) t9) A) ([.ref h, .int (nI s7), .int (nI nm), .int (nI n)] : List Value).toArray s 0 0 A) (F0 m 26 ls []) := by
    intro k9
    induction k9 using Nat.strongRecOn with
    | ind k9 ih26 =>
      intro k w i1 i2 i3 hk9 H locs ls hP hD hS hl
      refine lv_iload hx hb d_M_valueOf_26 (lv_at hl 0 rfl) ?_
      refine lv_iload hx hb d_M_valueOf_28 (lv_at hl 5 rfl) ?_
      refine lv_icmp_ge hx hb d_M_valueOf_30 (tgt := 179) rfl (fun g1 => ?_) (fun g1 => ?_)
      · have g1 := (nI_leI (a := 304 * s7 + x.textLengths s7) (b := k) (by omega) (by omega)).mp g1
        have ve : x.vo s7 nm n = (0, 0, false) := i1.symm.trans (voG_e (by omega))
        refine lv_iconst (v := (-1)) hx hb d_M_valueOf_179 (by decide) ?_
        have e9 : (MS.s_valueLength x 0 : MS) = MS.s_valueLength x ((x.vo s7 nm n).2.1) := by rw [show ((x.vo s7 nm n).2.1) = 0 from by (rw [ve])] <;> rfl
        exact rfI hx hb hr hlk hS () (by rw [ve]; rfl) (cvP e9 hP) (cvD e9 hD) (Nat.le_of_ble_eq_true rfl) (Nat.le_of_ble_eq_true rfl) d_M_valueOf_180
      · have g1 := mt (nI_leI (a := 304 * s7 + x.textLengths s7) (b := k) (by omega) (by omega)).mpr g1
        have gk : ¬ (304 * s7 + x.textLengths s7) ≤ k := by omega
        obtain ⟨w1, w2, _, w3⟩ := tx_pos i2 gk
        refine lv_iload hx hb d_M_valueOf_33 (lv_at hl 0 rfl) ?_
        have J55 : ∀ (q : Nat) (e1 : eqP x.texts (304 * s7 + x.textLengths s7) k = q) (e4 : x.texts q = 61), ∀ (H : Heap) (locs : List Loc) (ls : Array Slot) (hP : va_P D vwCl (MW dA h ad (MS.s_valueLength x 0)) H) (hD : va_D A (MW dA h ad (MS.s_valueLength x 0))) (hS : va_S A s.heap H locs) (hl : lv_has ls 10 [(6, .int (nI q)), (5, .int (nI k)), (1, .int (nI s7)), (2, .int (nI nm)), (3, .int (nI n)), (0, .ref h), (4, .int (nI (304 * s7 + x.textLengths s7)))]), W p l e ({ frames := 1, cells := 0, slots := 0, locals := 0 } : Room) s m ([.ref h, .int (nI s7), .int (nI nm), .int (nI n)] : List Value).toArray below meth c H locs 0 0 (MQ below (va_Qi (fun (r9 : Int32) (u9 : Unit) => r9 = voI (x.vo s7 nm n)) (fun (u9 : Unit) t9 => bW D A (MW dA h ad (MS.s_valueLength x ((x.vo s7 nm n).2.1))) t9) A) ([.ref h, .int (nI s7), .int (nI nm), .int (nI n)] : List Value).toArray s 0 0 A) (F0 m 55 ls []) := by
          intro q e1 e4 H locs ls hP hD hS hl
          have e2 : k ≤ q := by rw [← e1]; exact fbG_ge
          have e3 : q < (304 * s7 + x.textLengths s7) := by rw [← e1]; exact w2
          refine lv_iload hx hb d_M_valueOf_55 (lv_at hl 0 rfl) ?_
          have J84 : ∀ (r : Nat) (c1 : cmP x.texts (304 * s7 + x.textLengths s7) q = r) (c2 : r ≤ (304 * s7 + x.textLengths s7)) (c3 : q < r), ∀ (H : Heap) (locs : List Loc) (ls : Array Slot) (hP : va_P D vwCl (MW dA h ad (MS.s_valueLength x 0)) H) (hD : va_D A (MW dA h ad (MS.s_valueLength x 0))) (hS : va_S A s.heap H locs) (hl : lv_has ls 10 [(7, .int (nI r)), (6, .int (nI q)), (5, .int (nI k)), (1, .int (nI s7)), (2, .int (nI nm)), (3, .int (nI n)), (0, .ref h), (4, .int (nI (304 * s7 + x.textLengths s7)))]), W p l e ({ frames := 1, cells := 0, slots := 0, locals := 0 } : Room) s m ([.ref h, .int (nI s7), .int (nI nm), .int (nI n)] : List Value).toArray below meth c H locs 0 0 (MQ below (va_Qi (fun (r9 : Int32) (u9 : Unit) => r9 = voI (x.vo s7 nm n)) (fun (u9 : Unit) t9 => bW D A (MW dA h ad (MS.s_valueLength x ((x.vo s7 nm n).2.1))) t9) A) ([.ref h, .int (nI s7), .int (nI nm), .int (nI n)] : List Value).toArray s 0 0 A) (F0 m 84 ls []) := by
            intro r c1 c2 c3 H locs ls hP hD hS hl
            have J98 : ∀ (v : Bool) (v1 : decide (q - k = n) = v), ∀ (H : Heap) (locs : List Loc) (ls : Array Slot) (hP : va_P D vwCl (MW dA h ad (MS.s_valueLength x 0)) H) (hD : va_D A (MW dA h ad (MS.s_valueLength x 0))) (hS : va_S A s.heap H locs) (hl : lv_has ls 10 [(7, .int (nI r)), (6, .int (nI q)), (5, .int (nI k)), (1, .int (nI s7)), (2, .int (nI nm)), (3, .int (nI n)), (0, .ref h), (4, .int (nI (304 * s7 + x.textLengths s7)))]), W p l e ({ frames := 1, cells := 0, slots := 0, locals := 0 } : Room) s m ([.ref h, .int (nI s7), .int (nI nm), .int (nI n)] : List Value).toArray below meth c H locs 0 0 (MQ below (va_Qi (fun (r9 : Int32) (u9 : Unit) => r9 = voI (x.vo s7 nm n)) (fun (u9 : Unit) t9 => bW D A (MW dA h ad (MS.s_valueLength x ((x.vo s7 nm n).2.1))) t9) A) ([.ref h, .int (nI s7), .int (nI nm), .int (nI n)] : List Value).toArray s 0 0 A) (F0 m 98 ls [.int (bI v)]) := by
              intro v v1 H locs ls hP hD hS hl
              refine lv_istore hx hb d_M_valueOf_98 hl (by decide) rfl (fun ls hl => ?_)
              have hl : lv_has ls 10 [(8, .int (bI v)), (7, .int (nI r)), (6, .int (nI q)), (5, .int (nI k)), (1, .int (nI s7)), (2, .int (nI nm)), (3, .int (nI n)), (0, .ref h), (4, .int (nI (304 * s7 + x.textLengths s7)))] := hl
              have J149 : ∀ (v : Bool) (m5 : voM x.texts x.tape (304 * s7 + x.textLengths s7) nm n k = v), ∀ (H : Heap) (locs : List Loc) (ls : Array Slot) (hP : va_P D vwCl (MW dA h ad (MS.s_valueLength x 0)) H) (hD : va_D A (MW dA h ad (MS.s_valueLength x 0))) (hS : va_S A s.heap H locs) (hl : lv_has ls 10 [(8, .int (bI v)), (7, .int (nI r)), (6, .int (nI q)), (5, .int (nI k)), (1, .int (nI s7)), (2, .int (nI nm)), (3, .int (nI n)), (0, .ref h), (4, .int (nI (304 * s7 + x.textLengths s7)))]), W p l e ({ frames := 1, cells := 0, slots := 0, locals := 0 } : Room) s m ([.ref h, .int (nI s7), .int (nI nm), .int (nI n)] : List Value).toArray below meth c H locs 0 0 (MQ below (va_Qi (fun (r9 : Int32) (u9 : Unit) => r9 = voI (x.vo s7 nm n)) (fun (u9 : Unit) t9 => bW D A (MW dA h ad (MS.s_valueLength x ((x.vo s7 nm n).2.1))) t9) A) ([.ref h, .int (nI s7), .int (nI nm), .int (nI n)] : List Value).toArray s 0 0 A) (F0 m 149 ls []) := by
                intro v m5 H locs ls hP hD hS hl
                refine lv_iload hx hb d_M_valueOf_149 (lv_at hl 0 rfl) ?_
                refine lv_if_eq hx hb d_M_valueOf_151 (tgt := 170) rfl (fun g2 => ?_) (fun g2 => ?_)
                · have g2 := bI_0 g2
                  refine lv_iload hx hb d_M_valueOf_170 (lv_at hl 1 rfl) ?_
                  refine lv_iconst (v := 1) hx hb d_M_valueOf_172 (by decide) ?_
                  refine lv_iadd hx hb d_M_valueOf_173 (tpi (y := nI (r + 1)) (nI_add (r) (1)) ?_)
                  refine lv_istore hx hb d_M_valueOf_174 hl (by decide) rfl (fun ls hl => ?_)
                  have hl : lv_has ls 10 [(5, .int (nI (r + 1))), (8, .int (bI v)), (7, .int (nI r)), (6, .int (nI q)), (1, .int (nI s7)), (2, .int (nI nm)), (3, .int (nI n)), (0, .ref h), (4, .int (nI (304 * s7 + x.textLengths s7)))] := hl
                  refine lv_goto hx hb d_M_valueOf_176 (tgt := 26) rfl ?_
                  exact ih26 _ (by omega) (r + 1) (w - 1) (by rw [← i1, voG_f w1 gk e1 c1 (m5.trans g2)]) (by rw [← c1, ← e1]; exact w3) (by omega) rfl H _ ls hP hD hS (lv_sub hl [0, 4, 5, 6, 7, 8] rfl)
                · have g2 := bI_n0 g2
                  have ve : x.vo s7 nm n = (q + 1, r - q - 1, true) := i1.symm.trans (voG_t w1 gk e1 c1 (m5.trans g2))
                  refine lv_aload_n hx hb d_M_valueOf_154 rfl (lv_at hl 7 rfl) ?_
                  refine lv_iload hx hb d_M_valueOf_155 (lv_at hl 1 rfl) ?_
                  refine lv_iload hx hb d_M_valueOf_157 (lv_at hl 2 rfl) ?_
                  refine lv_isub hx hb d_M_valueOf_159 (tpi (y := nI (r - q)) (pk_sub (a := r) (b := q) (by omega)) ?_)
                  refine lv_iconst (v := 1) hx hb d_M_valueOf_160 (by decide) ?_
                  refine lv_isub hx hb d_M_valueOf_161 (tpi (y := nI ((r - q) - 1)) (pk_sub (a := r - q) (b := 1) (by omega)) ?_)
                  refine pF (v := .int (nI ((r - q) - 1))) hx hb hown hE hK hP hD hS 0 rfl rfl layM tyM tokM nmM 60 (by decide) w977 rfl rfl rfl (Nat.le_of_ble_eq_true rfl) d_M_valueOf_162 (fun H locs hP hD hS => ?_)
                  have hP : va_P D vwCl (MW dA h ad (MS.s_valueLength x ((r - q) - 1))) H := hP
                  have hD : va_D A (MW dA h ad (MS.s_valueLength x ((r - q) - 1))) := hD
                  refine lv_iload hx hb d_M_valueOf_165 (lv_at hl 2 rfl) ?_
                  refine lv_iconst (v := 1) hx hb d_M_valueOf_167 (by decide) ?_
                  refine lv_iadd hx hb d_M_valueOf_168 (tpi (y := nI (q + 1)) (nI_add (q) (1)) ?_)
                  have e9 : (MS.s_valueLength x ((r - q) - 1) : MS) = MS.s_valueLength x ((x.vo s7 nm n).2.1) := by rw [show ((x.vo s7 nm n).2.1) = ((r - q) - 1) from by (rw [ve])] <;> rfl
                  exact rfI hx hb hr hlk hS () (by rw [ve]; rfl) (cvP e9 hP) (cvD e9 hD) (Nat.le_of_ble_eq_true rfl) (Nat.le_of_ble_eq_true rfl) d_M_valueOf_169
              refine lv_iconst (v := 0) hx hb d_M_valueOf_100 (by decide) ?_
              refine lv_istore hx hb d_M_valueOf_101 hl (by decide) rfl (fun ls hl => ?_)
              have hl : lv_has ls 10 [(9, .int 0), (8, .int (bI v)), (7, .int (nI r)), (6, .int (nI q)), (5, .int (nI k)), (1, .int (nI s7)), (2, .int (nI nm)), (3, .int (nI n)), (0, .ref h), (4, .int (nI (304 * s7 + x.textLengths s7)))] := hl
              have L103 : ∀ (k9 : Nat) (j : Nat) (v : Bool) (m1 : j ≤ n) (m2 : (decide (q - k = n) && allB j (txEq x.texts x.tape k nm)) = v) (hk9 : n - j = k9), ∀ (H : Heap) (locs : List Loc) (ls : Array Slot) (hP : va_P D vwCl (MW dA h ad (MS.s_valueLength x 0)) H) (hD : va_D A (MW dA h ad (MS.s_valueLength x 0))) (hS : va_S A s.heap H locs) (hl : lv_has ls 10 [(9, .int (nI j)), (8, .int (bI v)), (7, .int (nI r)), (6, .int (nI q)), (5, .int (nI k)), (1, .int (nI s7)), (2, .int (nI nm)), (3, .int (nI n)), (0, .ref h), (4, .int (nI (304 * s7 + x.textLengths s7)))]), W p l e ({ frames := 1, cells := 0, slots := 0, locals := 0 } : Room) s m ([.ref h, .int (nI s7), .int (nI nm), .int (nI n)] : List Value).toArray below meth c H locs 0 0 (MQ below (va_Qi (fun (r9 : Int32) (u9 : Unit) => r9 = voI (x.vo s7 nm n)) (fun (u9 : Unit) t9 => bW D A (MW dA h ad (MS.s_valueLength x ((x.vo s7 nm n).2.1))) t9) A) ([.ref h, .int (nI s7), .int (nI nm), .int (nI n)] : List Value).toArray s 0 0 A) (F0 m 103 ls []) := by
                intro k9
                induction k9 using Nat.strongRecOn with
                | ind k9 ih103 =>
                  intro j v m1 m2 hk9 H locs ls hP hD hS hl
                  refine lv_iload hx hb d_M_valueOf_103 (lv_at hl 0 rfl) ?_
                  refine lv_iload_n hx hb d_M_valueOf_105 rfl (lv_at hl 7 rfl) ?_
                  refine lv_icmp_ge hx hb d_M_valueOf_106 (tgt := 149) rfl (fun g3 => ?_) (fun g3 => ?_)
                  · have g3 := (nI_leI (a := n) (b := j) (by omega) (by omega)).mp g3
                    exact J149 v (by unfold voM; rw [e1]; exact and_end m1 m2 (Or.inl (by omega))) H _ ls hP hD hS (lv_sub hl [1, 2, 3, 4, 5, 6, 7, 8, 9] rfl)
                  · have g3 := mt (nI_leI (a := n) (b := j) (by omega) (by omega)).mpr g3
                    refine lv_iload hx hb d_M_valueOf_109 (lv_at hl 1 rfl) ?_
                    refine lv_if_eq hx hb d_M_valueOf_111 (tgt := 149) rfl (fun g4 => ?_) (fun g4 => ?_)
                    · have g4 := bI_0 g4
                      exact J149 v (by unfold voM; rw [e1]; exact and_end m1 m2 (Or.inr g4)) H _ ls hP hD hS (lv_sub hl [1, 2, 3, 4, 5, 6, 7, 8, 9] rfl)
                    · have g4 := bI_n0 g4
                      have l5 : q - k = n := of_decide_eq_true (and_l m2 g4)
                      refine lv_aload_n hx hb d_M_valueOf_114 rfl (lv_at hl 8 rfl) ?_
                      refine gF (v := .ref (ad 10)) hx hb hown hE hK hP 0 rfl rfl layM 10 (by decide) w499 rfl d_M_valueOf_115 ?_
                      refine lv_iload hx hb d_M_valueOf_118 (lv_at hl 4 rfl) ?_
                      refine lv_iload hx hb d_M_valueOf_120 (lv_at hl 0 rfl) ?_
                      refine lv_iadd hx hb d_M_valueOf_122 (tpi (y := nI (k + j)) (nI_add (k) (j)) ?_)
                      refine nbld (f := x.texts) hx hb hK hP 2 0 rfl rfl (k + j) (by omega) (by decide) d_M_valueOf_123 ?_
                      refine lv_aload_n hx hb d_M_valueOf_124 rfl (lv_at hl 8 rfl) ?_
                      refine gF (v := .ref (ad 1)) hx hb hown hE hK hP 0 rfl rfl layM 1 (by decide) w497 rfl d_M_valueOf_125 ?_
                      refine lv_iload_n hx hb d_M_valueOf_128 rfl (lv_at hl 6 rfl) ?_
                      refine lv_iload hx hb d_M_valueOf_129 (lv_at hl 0 rfl) ?_
                      refine lv_iadd hx hb d_M_valueOf_131 (tpi (y := nI (nm + j)) (nI_add (nm) (j)) ?_)
                      refine nbld (f := x.tape) hx hb hK hP 1 0 rfl rfl (nm + j) (by omega) (by decide) d_M_valueOf_132 ?_
                      refine lv_icmp_ne hx hb d_M_valueOf_133 (tgt := 140) rfl (fun g5 => ?_) (fun g5 => ?_)
                      · have g5 := g5
                        refine lv_iconst (v := 0) hx hb d_M_valueOf_140 (by decide) ?_
                        refine lv_istore hx hb d_M_valueOf_141 hl (by decide) rfl (fun ls hl => ?_)
                        have hl : lv_has ls 10 [(8, .int 0), (9, .int (nI j)), (7, .int (nI r)), (6, .int (nI q)), (5, .int (nI k)), (1, .int (nI s7)), (2, .int (nI nm)), (3, .int (nI n)), (0, .ref h), (4, .int (nI (304 * s7 + x.textLengths s7)))] := hl
                        refine lv_iinc (k := 1) (v := nI (j + 1)) hx hb d_M_valueOf_143 hl rfl (iincN (j) 1 1 (by decide)) (by decide) rfl (fun ls hl => ?_)
                        have hl : lv_has ls 10 [(9, .int (nI (j + 1))), (8, .int 0), (7, .int (nI r)), (6, .int (nI q)), (5, .int (nI k)), (1, .int (nI s7)), (2, .int (nI nm)), (3, .int (nI n)), (0, .ref h), (4, .int (nI (304 * s7 + x.textLengths s7)))] := hl
                        refine lv_goto hx hb d_M_valueOf_146 (tgt := 103) rfl ?_
                        exact ih103 _ (by omega) (j + 1) false (by omega) (by rw [allB_s, ← Bool.and_assoc, m2, g4]; exact decide_eq_false g5) rfl H _ ls hP hD hS (lv_sub hl [0, 1, 2, 3, 4, 5, 6, 7, 8, 9] rfl)
                      · have g5 := g5
                        refine lv_iconst (v := 1) hx hb d_M_valueOf_136 (by decide) ?_
                        refine lv_goto hx hb d_M_valueOf_137 (tgt := 141) rfl ?_
                        refine lv_istore hx hb d_M_valueOf_141 hl (by decide) rfl (fun ls hl => ?_)
                        have hl : lv_has ls 10 [(8, .int 1), (9, .int (nI j)), (7, .int (nI r)), (6, .int (nI q)), (5, .int (nI k)), (1, .int (nI s7)), (2, .int (nI nm)), (3, .int (nI n)), (0, .ref h), (4, .int (nI (304 * s7 + x.textLengths s7)))] := hl
                        refine lv_iinc (k := 1) (v := nI (j + 1)) hx hb d_M_valueOf_143 hl rfl (iincN (j) 1 1 (by decide)) (by decide) rfl (fun ls hl => ?_)
                        have hl : lv_has ls 10 [(9, .int (nI (j + 1))), (8, .int 1), (7, .int (nI r)), (6, .int (nI q)), (5, .int (nI k)), (1, .int (nI s7)), (2, .int (nI nm)), (3, .int (nI n)), (0, .ref h), (4, .int (nI (304 * s7 + x.textLengths s7)))] := hl
                        refine lv_goto hx hb d_M_valueOf_146 (tgt := 103) rfl ?_
                        exact ih103 _ (by omega) (j + 1) true (by omega) (by rw [allB_s, ← Bool.and_assoc, m2, g4]; exact decide_eq_true g5) rfl H _ ls hP hD hS (lv_sub hl [0, 1, 2, 3, 4, 5, 6, 7, 8, 9] rfl)
              exact L103 _ 0 v (Nat.zero_le _) (by rw [v1]; exact Bool.and_true _) rfl H _ ls hP hD hS (lv_sub hl [0, 1, 2, 3, 4, 5, 6, 7, 8, 9] rfl)
            refine lv_iload hx hb d_M_valueOf_84 (lv_at hl 1 rfl) ?_
            refine lv_iload hx hb d_M_valueOf_86 (lv_at hl 2 rfl) ?_
            refine lv_isub hx hb d_M_valueOf_88 (tpi (y := nI (q - k)) (pk_sub (a := q) (b := k) (by omega)) ?_)
            refine lv_iload_n hx hb d_M_valueOf_89 rfl (lv_at hl 5 rfl) ?_
            refine lv_icmp_ne hx hb d_M_valueOf_90 (tgt := 97) rfl (fun g6 => ?_) (fun g6 => ?_)
            · have g6 := mt (nI_eq (a := q - k) (b := n) (by omega) (by omega)).mpr g6
              refine lv_iconst (v := 0) hx hb d_M_valueOf_97 (by decide) ?_
              exact J98 false (decide_eq_false g6) H _ ls hP hD hS (lv_sub hl [0, 1, 2, 3, 4, 5, 6, 7] rfl)
            · have g6 := (nI_eq (a := q - k) (b := n) (by omega) (by omega)).mp g6
              refine lv_iconst (v := 1) hx hb d_M_valueOf_93 (by decide) ?_
              refine lv_goto hx hb d_M_valueOf_94 (tgt := 98) rfl ?_
              exact J98 true (decide_eq_true g6) H _ ls hP hD hS (lv_sub hl [0, 1, 2, 3, 4, 5, 6, 7] rfl)
          refine lv_istore hx hb d_M_valueOf_57 hl (by decide) rfl (fun ls hl => ?_)
          have hl : lv_has ls 10 [(7, .int (nI q)), (6, .int (nI q)), (5, .int (nI k)), (1, .int (nI s7)), (2, .int (nI nm)), (3, .int (nI n)), (0, .ref h), (4, .int (nI (304 * s7 + x.textLengths s7)))] := hl
          have L59 : ∀ (k9 : Nat) (r : Nat) (r1 : fbG x.texts 44 (304 * s7 + x.textLengths s7) ((304 * s7 + x.textLengths s7) - r) r = cmP x.texts (304 * s7 + x.textLengths s7) q) (r2 : r ≤ (304 * s7 + x.textLengths s7)) (r3 : q ≤ r) (hk9 : (304 * s7 + x.textLengths s7) - r = k9), ∀ (H : Heap) (locs : List Loc) (ls : Array Slot) (hP : va_P D vwCl (MW dA h ad (MS.s_valueLength x 0)) H) (hD : va_D A (MW dA h ad (MS.s_valueLength x 0))) (hS : va_S A s.heap H locs) (hl : lv_has ls 10 [(7, .int (nI r)), (6, .int (nI q)), (5, .int (nI k)), (1, .int (nI s7)), (2, .int (nI nm)), (3, .int (nI n)), (0, .ref h), (4, .int (nI (304 * s7 + x.textLengths s7)))]), W p l e ({ frames := 1, cells := 0, slots := 0, locals := 0 } : Room) s m ([.ref h, .int (nI s7), .int (nI nm), .int (nI n)] : List Value).toArray below meth c H locs 0 0 (MQ below (va_Qi (fun (r9 : Int32) (u9 : Unit) => r9 = voI (x.vo s7 nm n)) (fun (u9 : Unit) t9 => bW D A (MW dA h ad (MS.s_valueLength x ((x.vo s7 nm n).2.1))) t9) A) ([.ref h, .int (nI s7), .int (nI nm), .int (nI n)] : List Value).toArray s 0 0 A) (F0 m 59 ls []) := by
            intro k9
            induction k9 using Nat.strongRecOn with
            | ind k9 ih59 =>
              intro r r1 r2 r3 hk9 H locs ls hP hD hS hl
              refine lv_iload hx hb d_M_valueOf_59 (lv_at hl 0 rfl) ?_
              refine lv_iload hx hb d_M_valueOf_61 (lv_at hl 7 rfl) ?_
              refine lv_icmp_ge hx hb d_M_valueOf_63 (tgt := 84) rfl (fun g7 => ?_) (fun g7 => ?_)
              · have g7 := (nI_leI (a := 304 * s7 + x.textLengths s7) (b := r) (by omega) (by omega)).mp g7
                exact J84 r (r1.symm.trans (fbG_e g7)) (by omega) (by omega) H _ ls hP hD hS (lv_sub hl [0, 1, 2, 3, 4, 5, 6, 7] rfl)
              · have g7 := mt (nI_leI (a := 304 * s7 + x.textLengths s7) (b := r) (by omega) (by omega)).mpr g7
                refine lv_aload_n hx hb d_M_valueOf_66 rfl (lv_at hl 6 rfl) ?_
                refine gF (v := .ref (ad 10)) hx hb hown hE hK hP 0 rfl rfl layM 10 (by decide) w499 rfl d_M_valueOf_67 ?_
                refine lv_iload hx hb d_M_valueOf_70 (lv_at hl 0 rfl) ?_
                refine nbld (f := x.texts) hx hb hK hP 2 0 rfl rfl (r) (by omega) (by decide) d_M_valueOf_72 ?_
                refine lv_bipush (v := 44) hx hb d_M_valueOf_73 (by decide) ?_
                refine lv_icmp_eq hx hb d_M_valueOf_75 (tgt := 84) rfl (fun g8 => ?_) (fun g8 => ?_)
                · have g8 := g8
                  exact J84 r (r1.symm.trans (fbG_y g8)) (by omega) (Nat.lt_of_le_of_ne r3 (fun z9 => absurd (g8.symm.trans ((congrArg x.texts z9).symm.trans e4)) (by decide))) H _ ls hP hD hS (lv_sub hl [0, 1, 2, 3, 4, 5, 6, 7] rfl)
                · have g8 := g8
                  refine lv_iinc (k := 0) (v := nI (r + 1)) hx hb d_M_valueOf_78 hl rfl (iincN (r) 1 1 (by decide)) (by decide) rfl (fun ls hl => ?_)
                  have hl : lv_has ls 10 [(7, .int (nI (r + 1))), (6, .int (nI q)), (5, .int (nI k)), (1, .int (nI s7)), (2, .int (nI nm)), (3, .int (nI n)), (0, .ref h), (4, .int (nI (304 * s7 + x.textLengths s7)))] := hl
                  refine lv_goto hx hb d_M_valueOf_81 (tgt := 59) rfl ?_
                  exact ih59 _ (by omega) (r + 1) ((fbG_n (by omega) g8).symm.trans r1) (by omega) (by omega) rfl H _ ls hP hD hS (lv_sub hl [0, 1, 2, 3, 4, 5, 6, 7] rfl)
          exact L59 _ q rfl (by omega) (by omega) rfl H _ ls hP hD hS (lv_sub hl [0, 1, 2, 3, 4, 5, 6, 7] rfl)
        refine lv_istore hx hb d_M_valueOf_35 hl (by decide) rfl (fun ls hl => ?_)
        have hl : lv_has ls 10 [(6, .int (nI k)), (5, .int (nI k)), (1, .int (nI s7)), (2, .int (nI nm)), (3, .int (nI n)), (0, .ref h), (4, .int (nI (304 * s7 + x.textLengths s7)))] := hl
        have L37 : ∀ (k9 : Nat) (q : Nat) (q1 : fbG x.texts 61 (304 * s7 + x.textLengths s7) ((304 * s7 + x.textLengths s7) - q) q = eqP x.texts (304 * s7 + x.textLengths s7) k) (hk9 : (304 * s7 + x.textLengths s7) - q = k9), ∀ (H : Heap) (locs : List Loc) (ls : Array Slot) (hP : va_P D vwCl (MW dA h ad (MS.s_valueLength x 0)) H) (hD : va_D A (MW dA h ad (MS.s_valueLength x 0))) (hS : va_S A s.heap H locs) (hl : lv_has ls 10 [(6, .int (nI q)), (5, .int (nI k)), (1, .int (nI s7)), (2, .int (nI nm)), (3, .int (nI n)), (0, .ref h), (4, .int (nI (304 * s7 + x.textLengths s7)))]), W p l e ({ frames := 1, cells := 0, slots := 0, locals := 0 } : Room) s m ([.ref h, .int (nI s7), .int (nI nm), .int (nI n)] : List Value).toArray below meth c H locs 0 0 (MQ below (va_Qi (fun (r9 : Int32) (u9 : Unit) => r9 = voI (x.vo s7 nm n)) (fun (u9 : Unit) t9 => bW D A (MW dA h ad (MS.s_valueLength x ((x.vo s7 nm n).2.1))) t9) A) ([.ref h, .int (nI s7), .int (nI nm), .int (nI n)] : List Value).toArray s 0 0 A) (F0 m 37 ls []) := by
          intro k9
          induction k9 using Nat.strongRecOn with
          | ind k9 ih37 =>
            intro q q1 hk9 H locs ls hP hD hS hl
            have q3 : q ≤ eqP x.texts (304 * s7 + x.textLengths s7) k := by rw [← q1]; exact fbG_ge
            refine lv_aload_n hx hb d_M_valueOf_37 rfl (lv_at hl 5 rfl) ?_
            refine gF (v := .ref (ad 10)) hx hb hown hE hK hP 0 rfl rfl layM 10 (by decide) w499 rfl d_M_valueOf_38 ?_
            refine lv_iload hx hb d_M_valueOf_41 (lv_at hl 0 rfl) ?_
            refine nbld (f := x.texts) hx hb hK hP 2 0 rfl rfl (q) (by omega) (by decide) d_M_valueOf_43 ?_
            refine lv_bipush (v := 61) hx hb d_M_valueOf_44 (by decide) ?_
            refine lv_icmp_eq hx hb d_M_valueOf_46 (tgt := 55) rfl (fun g9 => ?_) (fun g9 => ?_)
            · have g9 := g9
              exact J55 q (q1.symm.trans (fbG_y g9)) g9 H _ ls hP hD hS (lv_sub hl [0, 1, 2, 3, 4, 5, 6] rfl)
            · have g9 := g9
              refine lv_iinc (k := 0) (v := nI (q + 1)) hx hb d_M_valueOf_49 hl rfl (iincN (q) 1 1 (by decide)) (by decide) rfl (fun ls hl => ?_)
              have hl : lv_has ls 10 [(6, .int (nI (q + 1))), (5, .int (nI k)), (1, .int (nI s7)), (2, .int (nI nm)), (3, .int (nI n)), (0, .ref h), (4, .int (nI (304 * s7 + x.textLengths s7)))] := hl
              refine lv_goto hx hb d_M_valueOf_52 (tgt := 37) rfl ?_
              exact ih37 _ (by omega) (q + 1) ((fbG_n (by omega) g9).symm.trans q1) rfl H _ ls hP hD hS (lv_sub hl [0, 1, 2, 3, 4, 5, 6] rfl)
        exact L37 _ k rfl rfl H _ ls hP hD hS (lv_sub hl [0, 1, 2, 3, 4, 5, 6] rfl)
  exact L26 _ (304 * s7) 7 rfl htx (by omega) rfl H _ ls hP hD hS (lv_sub hl [0, 3, 4, 5, 2, 1] rfl)
theorem d_M_compareRows_0 : decode prog_14_method_66_code 0 = .ok (.iconst 0, 1) := by decide +kernel
theorem d_M_compareRows_1 : decode prog_14_method_66_code 1 = .ok (.istore 4, 2) := by decide +kernel
theorem d_M_compareRows_3 : decode prog_14_method_66_code 3 = .ok (.iload 4, 2) := by decide +kernel
theorem d_M_compareRows_5 : decode prog_14_method_66_code 5 = .ok (.aload_n 0, 1) := by decide +kernel
theorem d_M_compareRows_6 : decode prog_14_method_66_code 6 = .ok (.getfield 88, 3) := by decide +kernel
theorem d_M_compareRows_9 : decode prog_14_method_66_code 9 = .ok (.iload_n 1, 1) := by decide +kernel
theorem d_M_compareRows_10 : decode prog_14_method_66_code 10 = .ok (.iaload, 1) := by decide +kernel
theorem d_M_compareRows_11 : decode prog_14_method_66_code 11 = .ok (.if_icmp .ge 164, 3) := by decide +kernel
theorem d_M_compareRows_175 : decode prog_14_method_66_code 175 = .ok (.iconst 0, 1) := by decide +kernel
theorem d_M_compareRows_176 : decode prog_14_method_66_code 176 = .ok (.ireturn, 1) := by decide +kernel
theorem d_M_compareRows_14 : decode prog_14_method_66_code 14 = .ok (.aload_n 0, 1) := by decide +kernel
theorem d_M_compareRows_15 : decode prog_14_method_66_code 15 = .ok (.iload_n 2, 1) := by decide +kernel
theorem d_M_compareRows_16 : decode prog_14_method_66_code 16 = .ok (.aload_n 0, 1) := by decide +kernel
theorem d_M_compareRows_17 : decode prog_14_method_66_code 17 = .ok (.getfield 91, 3) := by decide +kernel
theorem d_M_compareRows_20 : decode prog_14_method_66_code 20 = .ok (.bipush 6, 2) := by decide +kernel
theorem d_M_compareRows_22 : decode prog_14_method_66_code 22 = .ok (.iload_n 1, 1) := by decide +kernel
theorem d_M_compareRows_23 : decode prog_14_method_66_code 23 = .ok (.imul, 1) := by decide +kernel
theorem d_M_compareRows_24 : decode prog_14_method_66_code 24 = .ok (.iload 4, 2) := by decide +kernel
theorem d_M_compareRows_26 : decode prog_14_method_66_code 26 = .ok (.iadd, 1) := by decide +kernel
theorem d_M_compareRows_27 : decode prog_14_method_66_code 27 = .ok (.iaload, 1) := by decide +kernel
theorem d_M_compareRows_28 : decode prog_14_method_66_code 28 = .ok (.aload_n 0, 1) := by decide +kernel
theorem d_M_compareRows_29 : decode prog_14_method_66_code 29 = .ok (.getfield 94, 3) := by decide +kernel
theorem d_M_compareRows_32 : decode prog_14_method_66_code 32 = .ok (.bipush 6, 2) := by decide +kernel
theorem d_M_compareRows_34 : decode prog_14_method_66_code 34 = .ok (.iload_n 1, 1) := by decide +kernel
theorem d_M_compareRows_35 : decode prog_14_method_66_code 35 = .ok (.imul, 1) := by decide +kernel
theorem d_M_compareRows_36 : decode prog_14_method_66_code 36 = .ok (.iload 4, 2) := by decide +kernel
theorem d_M_compareRows_38 : decode prog_14_method_66_code 38 = .ok (.iadd, 1) := by decide +kernel
theorem d_M_compareRows_39 : decode prog_14_method_66_code 39 = .ok (.iaload, 1) := by decide +kernel
theorem d_M_compareRows_40 : decode prog_14_method_66_code 40 = .ok (.invokevirtual 387, 3) := by decide +kernel
theorem d_M_compareRows_43 : decode prog_14_method_66_code 43 = .ok (.istore 5, 2) := by decide +kernel
theorem d_M_compareRows_45 : decode prog_14_method_66_code 45 = .ok (.aload_n 0, 1) := by decide +kernel
theorem d_M_compareRows_46 : decode prog_14_method_66_code 46 = .ok (.getfield 384, 3) := by decide +kernel
theorem d_M_compareRows_49 : decode prog_14_method_66_code 49 = .ok (.istore 6, 2) := by decide +kernel
theorem d_M_compareRows_51 : decode prog_14_method_66_code 51 = .ok (.aload_n 0, 1) := by decide +kernel
theorem d_M_compareRows_52 : decode prog_14_method_66_code 52 = .ok (.iload_n 3, 1) := by decide +kernel
theorem d_M_compareRows_53 : decode prog_14_method_66_code 53 = .ok (.aload_n 0, 1) := by decide +kernel
theorem d_M_compareRows_54 : decode prog_14_method_66_code 54 = .ok (.getfield 91, 3) := by decide +kernel
theorem d_M_compareRows_57 : decode prog_14_method_66_code 57 = .ok (.bipush 6, 2) := by decide +kernel
theorem d_M_compareRows_59 : decode prog_14_method_66_code 59 = .ok (.iload_n 1, 1) := by decide +kernel
theorem d_M_compareRows_60 : decode prog_14_method_66_code 60 = .ok (.imul, 1) := by decide +kernel
theorem d_M_compareRows_61 : decode prog_14_method_66_code 61 = .ok (.iload 4, 2) := by decide +kernel
theorem d_M_compareRows_63 : decode prog_14_method_66_code 63 = .ok (.iadd, 1) := by decide +kernel
theorem d_M_compareRows_64 : decode prog_14_method_66_code 64 = .ok (.iaload, 1) := by decide +kernel
theorem d_M_compareRows_65 : decode prog_14_method_66_code 65 = .ok (.aload_n 0, 1) := by decide +kernel
theorem d_M_compareRows_66 : decode prog_14_method_66_code 66 = .ok (.getfield 94, 3) := by decide +kernel
theorem d_M_compareRows_69 : decode prog_14_method_66_code 69 = .ok (.bipush 6, 2) := by decide +kernel
theorem d_M_compareRows_71 : decode prog_14_method_66_code 71 = .ok (.iload_n 1, 1) := by decide +kernel
theorem d_M_compareRows_72 : decode prog_14_method_66_code 72 = .ok (.imul, 1) := by decide +kernel
theorem d_M_compareRows_73 : decode prog_14_method_66_code 73 = .ok (.iload 4, 2) := by decide +kernel
theorem d_M_compareRows_75 : decode prog_14_method_66_code 75 = .ok (.iadd, 1) := by decide +kernel
theorem d_M_compareRows_76 : decode prog_14_method_66_code 76 = .ok (.iaload, 1) := by decide +kernel
theorem d_M_compareRows_77 : decode prog_14_method_66_code 77 = .ok (.invokevirtual 387, 3) := by decide +kernel
theorem d_M_compareRows_80 : decode prog_14_method_66_code 80 = .ok (.istore 7, 2) := by decide +kernel
theorem d_M_compareRows_82 : decode prog_14_method_66_code 82 = .ok (.aload_n 0, 1) := by decide +kernel
theorem d_M_compareRows_83 : decode prog_14_method_66_code 83 = .ok (.getfield 384, 3) := by decide +kernel
theorem d_M_compareRows_86 : decode prog_14_method_66_code 86 = .ok (.istore 8, 2) := by decide +kernel
theorem d_M_compareRows_156 : decode prog_14_method_66_code 156 = .ok (.iload 6, 2) := by decide +kernel
theorem d_M_compareRows_158 : decode prog_14_method_66_code 158 = .ok (.iload 8, 2) := by decide +kernel
theorem d_M_compareRows_160 : decode prog_14_method_66_code 160 = .ok (.if_icmp .eq 9, 3) := by decide +kernel
theorem d_M_compareRows_169 : decode prog_14_method_66_code 169 = .ok (.iinc 4 1, 3) := by decide +kernel
theorem d_M_compareRows_172 : decode prog_14_method_66_code 172 = .ok (.goto (-169), 3) := by decide +kernel
theorem d_M_compareRows_163 : decode prog_14_method_66_code 163 = .ok (.iload 6, 2) := by decide +kernel
theorem d_M_compareRows_165 : decode prog_14_method_66_code 165 = .ok (.iload 8, 2) := by decide +kernel
theorem d_M_compareRows_167 : decode prog_14_method_66_code 167 = .ok (.isub, 1) := by decide +kernel
theorem d_M_compareRows_168 : decode prog_14_method_66_code 168 = .ok (.ireturn, 1) := by decide +kernel
theorem d_M_compareRows_88 : decode prog_14_method_66_code 88 = .ok (.iconst 0, 1) := by decide +kernel
theorem d_M_compareRows_89 : decode prog_14_method_66_code 89 = .ok (.istore 9, 2) := by decide +kernel
theorem d_M_compareRows_91 : decode prog_14_method_66_code 91 = .ok (.iload 9, 2) := by decide +kernel
theorem d_M_compareRows_93 : decode prog_14_method_66_code 93 = .ok (.iload 6, 2) := by decide +kernel
theorem d_M_compareRows_95 : decode prog_14_method_66_code 95 = .ok (.if_icmp .ge 61, 3) := by decide +kernel
theorem d_M_compareRows_98 : decode prog_14_method_66_code 98 = .ok (.iload 9, 2) := by decide +kernel
theorem d_M_compareRows_100 : decode prog_14_method_66_code 100 = .ok (.iload 8, 2) := by decide +kernel
theorem d_M_compareRows_102 : decode prog_14_method_66_code 102 = .ok (.if_icmp .ge 54, 3) := by decide +kernel
theorem d_M_compareRows_105 : decode prog_14_method_66_code 105 = .ok (.aload_n 0, 1) := by decide +kernel
theorem d_M_compareRows_106 : decode prog_14_method_66_code 106 = .ok (.getfield 29, 3) := by decide +kernel
theorem d_M_compareRows_109 : decode prog_14_method_66_code 109 = .ok (.iload 5, 2) := by decide +kernel
theorem d_M_compareRows_111 : decode prog_14_method_66_code 111 = .ok (.iload 9, 2) := by decide +kernel
theorem d_M_compareRows_113 : decode prog_14_method_66_code 113 = .ok (.iadd, 1) := by decide +kernel
theorem d_M_compareRows_114 : decode prog_14_method_66_code 114 = .ok (.baload, 1) := by decide +kernel
theorem d_M_compareRows_115 : decode prog_14_method_66_code 115 = .ok (.aload_n 0, 1) := by decide +kernel
theorem d_M_compareRows_116 : decode prog_14_method_66_code 116 = .ok (.getfield 29, 3) := by decide +kernel
theorem d_M_compareRows_119 : decode prog_14_method_66_code 119 = .ok (.iload 7, 2) := by decide +kernel
theorem d_M_compareRows_121 : decode prog_14_method_66_code 121 = .ok (.iload 9, 2) := by decide +kernel
theorem d_M_compareRows_123 : decode prog_14_method_66_code 123 = .ok (.iadd, 1) := by decide +kernel
theorem d_M_compareRows_124 : decode prog_14_method_66_code 124 = .ok (.baload, 1) := by decide +kernel
theorem d_M_compareRows_125 : decode prog_14_method_66_code 125 = .ok (.if_icmp .eq 25, 3) := by decide +kernel
theorem d_M_compareRows_150 : decode prog_14_method_66_code 150 = .ok (.iinc 9 1, 3) := by decide +kernel
theorem d_M_compareRows_153 : decode prog_14_method_66_code 153 = .ok (.goto (-62), 3) := by decide +kernel
theorem d_M_compareRows_128 : decode prog_14_method_66_code 128 = .ok (.aload_n 0, 1) := by decide +kernel
theorem d_M_compareRows_129 : decode prog_14_method_66_code 129 = .ok (.getfield 29, 3) := by decide +kernel
theorem d_M_compareRows_132 : decode prog_14_method_66_code 132 = .ok (.iload 5, 2) := by decide +kernel
theorem d_M_compareRows_134 : decode prog_14_method_66_code 134 = .ok (.iload 9, 2) := by decide +kernel
theorem d_M_compareRows_136 : decode prog_14_method_66_code 136 = .ok (.iadd, 1) := by decide +kernel
theorem d_M_compareRows_137 : decode prog_14_method_66_code 137 = .ok (.baload, 1) := by decide +kernel
theorem d_M_compareRows_138 : decode prog_14_method_66_code 138 = .ok (.aload_n 0, 1) := by decide +kernel
theorem d_M_compareRows_139 : decode prog_14_method_66_code 139 = .ok (.getfield 29, 3) := by decide +kernel
theorem d_M_compareRows_142 : decode prog_14_method_66_code 142 = .ok (.iload 7, 2) := by decide +kernel
theorem d_M_compareRows_144 : decode prog_14_method_66_code 144 = .ok (.iload 9, 2) := by decide +kernel
theorem d_M_compareRows_146 : decode prog_14_method_66_code 146 = .ok (.iadd, 1) := by decide +kernel
theorem d_M_compareRows_147 : decode prog_14_method_66_code 147 = .ok (.baload, 1) := by decide +kernel
theorem d_M_compareRows_148 : decode prog_14_method_66_code 148 = .ok (.isub, 1) := by decide +kernel
theorem d_M_compareRows_149 : decode prog_14_method_66_code 149 = .ok (.ireturn, 1) := by decide +kernel
theorem w978 : Cond.methodLink "SeriesVaultModel" 387 ⟨"SeriesVaultModel", "valueOf", "(III)I"⟩ ∈ aW := aw_of (tb_10 (List.mem_of_getElem? (i := 229) rfl)) rfl
theorem w979 : Cond.code ⟨"SeriesVaultModel", "valueOf", "(III)I"⟩ prog_14_method_65_code 10 (some FieldType.int) ∈ aW := aw_of (tb_10 (List.mem_of_getElem? (i := 232) rfl)) rfl
theorem w980 : Cond.instanceMethod ⟨"SeriesVaultModel", "valueOf", "(III)I"⟩ ∈ aW := aw_of (tb_10 (List.mem_of_getElem? (i := 231) rfl)) rfl
theorem w981 : Cond.selects "SeriesVaultModel" ⟨"SeriesVaultModel", "valueOf", "(III)I"⟩ ⟨"SeriesVaultModel", "valueOf", "(III)I"⟩ ∈ aW := aw_pr (List.mem_map.mpr ⟨_, pv_7 (List.mem_of_getElem? (i := 15) rfl), rfl⟩) rfl
set_option maxHeartbeats 4000000 in
set_option maxRecDepth 100000 in
theorem k_compareRows (l : Launch) (D : va_G) (dA : Nat → ClassId) (sz : Nat) (h : Nat) (ad : Nat → Nat) (x : MS) (t : Nat) (a : Nat) (b : Nat) (hno : x.nOK t) (hta : x.tableNames t = 0 ∨ x.tOK a) (htb : x.tableNames t = 0 ∨ x.tOK b) : Met l ⟨"SeriesVaultModel", "compareRows", "(III)I"⟩ [Cond.code ⟨"SeriesVaultModel", "compareRows", "(III)I"⟩ prog_14_method_66_code 10 (some FieldType.int)] { frames := 2, cells := 0, slots := 0, locals := 29 } (pC D dA [.ref h, .int (nI t), .int (nI a), .int (nI b)] (MW dA h ad x) sz) (va_Qi (fun (r9 : Int32) (u9 : Unit) => r9 = (x.cr t a b).1) (fun (u9 : Unit) t9 => bW D (va_A (MW dA h ad x) sz) (MW dA h ad (MS.s_valueLength x ((x.cr t a b).2))) t9) (va_A (MW dA h ad x) sz)) 0 0 (va_A (MW dA h ad x) sz) := by
  refine mkC (y := ⟨"SeriesVaultModel", "compareRows", "(III)I"⟩) (cc := prog_14_method_66_code) (maxL := 10) (av := [.ref h, .int (nI t), .int (nI a), .int (nI b)]) (ws := MW dA h ad x) (sz := sz) (Qc := fun A => va_Qi (fun (r9 : Int32) (u9 : Unit) => r9 = (x.cr t a b).1) (fun (u9 : Unit) t9 => bW D A (MW dA h ad (MS.s_valueLength x ((x.cr t a b).2))) t9) A) (by decide) (Nat.le_of_ble_eq_true rfl) ?_
  intro A p e s m below meth c ls hsz hB
  obtain ⟨hx, hb, hr, hml, hown, hin, hlk, hE, hK, hP, hD, hS, hA, hN, hl⟩ := hB
  have hown : s.vm.findClass "SeriesVaultModel" = some m.cls := hown
  have hl : lv_has ls 10 [(0, .ref h), (1, .int (nI t)), (2, .int (nI a)), (3, .int (nI b))] := hl
  obtain ⟨H, hH⟩ : ∃ z, z = s.heap := ⟨_, rfl⟩
  have hP : va_P D vwCl (MW dA h ad x) H := by rw [hH]; exact hP
  have hS : va_S A s.heap H [] := by rw [hH]; exact hS
  rw [← hH]
  obtain ⟨hno1, hno2, hno3⟩ := hno
  refine lv_iconst (v := 0) hx hb d_M_compareRows_0 (by decide) ?_
  refine lv_istore hx hb d_M_compareRows_1 hl (by decide) rfl (fun ls hl => ?_)
  have hl : lv_has ls 10 [(4, .int 0), (0, .ref h), (1, .int (nI t)), (2, .int (nI a)), (3, .int (nI b))] := hl
  have L3 : ∀ (k9 : Nat) (k : Nat) (u : Nat) (i1 : k ≤ x.tableNames t) (i2 : crG (x.cmR t a b) (x.crL t b) (x.tableNames t - k) k u = x.cr t a b) (hk9 : x.tableNames t - k = k9), ∀ (H : Heap) (locs : List Loc) (ls : Array Slot) (hP : va_P D vwCl (MW dA h ad (MS.s_valueLength x u)) H) (hD : va_D A (MW dA h ad (MS.s_valueLength x u))) (hS : va_S A s.heap H locs) (hl : lv_has ls 10 [(4, .int (nI k)), (1, .int (nI t)), (2, .int (nI a)), (3, .int (nI b)), (0, .ref h)]), W p l e ({ frames := 2, cells := 0, slots := 0, locals := 29 } : Room) s m ([.ref h, .int (nI t), .int (nI a), .int (nI b)] : List Value).toArray below meth c H locs 0 0 (MQ below (va_Qi (fun (r9 : Int32) (u9 : Unit) => r9 = (x.cr t a b).1) (fun (u9 : Unit) t9 => bW D A (MW dA h ad (MS.s_valueLength x ((x.cr t a b).2))) t9) A) ([.ref h, .int (nI t), .int (nI a), .int (nI b)] : List Value).toArray s 0 0 A) (F0 m 3 ls []) := by
    intro k9
    induction k9 using Nat.strongRecOn with
    | ind k9 ih3 =>
      intro k u i1 i2 hk9 H locs ls hP hD hS hl
      refine lv_iload hx hb d_M_compareRows_3 (lv_at hl 0 rfl) ?_
      refine lv_aload_n hx hb d_M_compareRows_5 rfl (lv_at hl 4 rfl) ?_
      refine gF (v := .ref (ad 48)) hx hb hown hE hK hP 0 rfl rfl layM 48 (by decide) w518 rfl d_M_compareRows_6 ?_
      refine lv_iload_n hx hb d_M_compareRows_9 rfl (lv_at hl 1 rfl) ?_
      refine nild (f := (fun z9 => nI (x.tableNames z9))) hx hb hK hP 21 1 rfl rfl (t) (by omega) (by decide) d_M_compareRows_10 ?_
      refine lv_icmp_ge hx hb d_M_compareRows_11 (tgt := 175) rfl (fun g1 => ?_) (fun g1 => ?_)
      · have g1 := (nI_leI (a := x.tableNames t) (b := k) (by omega) (by omega)).mp g1
        have ce : x.cr t a b = (0, u) := by rw [← i2, show x.tableNames t - k = 0 by omega]; rfl
        refine lv_iconst (v := 0) hx hb d_M_compareRows_175 (by decide) ?_
        have e9 : (MS.s_valueLength x u : MS) = MS.s_valueLength x ((x.cr t a b).2) := by rw [show ((x.cr t a b).2) = u from by (rw [ce] <;> rfl)] <;> rfl
        exact rfI hx hb hr hlk hS () (by rw [ce]) (cvP e9 hP) (cvD e9 hD) (Nat.le_of_ble_eq_true rfl) (Nat.le_of_ble_eq_true rfl) d_M_compareRows_176
      · have g1 := mt (nI_leI (a := x.tableNames t) (b := k) (by omega) (by omega)).mpr g1
        have hta := hta.resolve_left (by omega)
        have htb := htb.resolve_left (by omega)
        have b6 := hno3 k (by omega)
        have b7 := vo_in (x := x) (s := a) (nm := x.nameFroms (6 * t + k)) (n := x.nameLengths (6 * t + k)) hta
        have b8 := vo_in (x := x) (s := b) (nm := x.nameFroms (6 * t + k)) (n := x.nameLengths (6 * t + k)) htb
        have b7 : (x.vn t a k).1 + (x.vn t a k).2.1 ≤ 77824 := b7
        have b8 : (x.vn t b k).1 + (x.vn t b k).2.1 ≤ 77824 := b8
        refine lv_aload_n hx hb d_M_compareRows_14 rfl (lv_at hl 4 rfl) ?_
        refine lv_iload_n hx hb d_M_compareRows_15 rfl (lv_at hl 2 rfl) ?_
        refine lv_aload_n hx hb d_M_compareRows_16 rfl (lv_at hl 4 rfl) ?_
        refine gF (v := .ref (ad 49)) hx hb hown hE hK hP 0 rfl rfl layM 49 (by decide) w519 rfl d_M_compareRows_17 ?_
        refine lv_bipush (v := 6) hx hb d_M_compareRows_20 (by decide) ?_
        refine lv_iload_n hx hb d_M_compareRows_22 rfl (lv_at hl 1 rfl) ?_
        refine lv_imul hx hb d_M_compareRows_23 (tpi (y := nI (6 * t)) (pk_mul (6) (t)) ?_)
        refine lv_iload hx hb d_M_compareRows_24 (lv_at hl 0 rfl) ?_
        refine lv_iadd hx hb d_M_compareRows_26 (tpi (y := nI ((6 * t) + k)) (nI_add (6 * t) (k)) ?_)
        refine nild (f := (fun z9 => nI (x.nameFroms z9))) hx hb hK hP 22 1 rfl rfl ((6 * t) + k) (by omega) (by decide) d_M_compareRows_27 ?_
        refine lv_aload_n hx hb d_M_compareRows_28 rfl (lv_at hl 4 rfl) ?_
        refine gF (v := .ref (ad 50)) hx hb hown hE hK hP 0 rfl rfl layM 50 (by decide) w520 rfl d_M_compareRows_29 ?_
        refine lv_bipush (v := 6) hx hb d_M_compareRows_32 (by decide) ?_
        refine lv_iload_n hx hb d_M_compareRows_34 rfl (lv_at hl 1 rfl) ?_
        refine lv_imul hx hb d_M_compareRows_35 (tpi (y := nI (6 * t)) (pk_mul (6) (t)) ?_)
        refine lv_iload hx hb d_M_compareRows_36 (lv_at hl 0 rfl) ?_
        refine lv_iadd hx hb d_M_compareRows_38 (tpi (y := nI ((6 * t) + k)) (nI_add (6 * t) (k)) ?_)
        refine nild (f := (fun z9 => nI (x.nameLengths z9))) hx hb hK hP 23 1 rfl rfl ((6 * t) + k) (by omega) (by decide) d_M_compareRows_39 ?_
        refine jfI (rnV (As := [.int (nI a), .int (nI (x.nameFroms ((6 * t) + k))), .int (nI (x.nameLengths ((6 * t) + k)))]) (rest := []) hx hb hml hown hE hK (hN _ _ hS) hP hD (k_valueOf l D dA H.size h ad (MS.s_valueLength x u) a (x.nameFroms ((6 * t) + k)) (x.nameLengths ((6 * t) + k)) hta b6) (q0 := 0) rfl rfl w979 w978 w980 w981 w328 rfl rfl ⟨⟨by decide, by decide⟩, rfl⟩ ⟨(Nat.le_of_ble_eq_true rfl), (Nat.le_of_ble_eq_true rfl)⟩ rfl hl.1 rfl (Nat.le_of_ble_eq_true rfl) d_M_compareRows_40 ⟨(Nat.le_of_ble_eq_true rfl), (Nat.le_of_ble_eq_true rfl)⟩) hP hD hS hA (fun r2 u3 H locs hp9 hP hD hS => ?_)
        have hP : va_P D vwCl (MW dA h ad (MS.s_valueLength x ((x.vo a (x.nameFroms ((6 * t) + k)) (x.nameLengths ((6 * t) + k))).2.1))) H := hP
        have hD : va_D A (MW dA h ad (MS.s_valueLength x ((x.vo a (x.nameFroms ((6 * t) + k)) (x.nameLengths ((6 * t) + k))).2.1))) := hD
        replace hp9 : voI (x.vo a (x.nameFroms ((6 * t) + k)) (x.nameLengths ((6 * t) + k))) = r2 := Eq.symm hp9
        subst hp9
        refine lv_istore hx hb d_M_compareRows_43 hl (by decide) rfl (fun ls hl => ?_)
        have hl : lv_has ls 10 [(5, .int (voI (x.vo a (x.nameFroms ((6 * t) + k)) (x.nameLengths ((6 * t) + k))))), (4, .int (nI k)), (1, .int (nI t)), (2, .int (nI a)), (3, .int (nI b)), (0, .ref h)] := hl
        refine lv_aload_n hx hb d_M_compareRows_45 rfl (lv_at hl 5 rfl) ?_
        refine gF (v := .int (nI ((x.vo a (x.nameFroms ((6 * t) + k)) (x.nameLengths ((6 * t) + k))).2.1))) hx hb hown hE hK hP 0 rfl rfl layM 60 (by decide) w977 rfl d_M_compareRows_46 ?_
        refine lv_istore hx hb d_M_compareRows_49 hl (by decide) rfl (fun ls hl => ?_)
        have hl : lv_has ls 10 [(6, .int (nI ((x.vo a (x.nameFroms ((6 * t) + k)) (x.nameLengths ((6 * t) + k))).2.1))), (5, .int (voI (x.vo a (x.nameFroms ((6 * t) + k)) (x.nameLengths ((6 * t) + k))))), (4, .int (nI k)), (1, .int (nI t)), (2, .int (nI a)), (3, .int (nI b)), (0, .ref h)] := hl
        refine lv_aload_n hx hb d_M_compareRows_51 rfl (lv_at hl 6 rfl) ?_
        refine lv_iload_n hx hb d_M_compareRows_52 rfl (lv_at hl 5 rfl) ?_
        refine lv_aload_n hx hb d_M_compareRows_53 rfl (lv_at hl 6 rfl) ?_
        refine gF (v := .ref (ad 49)) hx hb hown hE hK hP 0 rfl rfl layM 49 (by decide) w519 rfl d_M_compareRows_54 ?_
        refine lv_bipush (v := 6) hx hb d_M_compareRows_57 (by decide) ?_
        refine lv_iload_n hx hb d_M_compareRows_59 rfl (lv_at hl 3 rfl) ?_
        refine lv_imul hx hb d_M_compareRows_60 (tpi (y := nI (6 * t)) (pk_mul (6) (t)) ?_)
        refine lv_iload hx hb d_M_compareRows_61 (lv_at hl 2 rfl) ?_
        refine lv_iadd hx hb d_M_compareRows_63 (tpi (y := nI ((6 * t) + k)) (nI_add (6 * t) (k)) ?_)
        refine nild (f := (fun z9 => nI (x.nameFroms z9))) hx hb hK hP 22 1 rfl rfl ((6 * t) + k) (by omega) (by decide) d_M_compareRows_64 ?_
        refine lv_aload_n hx hb d_M_compareRows_65 rfl (lv_at hl 6 rfl) ?_
        refine gF (v := .ref (ad 50)) hx hb hown hE hK hP 0 rfl rfl layM 50 (by decide) w520 rfl d_M_compareRows_66 ?_
        refine lv_bipush (v := 6) hx hb d_M_compareRows_69 (by decide) ?_
        refine lv_iload_n hx hb d_M_compareRows_71 rfl (lv_at hl 3 rfl) ?_
        refine lv_imul hx hb d_M_compareRows_72 (tpi (y := nI (6 * t)) (pk_mul (6) (t)) ?_)
        refine lv_iload hx hb d_M_compareRows_73 (lv_at hl 2 rfl) ?_
        refine lv_iadd hx hb d_M_compareRows_75 (tpi (y := nI ((6 * t) + k)) (nI_add (6 * t) (k)) ?_)
        refine nild (f := (fun z9 => nI (x.nameLengths z9))) hx hb hK hP 23 1 rfl rfl ((6 * t) + k) (by omega) (by decide) d_M_compareRows_76 ?_
        refine jfI (rnV (As := [.int (nI b), .int (nI (x.nameFroms ((6 * t) + k))), .int (nI (x.nameLengths ((6 * t) + k)))]) (rest := []) hx hb hml hown hE hK (hN _ _ hS) hP hD (k_valueOf l D dA H.size h ad (MS.s_valueLength x ((x.vo a (x.nameFroms ((6 * t) + k)) (x.nameLengths ((6 * t) + k))).2.1)) b (x.nameFroms ((6 * t) + k)) (x.nameLengths ((6 * t) + k)) htb b6) (q0 := 0) rfl rfl w979 w978 w980 w981 w328 rfl rfl ⟨⟨by decide, by decide⟩, rfl⟩ ⟨(Nat.le_of_ble_eq_true rfl), (Nat.le_of_ble_eq_true rfl)⟩ rfl hl.1 rfl (Nat.le_of_ble_eq_true rfl) d_M_compareRows_77 ⟨(Nat.le_of_ble_eq_true rfl), (Nat.le_of_ble_eq_true rfl)⟩) hP hD hS hA (fun r4 u5 H locs hp9 hP hD hS => ?_)
        have hP : va_P D vwCl (MW dA h ad (MS.s_valueLength x ((x.vo b (x.nameFroms ((6 * t) + k)) (x.nameLengths ((6 * t) + k))).2.1))) H := hP
        have hD : va_D A (MW dA h ad (MS.s_valueLength x ((x.vo b (x.nameFroms ((6 * t) + k)) (x.nameLengths ((6 * t) + k))).2.1))) := hD
        replace hp9 : voI (x.vo b (x.nameFroms ((6 * t) + k)) (x.nameLengths ((6 * t) + k))) = r4 := Eq.symm hp9
        subst hp9
        refine lv_istore hx hb d_M_compareRows_80 hl (by decide) rfl (fun ls hl => ?_)
        have hl : lv_has ls 10 [(7, .int (voI (x.vo b (x.nameFroms ((6 * t) + k)) (x.nameLengths ((6 * t) + k))))), (6, .int (nI ((x.vo a (x.nameFroms ((6 * t) + k)) (x.nameLengths ((6 * t) + k))).2.1))), (5, .int (voI (x.vo a (x.nameFroms ((6 * t) + k)) (x.nameLengths ((6 * t) + k))))), (4, .int (nI k)), (1, .int (nI t)), (2, .int (nI a)), (3, .int (nI b)), (0, .ref h)] := hl
        refine lv_aload_n hx hb d_M_compareRows_82 rfl (lv_at hl 7 rfl) ?_
        refine gF (v := .int (nI ((x.vo b (x.nameFroms ((6 * t) + k)) (x.nameLengths ((6 * t) + k))).2.1))) hx hb hown hE hK hP 0 rfl rfl layM 60 (by decide) w977 rfl d_M_compareRows_83 ?_
        refine lv_istore hx hb d_M_compareRows_86 hl (by decide) rfl (fun ls hl => ?_)
        have hl : lv_has ls 10 [(8, .int (nI ((x.vo b (x.nameFroms ((6 * t) + k)) (x.nameLengths ((6 * t) + k))).2.1))), (7, .int (voI (x.vo b (x.nameFroms ((6 * t) + k)) (x.nameLengths ((6 * t) + k))))), (6, .int (nI ((x.vo a (x.nameFroms ((6 * t) + k)) (x.nameLengths ((6 * t) + k))).2.1))), (5, .int (voI (x.vo a (x.nameFroms ((6 * t) + k)) (x.nameLengths ((6 * t) + k))))), (4, .int (nI k)), (1, .int (nI t)), (2, .int (nI a)), (3, .int (nI b)), (0, .ref h)] := hl
        have J156 : ∀ (ce0 : x.cmR t a b k = nI (x.vn t a k).2.1 - nI (x.vn t b k).2.1), ∀ (H : Heap) (locs : List Loc) (ls : Array Slot) (hP : va_P D vwCl (MW dA h ad (MS.s_valueLength x ((x.vo b (x.nameFroms ((6 * t) + k)) (x.nameLengths ((6 * t) + k))).2.1))) H) (hD : va_D A (MW dA h ad (MS.s_valueLength x ((x.vo b (x.nameFroms ((6 * t) + k)) (x.nameLengths ((6 * t) + k))).2.1)))) (hS : va_S A s.heap H locs) (hl : lv_has ls 10 [(5, .int (voI (x.vn t a k))), (6, .int (nI (x.vn t a k).2.1)), (7, .int (voI (x.vn t b k))), (8, .int (nI (x.vn t b k).2.1)), (4, .int (nI k)), (1, .int (nI t)), (2, .int (nI a)), (3, .int (nI b)), (0, .ref h)]), W p l e ({ frames := 2, cells := 0, slots := 0, locals := 29 } : Room) s m ([.ref h, .int (nI t), .int (nI a), .int (nI b)] : List Value).toArray below meth c H locs 0 0 (MQ below (va_Qi (fun (r9 : Int32) (u9 : Unit) => r9 = (x.cr t a b).1) (fun (u9 : Unit) t9 => bW D A (MW dA h ad (MS.s_valueLength x ((x.cr t a b).2))) t9) A) ([.ref h, .int (nI t), .int (nI a), .int (nI b)] : List Value).toArray s 0 0 A) (F0 m 156 ls []) := by
          intro ce0 H locs ls hP hD hS hl
          refine lv_iload hx hb d_M_compareRows_156 (lv_at hl 1 rfl) ?_
          refine lv_iload hx hb d_M_compareRows_158 (lv_at hl 3 rfl) ?_
          refine lv_icmp_eq hx hb d_M_compareRows_160 (tgt := 169) rfl (fun g6 => ?_) (fun g6 => ?_)
          · have g6 := (nI_eq (a := (x.vn t a k).2.1) (b := (x.vn t b k).2.1) (by omega) (by omega)).mp g6
            have ce : x.cmR t a b k = 0 := by rw [ce0, show (x.vn t a k).2.1 = (x.vn t b k).2.1 by omega]; exact Int32.sub_self _
            refine lv_iinc (k := 4) (v := nI (k + 1)) hx hb d_M_compareRows_169 hl rfl (iincN (k) 1 1 (by decide)) (by decide) rfl (fun ls hl => ?_)
            have hl : lv_has ls 10 [(4, .int (nI (k + 1))), (5, .int (voI (x.vn t a k))), (6, .int (nI (x.vn t a k).2.1)), (7, .int (voI (x.vn t b k))), (8, .int (nI (x.vn t b k).2.1)), (1, .int (nI t)), (2, .int (nI a)), (3, .int (nI b)), (0, .ref h)] := hl
            refine lv_goto hx hb d_M_compareRows_172 (tgt := 3) rfl ?_
            exact ih3 _ (by omega) (k + 1) ((x.vo b (x.nameFroms ((6 * t) + k)) (x.nameLengths ((6 * t) + k))).2.1) (by omega) (by rw [← i2, crG_0 (cm := x.cmR t a b) (w := x.tableNames t - k) (by omega) ce, show x.tableNames t - k - 1 = x.tableNames t - (k + 1) by omega] <;> rfl) rfl H _ ls hP hD hS (lv_sub hl [0, 5, 6, 7, 8] rfl)
          · have g6 := mt (nI_eq (a := (x.vn t a k).2.1) (b := (x.vn t b k).2.1) (by omega) (by omega)).mpr g6
            have ce : (x.cr t a b) = (nI (x.vn t a k).2.1 - nI (x.vn t b k).2.1, (x.vn t b k).2.1) := i2.symm.trans (cr_n (cm := x.cmR t a b) (vl := x.crL t b) (by omega) ce0 (by omega) (by omega) (by omega))
            refine lv_iload hx hb d_M_compareRows_163 (lv_at hl 1 rfl) ?_
            refine lv_iload hx hb d_M_compareRows_165 (lv_at hl 3 rfl) ?_
            refine lv_isub hx hb d_M_compareRows_167 ?_
            have e9 : (MS.s_valueLength x ((x.vo b (x.nameFroms ((6 * t) + k)) (x.nameLengths ((6 * t) + k))).2.1) : MS) = MS.s_valueLength x ((x.cr t a b).2) := by rw [show ((x.cr t a b).2) = ((x.vo b (x.nameFroms ((6 * t) + k)) (x.nameLengths ((6 * t) + k))).2.1) from by (rw [ce] <;> rfl)] <;> rfl
            exact rfI hx hb hr hlk hS () (by rw [ce]) (cvP e9 hP) (cvD e9 hD) (Nat.le_of_ble_eq_true rfl) (Nat.le_of_ble_eq_true rfl) d_M_compareRows_168
        refine lv_iconst (v := 0) hx hb d_M_compareRows_88 (by decide) ?_
        refine lv_istore hx hb d_M_compareRows_89 hl (by decide) rfl (fun ls hl => ?_)
        have hl : lv_has ls 10 [(9, .int 0), (8, .int (nI ((x.vo b (x.nameFroms ((6 * t) + k)) (x.nameLengths ((6 * t) + k))).2.1))), (7, .int (voI (x.vo b (x.nameFroms ((6 * t) + k)) (x.nameLengths ((6 * t) + k))))), (6, .int (nI ((x.vo a (x.nameFroms ((6 * t) + k)) (x.nameLengths ((6 * t) + k))).2.1))), (5, .int (voI (x.vo a (x.nameFroms ((6 * t) + k)) (x.nameLengths ((6 * t) + k))))), (4, .int (nI k)), (1, .int (nI t)), (2, .int (nI a)), (3, .int (nI b)), (0, .ref h)] := hl
        have L91 : ∀ (k9 : Nat) (j : Nat) (j1 : j ≤ (x.vn t a k).2.1) (j2 : cmpG x.texts (x.vn t a k).1 (x.vn t a k).2.1 (x.vn t b k).1 (x.vn t b k).2.1 ((x.vn t a k).2.1 + 1 - j) j = x.cmR t a b k) (hk9 : (x.vn t a k).2.1 - j = k9), ∀ (H : Heap) (locs : List Loc) (ls : Array Slot) (hP : va_P D vwCl (MW dA h ad (MS.s_valueLength x ((x.vn t b k).2.1))) H) (hD : va_D A (MW dA h ad (MS.s_valueLength x ((x.vn t b k).2.1)))) (hS : va_S A s.heap H locs) (hl : lv_has ls 10 [(9, .int (nI j)), (5, .int (voI (x.vn t a k))), (6, .int (nI (x.vn t a k).2.1)), (7, .int (voI (x.vn t b k))), (8, .int (nI (x.vn t b k).2.1)), (4, .int (nI k)), (1, .int (nI t)), (2, .int (nI a)), (3, .int (nI b)), (0, .ref h)]), W p l e ({ frames := 2, cells := 0, slots := 0, locals := 29 } : Room) s m ([.ref h, .int (nI t), .int (nI a), .int (nI b)] : List Value).toArray below meth c H locs 0 0 (MQ below (va_Qi (fun (r9 : Int32) (u9 : Unit) => r9 = (x.cr t a b).1) (fun (u9 : Unit) t9 => bW D A (MW dA h ad (MS.s_valueLength x ((x.cr t a b).2))) t9) A) ([.ref h, .int (nI t), .int (nI a), .int (nI b)] : List Value).toArray s 0 0 A) (F0 m 91 ls []) := by
          intro k9
          induction k9 using Nat.strongRecOn with
          | ind k9 ih91 =>
            intro j j1 j2 hk9 H locs ls hP hD hS hl
            refine lv_iload hx hb d_M_compareRows_91 (lv_at hl 0 rfl) ?_
            refine lv_iload hx hb d_M_compareRows_93 (lv_at hl 2 rfl) ?_
            refine lv_icmp_ge hx hb d_M_compareRows_95 (tgt := 156) rfl (fun g7 => ?_) (fun g7 => ?_)
            · have g7 := (nI_leI (a := (x.vn t a k).2.1) (b := j) (by omega) (by omega)).mp g7
              exact J156 (j2.symm.trans (cmpG_n (Or.inl (by omega)))) H _ ls hP hD hS (lv_sub hl [1, 2, 3, 4, 5, 6, 7, 8, 9] rfl)
            · have g7 := mt (nI_leI (a := (x.vn t a k).2.1) (b := j) (by omega) (by omega)).mpr g7
              refine lv_iload hx hb d_M_compareRows_98 (lv_at hl 0 rfl) ?_
              refine lv_iload hx hb d_M_compareRows_100 (lv_at hl 4 rfl) ?_
              refine lv_icmp_ge hx hb d_M_compareRows_102 (tgt := 156) rfl (fun g8 => ?_) (fun g8 => ?_)
              · have g8 := (nI_leI (a := (x.vn t b k).2.1) (b := j) (by omega) (by omega)).mp g8
                exact J156 (j2.symm.trans (cmpG_n (Or.inr (by omega)))) H _ ls hP hD hS (lv_sub hl [1, 2, 3, 4, 5, 6, 7, 8, 9] rfl)
              · have g8 := mt (nI_leI (a := (x.vn t b k).2.1) (b := j) (by omega) (by omega)).mpr g8
                refine lv_aload_n hx hb d_M_compareRows_105 rfl (lv_at hl 9 rfl) ?_
                refine gF (v := .ref (ad 10)) hx hb hown hE hK hP 0 rfl rfl layM 10 (by decide) w499 rfl d_M_compareRows_106 ?_
                refine lv_iload hx hb d_M_compareRows_109 (lv_at hl 1 rfl) ?_
                refine lv_iload hx hb d_M_compareRows_111 (lv_at hl 0 rfl) ?_
                refine lv_iadd hx hb d_M_compareRows_113 ?_
                refine tpi (y := nI ((x.vn t a k).1 + j)) (vo_add hta (by first | exact Nat.lt_of_not_le (by assumption) | omega)) ?_
                refine nbld (f := x.texts) hx hb hK hP 2 0 rfl rfl ((x.vn t a k).1 + j) (by omega) (by decide) d_M_compareRows_114 ?_
                refine lv_aload_n hx hb d_M_compareRows_115 rfl (lv_at hl 9 rfl) ?_
                refine gF (v := .ref (ad 10)) hx hb hown hE hK hP 0 rfl rfl layM 10 (by decide) w499 rfl d_M_compareRows_116 ?_
                refine lv_iload hx hb d_M_compareRows_119 (lv_at hl 3 rfl) ?_
                refine lv_iload hx hb d_M_compareRows_121 (lv_at hl 0 rfl) ?_
                refine lv_iadd hx hb d_M_compareRows_123 ?_
                refine tpi (y := nI ((x.vn t b k).1 + j)) (vo_add htb (by first | exact Nat.lt_of_not_le (by assumption) | omega)) ?_
                refine nbld (f := x.texts) hx hb hK hP 2 0 rfl rfl ((x.vn t b k).1 + j) (by omega) (by decide) d_M_compareRows_124 ?_
                refine lv_icmp_eq hx hb d_M_compareRows_125 (tgt := 150) rfl (fun g9 => ?_) (fun g9 => ?_)
                · have g9 := g9
                  refine lv_iinc (k := 0) (v := nI (j + 1)) hx hb d_M_compareRows_150 hl rfl (iincN (j) 1 1 (by decide)) (by decide) rfl (fun ls hl => ?_)
                  have hl : lv_has ls 10 [(9, .int (nI (j + 1))), (5, .int (voI (x.vn t a k))), (6, .int (nI (x.vn t a k).2.1)), (7, .int (voI (x.vn t b k))), (8, .int (nI (x.vn t b k).2.1)), (4, .int (nI k)), (1, .int (nI t)), (2, .int (nI a)), (3, .int (nI b)), (0, .ref h)] := hl
                  refine lv_goto hx hb d_M_compareRows_153 (tgt := 91) rfl ?_
                  exact ih91 _ (by omega) (j + 1) (by omega) (by rw [← j2, cmpG_s (w := (x.vn t a k).2.1 + 1 - j) (by omega) (by omega) (by omega) g9, show (x.vn t a k).2.1 + 1 - j - 1 = (x.vn t a k).2.1 + 1 - (j + 1) by omega]) rfl H _ ls hP hD hS (lv_sub hl [0, 1, 2, 3, 4, 5, 6, 7, 8, 9] rfl)
                · have g9 := g9
                  have ce : (x.cr t a b) = (x.texts ((x.vn t a k).1 + j) - x.texts ((x.vn t b k).1 + j), (x.vn t b k).2.1) := i2.symm.trans (cr_d (cm := x.cmR t a b) (vl := x.crL t b) (by omega) (j2.symm.trans (cmpG_d (by omega) (by omega) (by omega) g9)) g9)
                  refine lv_aload_n hx hb d_M_compareRows_128 rfl (lv_at hl 9 rfl) ?_
                  refine gF (v := .ref (ad 10)) hx hb hown hE hK hP 0 rfl rfl layM 10 (by decide) w499 rfl d_M_compareRows_129 ?_
                  refine lv_iload hx hb d_M_compareRows_132 (lv_at hl 1 rfl) ?_
                  refine lv_iload hx hb d_M_compareRows_134 (lv_at hl 0 rfl) ?_
                  refine lv_iadd hx hb d_M_compareRows_136 ?_
                  refine tpi (y := nI ((x.vn t a k).1 + j)) (vo_add hta (by first | exact Nat.lt_of_not_le (by assumption) | omega)) ?_
                  refine nbld (f := x.texts) hx hb hK hP 2 0 rfl rfl ((x.vn t a k).1 + j) (by omega) (by decide) d_M_compareRows_137 ?_
                  refine lv_aload_n hx hb d_M_compareRows_138 rfl (lv_at hl 9 rfl) ?_
                  refine gF (v := .ref (ad 10)) hx hb hown hE hK hP 0 rfl rfl layM 10 (by decide) w499 rfl d_M_compareRows_139 ?_
                  refine lv_iload hx hb d_M_compareRows_142 (lv_at hl 3 rfl) ?_
                  refine lv_iload hx hb d_M_compareRows_144 (lv_at hl 0 rfl) ?_
                  refine lv_iadd hx hb d_M_compareRows_146 ?_
                  refine tpi (y := nI ((x.vn t b k).1 + j)) (vo_add htb (by first | exact Nat.lt_of_not_le (by assumption) | omega)) ?_
                  refine nbld (f := x.texts) hx hb hK hP 2 0 rfl rfl ((x.vn t b k).1 + j) (by omega) (by decide) d_M_compareRows_147 ?_
                  refine lv_isub hx hb d_M_compareRows_148 ?_
                  have e9 : (MS.s_valueLength x ((x.vn t b k).2.1) : MS) = MS.s_valueLength x ((x.cr t a b).2) := by rw [show ((x.cr t a b).2) = ((x.vn t b k).2.1) from by (rw [ce] <;> rfl)] <;> rfl
                  exact rfI hx hb hr hlk hS () (by rw [ce]) (cvP e9 hP) (cvD e9 hD) (Nat.le_of_ble_eq_true rfl) (Nat.le_of_ble_eq_true rfl) d_M_compareRows_149
        exact L91 _ 0 (Nat.zero_le _) rfl rfl H _ ls hP hD hS (lv_sub hl [0, 4, 3, 2, 1, 5, 6, 7, 8, 9] rfl)
  exact L3 _ 0 x.valueLength (Nat.zero_le _) rfl rfl H _ ls hP hD hS (lv_sub hl [0, 2, 3, 4, 1] rfl)
