section
/-- the first place from k on where v stands, or en -/
def fbG (t : Nat → Int32) (v : Int32) (en : Nat) : Nat → Nat → Nat
  | 0, k => k
  | w + 1, k => if en ≤ k then k else if t k = v then k else fbG t v en w (k + 1)
theorem fbG_y {t : Nat → Int32} {v : Int32} {en w k : Nat} (h : t k = v) : fbG t v en w k = k := by
  cases w with
  | zero => rfl
  | succ w =>
    show (if en ≤ k then k else if t k = v then k else fbG t v en w (k + 1)) = k
    rw [if_pos h]
    split <;> rfl
theorem fbG_e {t : Nat → Int32} {v : Int32} {en w k : Nat} (h : en ≤ k) : fbG t v en w k = k := by
  cases w with
  | zero => rfl
  | succ w => exact if_pos h
theorem fbG_n {t : Nat → Int32} {v : Int32} {en k : Nat} (h0 : k < en) (h : ¬ t k = v) : fbG t v en (en - k) k = fbG t v en (en - (k + 1)) (k + 1) := by
  obtain ⟨d, hd⟩ : ∃ d, en - k = d + 1 := ⟨en - k - 1, by omega⟩
  rw [hd, show en - (k + 1) = d by omega]
  show (if en ≤ k then k else if t k = v then k else fbG t v en d (k + 1)) = _
  rw [if_neg (by omega), if_neg h]
theorem fbG_ge {t : Nat → Int32} {v : Int32} {en : Nat} : ∀ {w k : Nat}, k ≤ fbG t v en w k
  | 0, k => Nat.le_refl k
  | w + 1, k => by
    unfold fbG
    split
    · exact Nat.le_refl k
    · split
      · exact Nat.le_refl k
      · have := fbG_ge (t := t) (v := v) (en := en) (w := w) (k := k + 1)
        omega
theorem fbG_le {t : Nat → Int32} {v : Int32} {en : Nat} : ∀ {w k : Nat}, k ≤ en → fbG t v en w k ≤ en
  | 0, k, h => h
  | w + 1, k, h => by
    unfold fbG
    split
    · exact h
    · split
      · exact h
      · exact fbG_le (by omega)
def eqP (t : Nat → Int32) (en k : Nat) : Nat := fbG t 61 en (en - k) k
def cmP (t : Nat → Int32) (en k : Nat) : Nat := fbG t 44 en (en - k) k
def txEq (t tp : Nat → Int32) (k nm j : Nat) : Bool := decide (t (k + j) = tp (nm + j))
def voM (t tp : Nat → Int32) (en nm n k : Nat) : Bool := decide (eqP t en k - k = n) && allB n (txEq t tp k nm)
/-- a text's value of a name: where, how long, is it there -/
def voG (t tp : Nat → Int32) (en nm n : Nat) : Nat → Nat → Nat × Nat × Bool
  | 0, _ => (0, 0, false)
  | w + 1, k => if en ≤ k then (0, 0, false) else if voM t tp en nm n k = true then (eqP t en k + 1, cmP t en (eqP t en k) - eqP t en k - 1, true) else voG t tp en nm n w (cmP t en (eqP t en k) + 1)
/-- is this a text of labels -/
def txOK (t : Nat → Int32) (en : Nat) : Nat → Nat → Bool
  | 0, k => decide (en ≤ k)
  | w + 1, k => decide (en ≤ k) || (decide (eqP t en k < en) && (decide (cmP t en (eqP t en k) ≤ eqP t en k + 25) && txOK t en w (cmP t en (eqP t en k) + 1)))
theorem tx_pos {t : Nat → Int32} {en w k : Nat} (h : txOK t en w k = true) (hk : ¬ en ≤ k) : 0 < w ∧ eqP t en k < en ∧ cmP t en (eqP t en k) ≤ eqP t en k + 25 ∧ txOK t en (w - 1) (cmP t en (eqP t en k) + 1) = true := by
  cases w with
  | zero => exact absurd (of_decide_eq_true h) hk
  | succ w =>
    have h2 : (decide (en ≤ k) || (decide (eqP t en k < en) && (decide (cmP t en (eqP t en k) ≤ eqP t en k + 25) && txOK t en w (cmP t en (eqP t en k) + 1)))) = true := h
    rw [decide_eq_false hk, Bool.false_or, Bool.and_eq_true, Bool.and_eq_true] at h2
    exact ⟨Nat.succ_pos w, of_decide_eq_true h2.1, of_decide_eq_true h2.2.1, h2.2.2⟩
theorem voG_t {t tp : Nat → Int32} {en nm n w k q r : Nat} (hw : 0 < w) (hk : ¬ en ≤ k) (h1 : eqP t en k = q) (h2 : cmP t en q = r) (hm : voM t tp en nm n k = true) : voG t tp en nm n w k = (q + 1, r - q - 1, true) := by
  obtain ⟨d, rfl⟩ : ∃ d, w = d + 1 := ⟨w - 1, by omega⟩
  show (if en ≤ k then _ else if voM t tp en nm n k = true then _ else _) = _
  rw [if_neg hk, if_pos hm, h1, h2]
theorem voG_f {t tp : Nat → Int32} {en nm n w k q r : Nat} (hw : 0 < w) (hk : ¬ en ≤ k) (h1 : eqP t en k = q) (h2 : cmP t en q = r) (hm : voM t tp en nm n k = false) : voG t tp en nm n w k = voG t tp en nm n (w - 1) (r + 1) := by
  obtain ⟨d, rfl⟩ : ∃ d, w = d + 1 := ⟨w - 1, by omega⟩
  show (if en ≤ k then _ else if voM t tp en nm n k = true then _ else voG t tp en nm n d (cmP t en (eqP t en k) + 1)) = _
  rw [if_neg hk, if_neg (by rw [hm]; decide), h1, h2]
  rfl
theorem voG_e {t tp : Nat → Int32} {en nm n w k : Nat} (hk : en ≤ k) : voG t tp en nm n w k = (0, 0, false) := by
  cases w with
  | zero => rfl
  | succ w => exact if_pos hk
/-- the value lies in the text -/
theorem voG_in {t tp : Nat → Int32} {en nm n : Nat} : ∀ {w k : Nat}, txOK t en w k = true → (voG t tp en nm n w k).1 + (voG t tp en nm n w k).2.1 ≤ en ∧ (0 < (voG t tp en nm n w k).2.1 → (voG t tp en nm n w k).2.2 = true)
  | 0, k, _ => ⟨Nat.zero_le _, fun h => absurd h (Nat.lt_irrefl 0)⟩
  | w + 1, k, h => by
    by_cases hk : en ≤ k
    · rw [voG_e hk]
      exact ⟨Nat.zero_le _, fun h => absurd h (Nat.lt_irrefl 0)⟩
    · obtain ⟨h1, h2, -, h3⟩ := tx_pos h hk
      cases hm : voM t tp en nm n k with
      | true =>
        rw [voG_t h1 hk rfl rfl hm]
        refine ⟨?_, fun _ => rfl⟩
        have z1 := fbG_le (t := t) (v := 44) (en := en) (w := en - eqP t en k) (k := eqP t en k) (by omega)
        show eqP t en k + 1 + (cmP t en (eqP t en k) - eqP t en k - 1) ≤ en
        have z2 : cmP t en (eqP t en k) ≤ en := z1
        omega
      | false =>
        rw [voG_f h1 hk rfl rfl hm]
        exact voG_in h3
theorem voG_24 {t tp : Nat → Int32} {en nm n : Nat} : ∀ {w k : Nat}, txOK t en w k = true → (voG t tp en nm n w k).2.1 ≤ 24
  | 0, k, _ => Nat.zero_le _
  | w + 1, k, h => by
    by_cases hk : en ≤ k
    · rw [voG_e hk]
      exact Nat.zero_le _
    · obtain ⟨h1, h2, h4, h3⟩ := tx_pos h hk
      cases hm : voM t tp en nm n k with
      | true =>
        rw [voG_t h1 hk rfl rfl hm]
        show cmP t en (eqP t en k) - eqP t en k - 1 ≤ 24
        omega
      | false =>
        rw [voG_f h1 hk rfl rfl hm]
        exact voG_24 h3
def voI (z : Nat × Nat × Bool) : Int32 := if z.2.2 = true then nI z.1 else -1
theorem voI_t {z : Nat × Nat × Bool} (h : z.2.2 = true) : voI z = nI z.1 := if_pos h
def MS.vo (x : MS) (s nm n : Nat) : Nat × Nat × Bool := voG x.texts x.tape (304 * s + x.textLengths s) nm n 7 (304 * s)
/-- is the text of series s one of labels -/
def MS.tOK (x : MS) (s : Nat) : Prop := s < 256 ∧ x.textLengths s ≤ 304 ∧ txOK x.texts (304 * s + x.textLengths s) 7 (304 * s) = true
theorem vo_in {x : MS} {s nm n : Nat} (h : x.tOK s) : (x.vo s nm n).1 + (x.vo s nm n).2.1 ≤ 77824 := by
  obtain ⟨h1, h2, h3⟩ := h
  have := (voG_in (tp := x.tape) (nm := nm) (n := n) h3).1
  show (voG x.texts x.tape (304 * s + x.textLengths s) nm n 7 (304 * s)).1 + (voG x.texts x.tape (304 * s + x.textLengths s) nm n 7 (304 * s)).2.1 ≤ 77824
  omega
theorem vo_24 {x : MS} {s nm n : Nat} (h : x.tOK s) : (x.vo s nm n).2.1 ≤ 24 := voG_24 h.2.2
theorem vo_add {x : MS} {s nm n j : Nat} (h : x.tOK s) (hj : j < (x.vo s nm n).2.1) : voI (x.vo s nm n) + nI j = nI ((x.vo s nm n).1 + j) := by
  have h2 : (x.vo s nm n).2.2 = true := (voG_in (tp := x.tape) (nm := nm) (n := n) h.2.2).2 (Nat.lt_of_le_of_lt (Nat.zero_le j) hj)
  rw [voI_t h2]
  exact nI_add _ _
/-- names of table t: the value of series s -/
def MS.vn (x : MS) (t s k : Nat) : Nat × Nat × Bool := x.vo s (x.nameFroms (6 * t + k)) (x.nameLengths (6 * t + k))
def MS.cmR (x : MS) (t a b k : Nat) : Int32 := cmpT x.texts (x.vn t a k).1 (x.vn t a k).2.1 (x.vn t b k).1 (x.vn t b k).2.1
/-- two series by the names of a table, from name k on: the answer, the last length -/
def crG (cm : Nat → Int32) (vl : Nat → Nat) : Nat → Nat → Nat → Int32 × Nat
  | 0, _, v => (0, v)
  | w + 1, k, _ => if cm k = 0 then crG cm vl w (k + 1) (vl k) else (cm k, vl k)
theorem crG_0 {cm : Nat → Int32} {vl : Nat → Nat} {w k v : Nat} (hw : 0 < w) (h : cm k = 0) : crG cm vl w k v = crG cm vl (w - 1) (k + 1) (vl k) := by
  obtain ⟨d, rfl⟩ : ∃ d, w = d + 1 := ⟨w - 1, by omega⟩
  exact if_pos h
theorem crG_1 {cm : Nat → Int32} {vl : Nat → Nat} {w k v : Nat} (hw : 0 < w) (h : ¬ cm k = 0) : crG cm vl w k v = (cm k, vl k) := by
  obtain ⟨d, rfl⟩ : ∃ d, w = d + 1 := ⟨w - 1, by omega⟩
  exact if_neg h
def MS.crL (x : MS) (t b k : Nat) : Nat := (x.vn t b k).2.1
def MS.cr (x : MS) (t a b : Nat) : Int32 × Nat := crG (x.cmR t a b) (x.crL t b) (x.tableNames t) 0 x.valueLength
/-- are the names of table t on the tape -/
def MS.nOK (x : MS) (t : Nat) : Prop := t < 20 ∧ x.tableNames t ≤ 6 ∧ ∀ k : Nat, k < x.tableNames t → x.nameFroms (6 * t + k) + x.nameLengths (6 * t + k) ≤ 65536
theorem nI_inj {a b : Nat} (ha : a < 2 ^ 31) (hb : b < 2 ^ 31) (h : nI a = nI b) : a = b := by
  have h1 := congrArg Int32.toInt h
  rw [nI_toInt ha, nI_toInt hb] at h1
  omega
theorem sub_ne {a b : Int32} (h : ¬ a = b) : ¬ a - b = 0 := fun z => h (by
  have := congrArg (· + b) z
  simpa using this)
theorem cr_d {cm : Nat → Int32} {vl : Nat → Nat} {w k v : Nat} {p q : Int32} (hw : 0 < w) (h : cm k = p - q) (hn : ¬ p = q) : crG cm vl w k v = (p - q, vl k) := by
  rw [crG_1 hw (by rw [h]; exact sub_ne hn), h]
theorem cr_n {cm : Nat → Int32} {vl : Nat → Nat} {w k v n m : Nat} (hw : 0 < w) (h : cm k = nI n - nI m) (hn : n < 2 ^ 31) (hm : m < 2 ^ 31) (hne : ¬ n = m) : crG cm vl w k v = (nI n - nI m, vl k) := by
  rw [crG_1 hw (by rw [h]; exact sub_ne (fun z => hne (nI_inj hn hm z))), h]
theorem d_M_valueOf_0 : decode prog_14_method_65_code 0 = .ok (.aload_n 0, 1) := by decide +kernel
theorem d_M_valueOf_1 : decode prog_14_method_65_code 1 = .ok (.iconst 0, 1) := by decide +kernel
theorem d_M_valueOf_2 : decode prog_14_method_65_code 2 = .ok (.putfield 384, 3) := by decide +kernel
theorem d_M_valueOf_5 : decode prog_14_method_65_code 5 = .ok (.sipush 304, 3) := by decide +kernel
theorem d_M_valueOf_8 : decode prog_14_method_65_code 8 = .ok (.iload_n 1, 1) := by decide +kernel
theorem d_M_valueOf_9 : decode prog_14_method_65_code 9 = .ok (.imul, 1) := by decide +kernel
theorem d_M_valueOf_10 : decode prog_14_method_65_code 10 = .ok (.aload_n 0, 1) := by decide +kernel
theorem d_M_valueOf_11 : decode prog_14_method_65_code 11 = .ok (.getfield 32, 3) := by decide +kernel
theorem d_M_valueOf_14 : decode prog_14_method_65_code 14 = .ok (.iload_n 1, 1) := by decide +kernel
theorem d_M_valueOf_15 : decode prog_14_method_65_code 15 = .ok (.iaload, 1) := by decide +kernel
theorem d_M_valueOf_16 : decode prog_14_method_65_code 16 = .ok (.iadd, 1) := by decide +kernel
theorem d_M_valueOf_17 : decode prog_14_method_65_code 17 = .ok (.istore 4, 2) := by decide +kernel
theorem d_M_valueOf_19 : decode prog_14_method_65_code 19 = .ok (.sipush 304, 3) := by decide +kernel
theorem d_M_valueOf_22 : decode prog_14_method_65_code 22 = .ok (.iload_n 1, 1) := by decide +kernel
theorem d_M_valueOf_23 : decode prog_14_method_65_code 23 = .ok (.imul, 1) := by decide +kernel
theorem d_M_valueOf_24 : decode prog_14_method_65_code 24 = .ok (.istore 5, 2) := by decide +kernel
theorem d_M_valueOf_26 : decode prog_14_method_65_code 26 = .ok (.iload 5, 2) := by decide +kernel
theorem d_M_valueOf_28 : decode prog_14_method_65_code 28 = .ok (.iload 4, 2) := by decide +kernel
theorem d_M_valueOf_30 : decode prog_14_method_65_code 30 = .ok (.if_icmp .ge 149, 3) := by decide +kernel
theorem d_M_valueOf_179 : decode prog_14_method_65_code 179 = .ok (.iconst (-1), 1) := by decide +kernel
theorem d_M_valueOf_180 : decode prog_14_method_65_code 180 = .ok (.ireturn, 1) := by decide +kernel
theorem d_M_valueOf_33 : decode prog_14_method_65_code 33 = .ok (.iload 5, 2) := by decide +kernel
theorem d_M_valueOf_55 : decode prog_14_method_65_code 55 = .ok (.iload 6, 2) := by decide +kernel
theorem d_M_valueOf_98 : decode prog_14_method_65_code 98 = .ok (.istore 8, 2) := by decide +kernel
theorem d_M_valueOf_149 : decode prog_14_method_65_code 149 = .ok (.iload 8, 2) := by decide +kernel
theorem d_M_valueOf_151 : decode prog_14_method_65_code 151 = .ok (.ifCond .eq 19, 3) := by decide +kernel
theorem d_M_valueOf_170 : decode prog_14_method_65_code 170 = .ok (.iload 7, 2) := by decide +kernel
theorem d_M_valueOf_172 : decode prog_14_method_65_code 172 = .ok (.iconst 1, 1) := by decide +kernel
theorem d_M_valueOf_173 : decode prog_14_method_65_code 173 = .ok (.iadd, 1) := by decide +kernel
theorem d_M_valueOf_174 : decode prog_14_method_65_code 174 = .ok (.istore 5, 2) := by decide +kernel
theorem d_M_valueOf_176 : decode prog_14_method_65_code 176 = .ok (.goto (-150), 3) := by decide +kernel
theorem d_M_valueOf_154 : decode prog_14_method_65_code 154 = .ok (.aload_n 0, 1) := by decide +kernel
theorem d_M_valueOf_155 : decode prog_14_method_65_code 155 = .ok (.iload 7, 2) := by decide +kernel
theorem d_M_valueOf_157 : decode prog_14_method_65_code 157 = .ok (.iload 6, 2) := by decide +kernel
theorem d_M_valueOf_159 : decode prog_14_method_65_code 159 = .ok (.isub, 1) := by decide +kernel
theorem d_M_valueOf_160 : decode prog_14_method_65_code 160 = .ok (.iconst 1, 1) := by decide +kernel
theorem d_M_valueOf_161 : decode prog_14_method_65_code 161 = .ok (.isub, 1) := by decide +kernel
theorem d_M_valueOf_162 : decode prog_14_method_65_code 162 = .ok (.putfield 384, 3) := by decide +kernel
theorem d_M_valueOf_165 : decode prog_14_method_65_code 165 = .ok (.iload 6, 2) := by decide +kernel
theorem d_M_valueOf_167 : decode prog_14_method_65_code 167 = .ok (.iconst 1, 1) := by decide +kernel
theorem d_M_valueOf_168 : decode prog_14_method_65_code 168 = .ok (.iadd, 1) := by decide +kernel
theorem d_M_valueOf_169 : decode prog_14_method_65_code 169 = .ok (.ireturn, 1) := by decide +kernel
theorem d_M_valueOf_100 : decode prog_14_method_65_code 100 = .ok (.iconst 0, 1) := by decide +kernel
theorem d_M_valueOf_101 : decode prog_14_method_65_code 101 = .ok (.istore 9, 2) := by decide +kernel
theorem d_M_valueOf_103 : decode prog_14_method_65_code 103 = .ok (.iload 9, 2) := by decide +kernel
theorem d_M_valueOf_105 : decode prog_14_method_65_code 105 = .ok (.iload_n 3, 1) := by decide +kernel
theorem d_M_valueOf_106 : decode prog_14_method_65_code 106 = .ok (.if_icmp .ge 43, 3) := by decide +kernel
theorem d_M_valueOf_109 : decode prog_14_method_65_code 109 = .ok (.iload 8, 2) := by decide +kernel
theorem d_M_valueOf_111 : decode prog_14_method_65_code 111 = .ok (.ifCond .eq 38, 3) := by decide +kernel
theorem d_M_valueOf_114 : decode prog_14_method_65_code 114 = .ok (.aload_n 0, 1) := by decide +kernel
theorem d_M_valueOf_115 : decode prog_14_method_65_code 115 = .ok (.getfield 29, 3) := by decide +kernel
theorem d_M_valueOf_118 : decode prog_14_method_65_code 118 = .ok (.iload 5, 2) := by decide +kernel
theorem d_M_valueOf_120 : decode prog_14_method_65_code 120 = .ok (.iload 9, 2) := by decide +kernel
theorem d_M_valueOf_122 : decode prog_14_method_65_code 122 = .ok (.iadd, 1) := by decide +kernel
theorem d_M_valueOf_123 : decode prog_14_method_65_code 123 = .ok (.baload, 1) := by decide +kernel
theorem d_M_valueOf_124 : decode prog_14_method_65_code 124 = .ok (.aload_n 0, 1) := by decide +kernel
theorem d_M_valueOf_125 : decode prog_14_method_65_code 125 = .ok (.getfield 8, 3) := by decide +kernel
theorem d_M_valueOf_128 : decode prog_14_method_65_code 128 = .ok (.iload_n 2, 1) := by decide +kernel
theorem d_M_valueOf_129 : decode prog_14_method_65_code 129 = .ok (.iload 9, 2) := by decide +kernel
theorem d_M_valueOf_131 : decode prog_14_method_65_code 131 = .ok (.iadd, 1) := by decide +kernel
theorem d_M_valueOf_132 : decode prog_14_method_65_code 132 = .ok (.baload, 1) := by decide +kernel
theorem d_M_valueOf_133 : decode prog_14_method_65_code 133 = .ok (.if_icmp .ne 7, 3) := by decide +kernel
theorem d_M_valueOf_140 : decode prog_14_method_65_code 140 = .ok (.iconst 0, 1) := by decide +kernel
theorem d_M_valueOf_141 : decode prog_14_method_65_code 141 = .ok (.istore 8, 2) := by decide +kernel
theorem d_M_valueOf_143 : decode prog_14_method_65_code 143 = .ok (.iinc 9 1, 3) := by decide +kernel
theorem d_M_valueOf_146 : decode prog_14_method_65_code 146 = .ok (.goto (-43), 3) := by decide +kernel
theorem d_M_valueOf_136 : decode prog_14_method_65_code 136 = .ok (.iconst 1, 1) := by decide +kernel
theorem d_M_valueOf_137 : decode prog_14_method_65_code 137 = .ok (.goto 4, 3) := by decide +kernel
theorem d_M_valueOf_84 : decode prog_14_method_65_code 84 = .ok (.iload 6, 2) := by decide +kernel
theorem d_M_valueOf_86 : decode prog_14_method_65_code 86 = .ok (.iload 5, 2) := by decide +kernel
theorem d_M_valueOf_88 : decode prog_14_method_65_code 88 = .ok (.isub, 1) := by decide +kernel
theorem d_M_valueOf_89 : decode prog_14_method_65_code 89 = .ok (.iload_n 3, 1) := by decide +kernel
theorem d_M_valueOf_90 : decode prog_14_method_65_code 90 = .ok (.if_icmp .ne 7, 3) := by decide +kernel
theorem d_M_valueOf_97 : decode prog_14_method_65_code 97 = .ok (.iconst 0, 1) := by decide +kernel
theorem d_M_valueOf_93 : decode prog_14_method_65_code 93 = .ok (.iconst 1, 1) := by decide +kernel
theorem d_M_valueOf_94 : decode prog_14_method_65_code 94 = .ok (.goto 4, 3) := by decide +kernel
theorem d_M_valueOf_57 : decode prog_14_method_65_code 57 = .ok (.istore 7, 2) := by decide +kernel
theorem d_M_valueOf_59 : decode prog_14_method_65_code 59 = .ok (.iload 7, 2) := by decide +kernel
theorem d_M_valueOf_61 : decode prog_14_method_65_code 61 = .ok (.iload 4, 2) := by decide +kernel
theorem d_M_valueOf_63 : decode prog_14_method_65_code 63 = .ok (.if_icmp .ge 21, 3) := by decide +kernel
theorem d_M_valueOf_66 : decode prog_14_method_65_code 66 = .ok (.aload_n 0, 1) := by decide +kernel
theorem d_M_valueOf_67 : decode prog_14_method_65_code 67 = .ok (.getfield 29, 3) := by decide +kernel
theorem d_M_valueOf_70 : decode prog_14_method_65_code 70 = .ok (.iload 7, 2) := by decide +kernel
theorem d_M_valueOf_72 : decode prog_14_method_65_code 72 = .ok (.baload, 1) := by decide +kernel
theorem d_M_valueOf_73 : decode prog_14_method_65_code 73 = .ok (.bipush 44, 2) := by decide +kernel
theorem d_M_valueOf_75 : decode prog_14_method_65_code 75 = .ok (.if_icmp .eq 9, 3) := by decide +kernel
theorem d_M_valueOf_78 : decode prog_14_method_65_code 78 = .ok (.iinc 7 1, 3) := by decide +kernel
theorem d_M_valueOf_81 : decode prog_14_method_65_code 81 = .ok (.goto (-22), 3) := by decide +kernel
theorem d_M_valueOf_35 : decode prog_14_method_65_code 35 = .ok (.istore 6, 2) := by decide +kernel
theorem d_M_valueOf_37 : decode prog_14_method_65_code 37 = .ok (.aload_n 0, 1) := by decide +kernel
theorem d_M_valueOf_38 : decode prog_14_method_65_code 38 = .ok (.getfield 29, 3) := by decide +kernel
theorem d_M_valueOf_41 : decode prog_14_method_65_code 41 = .ok (.iload 6, 2) := by decide +kernel
theorem d_M_valueOf_43 : decode prog_14_method_65_code 43 = .ok (.baload, 1) := by decide +kernel
theorem d_M_valueOf_44 : decode prog_14_method_65_code 44 = .ok (.bipush 61, 2) := by decide +kernel
theorem d_M_valueOf_46 : decode prog_14_method_65_code 46 = .ok (.if_icmp .eq 9, 3) := by decide +kernel
theorem d_M_valueOf_49 : decode prog_14_method_65_code 49 = .ok (.iinc 6 1, 3) := by decide +kernel
theorem d_M_valueOf_52 : decode prog_14_method_65_code 52 = .ok (.goto (-15), 3) := by decide +kernel
theorem w977 : Cond.fieldLink "SeriesVaultModel" 384 "SeriesVaultModel" "valueLength" "I" ∈ aW := aw_of (tb_8 (List.mem_of_getElem? (i := 234) rfl)) rfl
set_option maxHeartbeats 4000000 in
set_option maxRecDepth 100000 in
theorem k_valueOf (l : Launch) (D : va_G) (dA : Nat → ClassId) (sz : Nat) (h : Nat) (ad : Nat → Nat) (x : MS) (s7 : Nat) (nm : Nat) (n : Nat) (hok : x.tOK s7) (hnm : nm + n ≤ 65536) : Met l ⟨"SeriesVaultModel", "valueOf", "(III)I"⟩ [Cond.code ⟨"SeriesVaultModel", "valueOf", "(III)I"⟩ prog_14_method_65_code 10 (some FieldType.int)] { frames := 1, cells := 0, slots := 0, locals := 0 } (pC D dA [.ref h, .int (nI s7), .int (nI nm), .int (nI n)] (MW dA h ad x) sz) (va_Qi (fun (r9 : Int32) (u9 : Unit) => r9 = voI (x.vo s7 nm n)) (fun (u9 : Unit) t9 => bW D (va_A (MW dA h ad x) sz) (MW dA h ad (MS.s_valueLength x ((x.vo s7 nm n).2.1))) t9) (va_A (MW dA h ad x) sz)) 0 0 (va_A (MW dA h ad x) sz) := by
  refine mkC (y := ⟨"SeriesVaultModel", "valueOf", "(III)I"⟩) (cc := prog_14_method_65_code) (maxL := 10) (av := [.ref h, .int (nI s7), .int (nI nm), .int (nI n)]) (ws := MW dA h ad x) (sz := sz) (Qc := fun A => va_Qi (fun (r9 : Int32) (u9 : Unit) => r9 = voI (x.vo s7 nm n)) (fun (u9 : Unit) t9 => bW D A (MW dA h ad (MS.s_valueLength x ((x.vo s7 nm n).2.1))) t9) A) (by decide) (Nat.le_of_ble_eq_true rfl) ?_
  intro A p e s m below meth c ls hsz hB
  obtain ⟨hx, hb, hr, hml, hown, hin, hlk, hE, hK, hP, hD, hS, hA, hN, hl⟩ := hB
  have hown : s.vm.findClass "SeriesVaultModel" = some m.cls := hown
  have hl : lv_has ls 10 [(0, .ref h), (1, .int (nI s7)), (2, .int (nI nm)), (3, .int (nI n))] := hl
  obtain ⟨H, hH⟩ : ∃ z, z = s.heap := ⟨_, rfl⟩
  have hP : va_P D vwCl (MW dA h ad x) H := by rw [hH]; exact hP
  have hS : va_S A s.heap H [] := by rw [hH]; exact hS
  rw [← hH]
  obtain ⟨hs7, htl, htx⟩ := hok
  refine lv_aload_n hx hb d_M_valueOf_0 rfl (lv_at hl 0 rfl) ?_
  refine lv_iconst (v := 0) hx hb d_M_valueOf_1 (by decide) ?_
  refine pF (v := .int (nI 0)) hx hb hown hE hK hP hD hS 0 rfl rfl layM tyM tokM nmM 60 (by decide) w977 rfl rfl rfl (Nat.le_of_ble_eq_true rfl) d_M_valueOf_2 (fun H locs hP hD hS => ?_)
  have hP : va_P D vwCl (MW dA h ad (MS.s_valueLength x 0)) H := hP
  have hD : va_D A (MW dA h ad (MS.s_valueLength x 0)) := hD
  refine lv_sipush (v := 304) hx hb d_M_valueOf_5 (by decide) ?_
  refine lv_iload_n hx hb d_M_valueOf_8 rfl (lv_at hl 1 rfl) ?_
  refine lv_imul hx hb d_M_valueOf_9 (tpi (y := nI (304 * s7)) (pk_mul (304) (s7)) ?_)
  refine lv_aload_n hx hb d_M_valueOf_10 rfl (lv_at hl 0 rfl) ?_
  refine gF (v := .ref (ad 11)) hx hb hown hE hK hP 0 rfl rfl layM 11 (by decide) w500 rfl d_M_valueOf_11 ?_
  refine lv_iload_n hx hb d_M_valueOf_14 rfl (lv_at hl 1 rfl) ?_
  refine nild (f := (fun z9 => nI (x.textLengths z9))) hx hb hK hP 3 1 rfl rfl (s7) (by omega) (by decide) d_M_valueOf_15 ?_
  refine lv_iadd hx hb d_M_valueOf_16 (tpi (y := nI ((304 * s7) + (x.textLengths s7))) (nI_add (304 * s7) (x.textLengths s7)) ?_)
  refine lv_istore hx hb d_M_valueOf_17 hl (by decide) rfl (fun ls hl => ?_)
  have hl : lv_has ls 10 [(4, .int (nI ((304 * s7) + (x.textLengths s7)))), (0, .ref h), (1, .int (nI s7)), (2, .int (nI nm)), (3, .int (nI n))] := hl
  refine lv_sipush (v := 304) hx hb d_M_valueOf_19 (by decide) ?_
  refine lv_iload_n hx hb d_M_valueOf_22 rfl (lv_at hl 2 rfl) ?_
  refine lv_imul hx hb d_M_valueOf_23 (tpi (y := nI (304 * s7)) (pk_mul (304) (s7)) ?_)
  refine lv_istore hx hb d_M_valueOf_24 hl (by decide) rfl (fun ls hl => ?_)
  have hl : lv_has ls 10 [(5, .int (nI (304 * s7))), (4, .int (nI ((304 * s7) + (x.textLengths s7)))), (0, .ref h), (1, .int (nI s7)), (2, .int (nI nm)), (3, .int (nI n))] := hl
  have L26 : ∀ (k9 : Nat) (k : Nat) (w : Nat) (i1 : voG x.texts x.tape (304 * s7 + x.textLengths s7) nm n w k = x.vo s7 nm n) (i2 : txOK x.texts (304 * s7 + x.textLengths s7) w k = true) (i3 : k ≤ 77825) (hk9 : w = k9), ∀ (H : Heap) (locs : List Loc) (ls : Array Slot) (hP : va_P D vwCl (MW dA h ad (MS.s_valueLength x 0)) H) (hD : va_D A (MW dA h ad (MS.s_valueLength x 0))) (hS : va_S A s.heap H locs) (hl : lv_has ls 10 [(5, .int (nI k)), (1, .int (nI s7)), (2, .int (nI nm)), (3, .int (nI n)), (0, .ref h), (4, .int (nI (304 * s7 + x.textLengths s7)))]), W p l e ({ frames := 1, cells := 0, slots := 0, locals := 0 } : Room) s m ([.ref h, .int (nI s7), .int (nI nm), .int (nI n)] : List Value).toArray below meth c H locs 0 0 (MQ below (va_Qi (fun (r9 : Int32) (u9 : Unit) => r9 = voI (x.vo s7 nm n)) (fun (u9 : Unit) t9 => bW D A (MW dA h ad (MS.s_valueLength x ((x.vo s7 nm n).2.1))) t9) A) ([.ref h, .int (nI s7), .int (nI nm), .int (nI n)] : List Value).toArray s 0 0 A) (F0 m 26 ls []) := by
    intro k9
    induction k9 using Nat.strongRecOn with
    | ind k9 ih26 =>
      intro k w i1 i2 i3 hk9 H locs ls hP hD hS hl
      refine lv_iload hx hb d_M_valueOf_26 (lv_at hl 0 rfl) ?_
      refine lv_iload hx hb d_M_valueOf_28 (lv_at hl 5 rfl) ?_
      refine lv_icmp_ge hx hb d_M_valueOf_30 (tgt := 179) rfl (fun g1 => ?_) (fun g1 => ?_)
      · have g1 := (nI_leI (a := 304 * s7 + x.textLengths s7) (b := k) (by omega) (by omega)).mp g1
        have ve : x.vo s7 nm n = (0, 0, false) := i1.symm.trans (voG_e (by omega))
        refine lv_iconst (v := (-1)) hx hb d_M_valueOf_179 (by decide) ?_
        have e9 : (MS.s_valueLength x 0 : MS) = MS.s_valueLength x ((x.vo s7 nm n).2.1) := by rw [show ((x.vo s7 nm n).2.1) = 0 from by (rw [ve])] <;> rfl
        exact rfI hx hb hr hlk hS () (by rw [ve]; rfl) (cvP e9 hP) (cvD e9 hD) (Nat.le_of_ble_eq_true rfl) (Nat.le_of_ble_eq_true rfl) d_M_valueOf_180
      · have g1 := mt (nI_leI (a := 304 * s7 + x.textLengths s7) (b := k) (by omega) (by omega)).mpr g1
        have gk : ¬ (304 * s7 + x.textLengths s7) ≤ k := by omega
        obtain ⟨w1, w2, _, w3⟩ := tx_pos i2 gk
        refine lv_iload hx hb d_M_valueOf_33 (lv_at hl 0 rfl) ?_
        have J55 : ∀ (q : Nat) (e1 : eqP x.texts (304 * s7 + x.textLengths s7) k = q) (e4 : x.texts q = 61), ∀ (H : Heap) (locs : List Loc) (ls : Array Slot) (hP : va_P D vwCl (MW dA h ad (MS.s_valueLength x 0)) H) (hD : va_D A (MW dA h ad (MS.s_valueLength x 0))) (hS : va_S A s.heap H locs) (hl : lv_has ls 10 [(6, .int (nI q)), (5, .int (nI k)), (1, .int (nI s7)), (2, .int (nI nm)), (3, .int (nI n)), (0, .ref h), (4, .int (nI (304 * s7 + x.textLengths s7)))]), W p l e ({ frames := 1, cells := 0, slots := 0, locals := 0 } : Room) s m ([.ref h, .int (nI s7), .int (nI nm), .int (nI n)] : List Value).toArray below meth c H locs 0 0 (MQ below (va_Qi (fun (r9 : Int32) (u9 : Unit) => r9 = voI (x.vo s7 nm n)) (fun (u9 : Unit) t9 => bW D A (MW dA h ad (MS.s_valueLength x ((x.vo s7 nm n).2.1))) t9) A) ([.ref h, .int (nI s7), .int (nI nm), .int (nI n)] : List Value).toArray s 0 0 A) (F0 m 55 ls []) := by
          intro q e1 e4 H locs ls hP hD hS hl
          have e2 : k ≤ q := by rw [← e1]; exact fbG_ge
          have e3 : q < (304 * s7 + x.textLengths s7) := by rw [← e1]; exact w2
          refine lv_iload hx hb d_M_valueOf_55 (lv_at hl 0 rfl) ?_
          have J84 : ∀ (r : Nat) (c1 : cmP x.texts (304 * s7 + x.textLengths s7) q = r) (c2 : r ≤ (304 * s7 + x.textLengths s7)) (c3 : q < r), ∀ (H : Heap) (locs : List Loc) (ls : Array Slot) (hP : va_P D vwCl (MW dA h ad (MS.s_valueLength x 0)) H) (hD : va_D A (MW dA h ad (MS.s_valueLength x 0))) (hS : va_S A s.heap H locs) (hl : lv_has ls 10 [(7, .int (nI r)), (6, .int (nI q)), (5, .int (nI k)), (1, .int (nI s7)), (2, .int (nI nm)), (3, .int (nI n)), (0, .ref h), (4, .int (nI (304 * s7 + x.textLengths s7)))]), W p l e ({ frames := 1, cells := 0, slots := 0, locals := 0 } : Room) s m ([.ref h, .int (nI s7), .int (nI nm), .int (nI n)] : List Value).toArray below meth c H locs 0 0 (MQ below (va_Qi (fun (r9 : Int32) (u9 : Unit) => r9 = voI (x.vo s7 nm n)) (fun (u9 : Unit) t9 => bW D A (MW dA h ad (MS.s_valueLength x ((x.vo s7 nm n).2.1))) t9) A) ([.ref h, .int (nI s7), .int (nI nm), .int (nI n)] : List Value).toArray s 0 0 A) (F0 m 84 ls []) := by
            intro r c1 c2 c3 H locs ls hP hD hS hl
            have J98 : ∀ (v : Bool) (v1 : decide (q - k = n) = v), ∀ (H : Heap) (locs : List Loc) (ls : Array Slot) (hP : va_P D vwCl (MW dA h ad (MS.s_valueLength x 0)) H) (hD : va_D A (MW dA h ad (MS.s_valueLength x 0))) (hS : va_S A s.heap H locs) (hl : lv_has ls 10 [(7, .int (nI r)), (6, .int (nI q)), (5, .int (nI k)), (1, .int (nI s7)), (2, .int (nI nm)), (3, .int (nI n)), (0, .ref h), (4, .int (nI (304 * s7 + x.textLengths s7)))]), W p l e ({ frames := 1, cells := 0, slots := 0, locals := 0 } : Room) s m ([.ref h, .int (nI s7), .int (nI nm), .int (nI n)] : List Value).toArray below meth c H locs 0 0 (MQ below (va_Qi (fun (r9 : Int32) (u9 : Unit) => r9 = voI (x.vo s7 nm n)) (fun (u9 : Unit) t9 => bW D A (MW dA h ad (MS.s_valueLength x ((x.vo s7 nm n).2.1))) t9) A) ([.ref h, .int (nI s7), .int (nI nm), .int (nI n)] : List Value).toArray s 0 0 A) (F0 m 98 ls [.int (bI v)]) := by
              intro v v1 H locs ls hP hD hS hl
              refine lv_istore hx hb d_M_valueOf_98 hl (by decide) rfl (fun ls hl => ?_)
              have hl : lv_has ls 10 [(8, .int (bI v)), (7, .int (nI r)), (6, .int (nI q)), (5, .int (nI k)), (1, .int (nI s7)), (2, .int (nI nm)), (3, .int (nI n)), (0, .ref h), (4, .int (nI (304 * s7 + x.textLengths s7)))] := hl
              have J149 : ∀ (v : Bool) (m5 : voM x.texts x.tape (304 * s7 + x.textLengths s7) nm n k = v), ∀ (H : Heap) (locs : List Loc) (ls : Array Slot) (hP : va_P D vwCl (MW dA h ad (MS.s_valueLength x 0)) H) (hD : va_D A (MW dA h ad (MS.s_valueLength x 0))) (hS : va_S A s.heap H locs) (hl : lv_has ls 10 [(8, .int (bI v)), (7, .int (nI r)), (6, .int (nI q)), (5, .int (nI k)), (1, .int (nI s7)), (2, .int (nI nm)), (3, .int (nI n)), (0, .ref h), (4, .int (nI (304 * s7 + x.textLengths s7)))]), W p l e ({ frames := 1, cells := 0, slots := 0, locals := 0 } : Room) s m ([.ref h, .int (nI s7), .int (nI nm), .int (nI n)] : List Value).toArray below meth c H locs 0 0 (MQ below (va_Qi (fun (r9 : Int32) (u9 : Unit) => r9 = voI (x.vo s7 nm n)) (fun (u9 : Unit) t9 => bW D A (MW dA h ad (MS.s_valueLength x ((x.vo s7 nm n).2.1))) t9) A) ([.ref h, .int (nI s7), .int (nI nm), .int (nI n)] : List Value).toArray s 0 0 A) (F0 m 149 ls []) := by
                intro v m5 H locs ls hP hD hS hl
                refine lv_iload hx hb d_M_valueOf_149 (lv_at hl 0 rfl) ?_
                refine lv_if_eq hx hb d_M_valueOf_151 (tgt := 170) rfl (fun g2 => ?_) (fun g2 => ?_)
                · have g2 := bI_0 g2
                  refine lv_iload hx hb d_M_valueOf_170 (lv_at hl 1 rfl) ?_
                  refine lv_iconst (v := 1) hx hb d_M_valueOf_172 (by decide) ?_
                  refine lv_iadd hx hb d_M_valueOf_173 (tpi (y := nI (r + 1)) (nI_add (r) (1)) ?_)
                  refine lv_istore hx hb d_M_valueOf_174 hl (by decide) rfl (fun ls hl => ?_)
                  have hl : lv_has ls 10 [(5, .int (nI (r + 1))), (8, .int (bI v)), (7, .int (nI r)), (6, .int (nI q)), (1, .int (nI s7)), (2, .int (nI nm)), (3, .int (nI n)), (0, .ref h), (4, .int (nI (304 * s7 + x.textLengths s7)))] := hl
                  refine lv_goto hx hb d_M_valueOf_176 (tgt := 26) rfl ?_
                  exact ih26 _ (by omega) (r + 1) (w - 1) (by rw [← i1, voG_f w1 gk e1 c1 (m5.trans g2)]) (by rw [← c1, ← e1]; exact w3) (by omega) rfl H _ ls hP hD hS (lv_sub hl [0, 4, 5, 6, 7, 8] rfl)
                · have g2 := bI_n0 g2
                  have ve : x.vo s7 nm n = (q + 1, r - q - 1, true) := i1.symm.trans (voG_t w1 gk e1 c1 (m5.trans g2))
                  refine lv_aload_n hx hb d_M_valueOf_154 rfl (lv_at hl 7 rfl) ?_
                  refine lv_iload hx hb d_M_valueOf_155 (lv_at hl 1 rfl) ?_
                  refine lv_iload hx hb d_M_valueOf_157 (lv_at hl 2 rfl) ?_
                  refine lv_isub hx hb d_M_valueOf_159 (tpi (y := nI (r - q)) (pk_sub (a := r) (b := q) (by omega)) ?_)
                  refine lv_iconst (v := 1) hx hb d_M_valueOf_160 (by decide) ?_
                  refine lv_isub hx hb d_M_valueOf_161 (tpi (y := nI ((r - q) - 1)) (pk_sub (a := r - q) (b := 1) (by omega)) ?_)
                  refine pF (v := .int (nI ((r - q) - 1))) hx hb hown hE hK hP hD hS 0 rfl rfl layM tyM tokM nmM 60 (by decide) w977 rfl rfl rfl (Nat.le_of_ble_eq_true rfl) d_M_valueOf_162 (fun H locs hP hD hS => ?_)
                  have hP : va_P D vwCl (MW dA h ad (MS.s_valueLength x ((r - q) - 1))) H := hP
                  have hD : va_D A (MW dA h ad (MS.s_valueLength x ((r - q) - 1))) := hD
                  refine lv_iload hx hb d_M_valueOf_165 (lv_at hl 2 rfl) ?_
                  refine lv_iconst (v := 1) hx hb d_M_valueOf_167 (by decide) ?_
                  refine lv_iadd hx hb d_M_valueOf_168 (tpi (y := nI (q + 1)) (nI_add (q) (1)) ?_)
                  have e9 : (MS.s_valueLength x ((r - q) - 1) : MS) = MS.s_valueLength x ((x.vo s7 nm n).2.1) := by rw [show ((x.vo s7 nm n).2.1) = ((r - q) - 1) from by (rw [ve])] <;> rfl
                  exact rfI hx hb hr hlk hS () (by rw [ve]; rfl) (cvP e9 hP) (cvD e9 hD) (Nat.le_of_ble_eq_true rfl) (Nat.le_of_ble_eq_true rfl) d_M_valueOf_169
              refine lv_iconst (v := 0) hx hb d_M_valueOf_100 (by decide) ?_
              refine lv_istore hx hb d_M_valueOf_101 hl (by decide) rfl (fun ls hl => ?_)
              have hl : lv_has ls 10 [(9, .int 0), (8, .int (bI v)), (7, .int (nI r)), (6, .int (nI q)), (5, .int (nI k)), (1, .int (nI s7)), (2, .int (nI nm)), (3, .int (nI n)), (0, .ref h), (4, .int (nI (304 * s7 + x.textLengths s7)))] := hl
              have L103 : ∀ (k9 : Nat) (j : Nat) (v : Bool) (m1 : j ≤ n) (m2 : (decide (q - k = n) && allB j (txEq x.texts x.tape k nm)) = v) (hk9 : n - j = k9), ∀ (H : Heap) (locs : List Loc) (ls : Array Slot) (hP : va_P D vwCl (MW dA h ad (MS.s_valueLength x 0)) H) (hD : va_D A (MW dA h ad (MS.s_valueLength x 0))) (hS : va_S A s.heap H locs) (hl : lv_has ls 10 [(9, .int (nI j)), (8, .int (bI v)), (7, .int (nI r)), (6, .int (nI q)), (5, .int (nI k)), (1, .int (nI s7)), (2, .int (nI nm)), (3, .int (nI n)), (0, .ref h), (4, .int (nI (304 * s7 + x.textLengths s7)))]), W p l e ({ frames := 1, cells := 0, slots := 0, locals := 0 } : Room) s m ([.ref h, .int (nI s7), .int (nI nm), .int (nI n)] : List Value).toArray below meth c H locs 0 0 (MQ below (va_Qi (fun (r9 : Int32) (u9 : Unit) => r9 = voI (x.vo s7 nm n)) (fun (u9 : Unit) t9 => bW D A (MW dA h ad (MS.s_valueLength x ((x.vo s7 nm n).2.1))) t9) A) ([.ref h, .int (nI s7), .int (nI nm), .int (nI n)] : List Value).toArray s 0 0 A) (F0 m 103 ls []) := by
                intro k9
                induction k9 using Nat.strongRecOn with
                | ind k9 ih103 =>
                  intro j v m1 m2 hk9 H locs ls hP hD hS hl
                  refine lv_iload hx hb d_M_valueOf_103 (lv_at hl 0 rfl) ?_
                  refine lv_iload_n hx hb d_M_valueOf_105 rfl (lv_at hl 7 rfl) ?_
                  refine lv_icmp_ge hx hb d_M_valueOf_106 (tgt := 149) rfl (fun g3 => ?_) (fun g3 => ?_)
                  · have g3 := (nI_leI (a := n) (b := j) (by omega) (by omega)).mp g3
                    exact J149 v (by unfold voM; rw [e1]; exact and_end m1 m2 (Or.inl (by omega))) H _ ls hP hD hS (lv_sub hl [1, 2, 3, 4, 5, 6, 7, 8, 9] rfl)
                  · have g3 := mt (nI_leI (a := n) (b := j) (by omega) (by omega)).mpr g3
                    refine lv_iload hx hb d_M_valueOf_109 (lv_at hl 1 rfl) ?_
                    refine lv_if_eq hx hb d_M_valueOf_111 (tgt := 149) rfl (fun g4 => ?_) (fun g4 => ?_)
                    · have g4 := bI_0 g4
                      exact J149 v (by unfold voM; rw [e1]; exact and_end m1 m2 (Or.inr g4)) H _ ls hP hD hS (lv_sub hl [1, 2, 3, 4, 5, 6, 7, 8, 9] rfl)
                    · have g4 := bI_n0 g4
                      have l5 : q - k = n := of_decide_eq_true (and_l m2 g4)
                      refine lv_aload_n hx hb d_M_valueOf_114 rfl (lv_at hl 8 rfl) ?_
                      refine gF (v := .ref (ad 10)) hx hb hown hE hK hP 0 rfl rfl layM 10 (by decide) w499 rfl d_M_valueOf_115 ?_
                      refine lv_iload hx hb d_M_valueOf_118 (lv_at hl 4 rfl) ?_
                      refine lv_iload hx hb d_M_valueOf_120 (lv_at hl 0 rfl) ?_
                      refine lv_iadd hx hb d_M_valueOf_122 (tpi (y := nI (k + j)) (nI_add (k) (j)) ?_)
                      refine nbld (f := x.texts) hx hb hK hP 2 0 rfl rfl (k + j) (by omega) (by decide) d_M_valueOf_123 ?_
                      refine lv_aload_n hx hb d_M_valueOf_124 rfl (lv_at hl 8 rfl) ?_
                      refine gF (v := .ref (ad 1)) hx hb hown hE hK hP 0 rfl rfl layM 1 (by decide) w497 rfl d_M_valueOf_125 ?_
                      refine lv_iload_n hx hb d_M_valueOf_128 rfl (lv_at hl 6 rfl) ?_
                      refine lv_iload hx hb d_M_valueOf_129 (lv_at hl 0 rfl) ?_
                      refine lv_iadd hx hb d_M_valueOf_131 (tpi (y := nI (nm + j)) (nI_add (nm) (j)) ?_)
                      refine nbld (f := x.tape) hx hb hK hP 1 0 rfl rfl (nm + j) (by omega) (by decide) d_M_valueOf_132 ?_
                      refine lv_icmp_ne hx hb d_M_valueOf_133 (tgt := 140) rfl (fun g5 => ?_) (fun g5 => ?_)
                      · have g5 := g5
                        refine lv_iconst (v := 0) hx hb d_M_valueOf_140 (by decide) ?_
                        refine lv_istore hx hb d_M_valueOf_141 hl (by decide) rfl (fun ls hl => ?_)
                        have hl : lv_has ls 10 [(8, .int 0), (9, .int (nI j)), (7, .int (nI r)), (6, .int (nI q)), (5, .int (nI k)), (1, .int (nI s7)), (2, .int (nI nm)), (3, .int (nI n)), (0, .ref h), (4, .int (nI (304 * s7 + x.textLengths s7)))] := hl
                        refine lv_iinc (k := 1) (v := nI (j + 1)) hx hb d_M_valueOf_143 hl rfl (iincN (j) 1 1 (by decide)) (by decide) rfl (fun ls hl => ?_)
                        have hl : lv_has ls 10 [(9, .int (nI (j + 1))), (8, .int 0), (7, .int (nI r)), (6, .int (nI q)), (5, .int (nI k)), (1, .int (nI s7)), (2, .int (nI nm)), (3, .int (nI n)), (0, .ref h), (4, .int (nI (304 * s7 + x.textLengths s7)))] := hl
                        refine lv_goto hx hb d_M_valueOf_146 (tgt := 103) rfl ?_
                        exact ih103 _ (by omega) (j + 1) false (by omega) (by rw [allB_s, ← Bool.and_assoc, m2, g4]; exact decide_eq_false g5) rfl H _ ls hP hD hS (lv_sub hl [0, 1, 2, 3, 4, 5, 6, 7, 8, 9] rfl)
                      · have g5 := g5
                        refine lv_iconst (v := 1) hx hb d_M_valueOf_136 (by decide) ?_
                        refine lv_goto hx hb d_M_valueOf_137 (tgt := 141) rfl ?_
                        refine lv_istore hx hb d_M_valueOf_141 hl (by decide) rfl (fun ls hl => ?_)
                        have hl : lv_has ls 10 [(8, .int 1), (9, .int (nI j)), (7, .int (nI r)), (6, .int (nI q)), (5, .int (nI k)), (1, .int (nI s7)), (2, .int (nI nm)), (3, .int (nI n)), (0, .ref h), (4, .int (nI (304 * s7 + x.textLengths s7)))] := hl
                        refine lv_iinc (k := 1) (v := nI (j + 1)) hx hb d_M_valueOf_143 hl rfl (iincN (j) 1 1 (by decide)) (by decide) rfl (fun ls hl => ?_)
                        have hl : lv_has ls 10 [(9, .int (nI (j + 1))), (8, .int 1), (7, .int (nI r)), (6, .int (nI q)), (5, .int (nI k)), (1, .int (nI s7)), (2, .int (nI nm)), (3, .int (nI n)), (0, .ref h), (4, .int (nI (304 * s7 + x.textLengths s7)))] := hl
                        refine lv_goto hx hb d_M_valueOf_146 (tgt := 103) rfl ?_
                        exact ih103 _ (by omega) (j + 1) true (by omega) (by rw [allB_s, ← Bool.and_assoc, m2, g4]; exact decide_eq_true g5) rfl H _ ls hP hD hS (lv_sub hl [0, 1, 2, 3, 4, 5, 6, 7, 8, 9] rfl)
              exact L103 _ 0 v (Nat.zero_le _) (by rw [v1]; exact Bool.and_true _) rfl H _ ls hP hD hS (lv_sub hl [0, 1, 2, 3, 4, 5, 6, 7, 8, 9] rfl)
            refine lv_iload hx hb d_M_valueOf_84 (lv_at hl 1 rfl) ?_
            refine lv_iload hx hb d_M_valueOf_86 (lv_at hl 2 rfl) ?_
            refine lv_isub hx hb d_M_valueOf_88 (tpi (y := nI (q - k)) (pk_sub (a := q) (b := k) (by omega)) ?_)
            refine lv_iload_n hx hb d_M_valueOf_89 rfl (lv_at hl 5 rfl) ?_
            refine lv_icmp_ne hx hb d_M_valueOf_90 (tgt := 97) rfl (fun g6 => ?_) (fun g6 => ?_)
            · have g6 := mt (nI_eq (a := q - k) (b := n) (by omega) (by omega)).mpr g6
              refine lv_iconst (v := 0) hx hb d_M_valueOf_97 (by decide) ?_
              exact J98 false (decide_eq_false g6) H _ ls hP hD hS (lv_sub hl [0, 1, 2, 3, 4, 5, 6, 7] rfl)
            · have g6 := (nI_eq (a := q - k) (b := n) (by omega) (by omega)).mp g6
              refine lv_iconst (v := 1) hx hb d_M_valueOf_93 (by decide) ?_
              refine lv_goto hx hb d_M_valueOf_94 (tgt := 98) rfl ?_
              exact J98 true (decide_eq_true g6) H _ ls hP hD hS (lv_sub hl [0, 1, 2, 3, 4, 5, 6, 7] rfl)
          refine lv_istore hx hb d_M_valueOf_57 hl (by decide) rfl (fun ls hl => ?_)
          have hl : lv_has ls 10 [(7, .int (nI q)), (6, .int (nI q)), (5, .int (nI k)), (1, .int (nI s7)), (2, .int (nI nm)), (3, .int (nI n)), (0, .ref h), (4, .int (nI (304 * s7 + x.textLengths s7)))] := hl
          have L59 : ∀ (k9 : Nat) (r : Nat) (r1 : fbG x.texts 44 (304 * s7 + x.textLengths s7) ((304 * s7 + x.textLengths s7) - r) r = cmP x.texts (304 * s7 + x.textLengths s7) q) (r2 : r ≤ (304 * s7 + x.textLengths s7)) (r3 : q ≤ r) (hk9 : (304 * s7 + x.textLengths s7) - r = k9), ∀ (H : Heap) (locs : List Loc) (ls : Array Slot) (hP : va_P D vwCl (MW dA h ad (MS.s_valueLength x 0)) H) (hD : va_D A (MW dA h ad (MS.s_valueLength x 0))) (hS : va_S A s.heap H locs) (hl : lv_has ls 10 [(7, .int (nI r)), (6, .int (nI q)), (5, .int (nI k)), (1, .int (nI s7)), (2, .int (nI nm)), (3, .int (nI n)), (0, .ref h), (4, .int (nI (304 * s7 + x.textLengths s7)))]), W p l e ({ frames := 1, cells := 0, slots := 0, locals := 0 } : Room) s m ([.ref h, .int (nI s7), .int (nI nm), .int (nI n)] : List Value).toArray below meth c H locs 0 0 (MQ below (va_Qi (fun (r9 : Int32) (u9 : Unit) => r9 = voI (x.vo s7 nm n)) (fun (u9 : Unit) t9 => bW D A (MW dA h ad (MS.s_valueLength x ((x.vo s7 nm n).2.1))) t9) A) ([.ref h, .int (nI s7), .int (nI nm), .int (nI n)] : List Value).toArray s 0 0 A) (F0 m 59 ls []) := by
            intro k9
            induction k9 using Nat.strongRecOn with
            | ind k9 ih59 =>
              intro r r1 r2 r3 hk9 H locs ls hP hD hS hl
              refine lv_iload hx hb d_M_valueOf_59 (lv_at hl 0 rfl) ?_
              refine lv_iload hx hb d_M_valueOf_61 (lv_at hl 7 rfl) ?_
              refine lv_icmp_ge hx hb d_M_valueOf_63 (tgt := 84) rfl (fun g7 => ?_) (fun g7 => ?_)
              · have g7 := (nI_leI (a := 304 * s7 + x.textLengths s7) (b := r) (by omega) (by omega)).mp g7
                exact J84 r (r1.symm.trans (fbG_e g7)) (by omega) (by omega) H _ ls hP hD hS (lv_sub hl [0, 1, 2, 3, 4, 5, 6, 7] rfl)
              · have g7 := mt (nI_leI (a := 304 * s7 + x.textLengths s7) (b := r) (by omega) (by omega)).mpr g7
                refine lv_aload_n hx hb d_M_valueOf_66 rfl (lv_at hl 6 rfl) ?_
                refine gF (v := .ref (ad 10)) hx hb hown hE hK hP 0 rfl rfl layM 10 (by decide) w499 rfl d_M_valueOf_67 ?_
                refine lv_iload hx hb d_M_valueOf_70 (lv_at hl 0 rfl) ?_
                refine nbld (f := x.texts) hx hb hK hP 2 0 rfl rfl (r) (by omega) (by decide) d_M_valueOf_72 ?_
                refine lv_bipush (v := 44) hx hb d_M_valueOf_73 (by decide) ?_
                refine lv_icmp_eq hx hb d_M_valueOf_75 (tgt := 84) rfl (fun g8 => ?_) (fun g8 => ?_)
                · have g8 := g8
                  exact J84 r (r1.symm.trans (fbG_y g8)) (by omega) (Nat.lt_of_le_of_ne r3 (fun z9 => absurd (g8.symm.trans ((congrArg x.texts z9).symm.trans e4)) (by decide))) H _ ls hP hD hS (lv_sub hl [0, 1, 2, 3, 4, 5, 6, 7] rfl)
                · have g8 := g8
                  refine lv_iinc (k := 0) (v := nI (r + 1)) hx hb d_M_valueOf_78 hl rfl (iincN (r) 1 1 (by decide)) (by decide) rfl (fun ls hl => ?_)
                  have hl : lv_has ls 10 [(7, .int (nI (r + 1))), (6, .int (nI q)), (5, .int (nI k)), (1, .int (nI s7)), (2, .int (nI nm)), (3, .int (nI n)), (0, .ref h), (4, .int (nI (304 * s7 + x.textLengths s7)))] := hl
                  refine lv_goto hx hb d_M_valueOf_81 (tgt := 59) rfl ?_
                  exact ih59 _ (by omega) (r + 1) ((fbG_n (by omega) g8).symm.trans r1) (by omega) (by omega) rfl H _ ls hP hD hS (lv_sub hl [0, 1, 2, 3, 4, 5, 6, 7] rfl)
          exact L59 _ q rfl (by omega) (by omega) rfl H _ ls hP hD hS (lv_sub hl [0, 1, 2, 3, 4, 5, 6, 7] rfl)
        refine lv_istore hx hb d_M_valueOf_35 hl (by decide) rfl (fun ls hl => ?_)
        have hl : lv_has ls 10 [(6, .int (nI k)), (5, .int (nI k)), (1, .int (nI s7)), (2, .int (nI nm)), (3, .int (nI n)), (0, .ref h), (4, .int (nI (304 * s7 + x.textLengths s7)))] := hl
        have L37 : ∀ (k9 : Nat) (q : Nat) (q1 : fbG x.texts 61 (304 * s7 + x.textLengths s7) ((304 * s7 + x.textLengths s7) - q) q = eqP x.texts (304 * s7 + x.textLengths s7) k) (hk9 : (304 * s7 + x.textLengths s7) - q = k9), ∀ (H : Heap) (locs : List Loc) (ls : Array Slot) (hP : va_P D vwCl (MW dA h ad (MS.s_valueLength x 0)) H) (hD : va_D A (MW dA h ad (MS.s_valueLength x 0))) (hS : va_S A s.heap H locs) (hl : lv_has ls 10 [(6, .int (nI q)), (5, .int (nI k)), (1, .int (nI s7)), (2, .int (nI nm)), (3, .int (nI n)), (0, .ref h), (4, .int (nI (304 * s7 + x.textLengths s7)))]), W p l e ({ frames := 1, cells := 0, slots := 0, locals := 0 } : Room) s m ([.ref h, .int (nI s7), .int (nI nm), .int (nI n)] : List Value).toArray below meth c H locs 0 0 (MQ below (va_Qi (fun (r9 : Int32) (u9 : Unit) => r9 = voI (x.vo s7 nm n)) (fun (u9 : Unit) t9 => bW D A (MW dA h ad (MS.s_valueLength x ((x.vo s7 nm n).2.1))) t9) A) ([.ref h, .int (nI s7), .int (nI nm), .int (nI n)] : List Value).toArray s 0 0 A) (F0 m 37 ls []) := by
          intro k9
          induction k9 using Nat.strongRecOn with
          | ind k9 ih37 =>
            intro q q1 hk9 H locs ls hP hD hS hl
            have q3 : q ≤ eqP x.texts (304 * s7 + x.textLengths s7) k := by rw [← q1]; exact fbG_ge
            refine lv_aload_n hx hb d_M_valueOf_37 rfl (lv_at hl 5 rfl) ?_
            refine gF (v := .ref (ad 10)) hx hb hown hE hK hP 0 rfl rfl layM 10 (by decide) w499 rfl d_M_valueOf_38 ?_
            refine lv_iload hx hb d_M_valueOf_41 (lv_at hl 0 rfl) ?_
            refine nbld (f := x.texts) hx hb hK hP 2 0 rfl rfl (q) (by omega) (by decide) d_M_valueOf_43 ?_
            refine lv_bipush (v := 61) hx hb d_M_valueOf_44 (by decide) ?_
            refine lv_icmp_eq hx hb d_M_valueOf_46 (tgt := 55) rfl (fun g9 => ?_) (fun g9 => ?_)
            · have g9 := g9
              exact J55 q (q1.symm.trans (fbG_y g9)) g9 H _ ls hP hD hS (lv_sub hl [0, 1, 2, 3, 4, 5, 6] rfl)
            · have g9 := g9
              refine lv_iinc (k := 0) (v := nI (q + 1)) hx hb d_M_valueOf_49 hl rfl (iincN (q) 1 1 (by decide)) (by decide) rfl (fun ls hl => ?_)
              have hl : lv_has ls 10 [(6, .int (nI (q + 1))), (5, .int (nI k)), (1, .int (nI s7)), (2, .int (nI nm)), (3, .int (nI n)), (0, .ref h), (4, .int (nI (304 * s7 + x.textLengths s7)))] := hl
              refine lv_goto hx hb d_M_valueOf_52 (tgt := 37) rfl ?_
              exact ih37 _ (by omega) (q + 1) ((fbG_n (by omega) g9).symm.trans q1) rfl H _ ls hP hD hS (lv_sub hl [0, 1, 2, 3, 4, 5, 6] rfl)
        exact L37 _ k rfl rfl H _ ls hP hD hS (lv_sub hl [0, 1, 2, 3, 4, 5, 6] rfl)
  exact L26 _ (304 * s7) 7 rfl htx (by omega) rfl H _ ls hP hD hS (lv_sub hl [0, 3, 4, 5, 2, 1] rfl)
theorem d_M_compareRows_0 : decode prog_14_method_66_code 0 = .ok (.iconst 0, 1) := by decide +kernel
theorem d_M_compareRows_1 : decode prog_14_method_66_code 1 = .ok (.istore 4, 2) := by decide +kernel
theorem d_M_compareRows_3 : decode prog_14_method_66_code 3 = .ok (.iload 4, 2) := by decide +kernel
theorem d_M_compareRows_5 : decode prog_14_method_66_code 5 = .ok (.aload_n 0, 1) := by decide +kernel
theorem d_M_compareRows_6 : decode prog_14_method_66_code 6 = .ok (.getfield 88, 3) := by decide +kernel
theorem d_M_compareRows_9 : decode prog_14_method_66_code 9 = .ok (.iload_n 1, 1) := by decide +kernel
theorem d_M_compareRows_10 : decode prog_14_method_66_code 10 = .ok (.iaload, 1) := by decide +kernel
theorem d_M_compareRows_11 : decode prog_14_method_66_code 11 = .ok (.if_icmp .ge 164, 3) := by decide +kernel
theorem d_M_compareRows_175 : decode prog_14_method_66_code 175 = .ok (.iconst 0, 1) := by decide +kernel
theorem d_M_compareRows_176 : decode prog_14_method_66_code 176 = .ok (.ireturn, 1) := by decide +kernel
theorem d_M_compareRows_14 : decode prog_14_method_66_code 14 = .ok (.aload_n 0, 1) := by decide +kernel
theorem d_M_compareRows_15 : decode prog_14_method_66_code 15 = .ok (.iload_n 2, 1) := by decide +kernel
theorem d_M_compareRows_16 : decode prog_14_method_66_code 16 = .ok (.aload_n 0, 1) := by decide +kernel
theorem d_M_compareRows_17 : decode prog_14_method_66_code 17 = .ok (.getfield 91, 3) := by decide +kernel
theorem d_M_compareRows_20 : decode prog_14_method_66_code 20 = .ok (.bipush 6, 2) := by decide +kernel
theorem d_M_compareRows_22 : decode prog_14_method_66_code 22 = .ok (.iload_n 1, 1) := by decide +kernel
theorem d_M_compareRows_23 : decode prog_14_method_66_code 23 = .ok (.imul, 1) := by decide +kernel
theorem d_M_compareRows_24 : decode prog_14_method_66_code 24 = .ok (.iload 4, 2) := by decide +kernel
theorem d_M_compareRows_26 : decode prog_14_method_66_code 26 = .ok (.iadd, 1) := by decide +kernel
theorem d_M_compareRows_27 : decode prog_14_method_66_code 27 = .ok (.iaload, 1) := by decide +kernel
theorem d_M_compareRows_28 : decode prog_14_method_66_code 28 = .ok (.aload_n 0, 1) := by decide +kernel
theorem d_M_compareRows_29 : decode prog_14_method_66_code 29 = .ok (.getfield 94, 3) := by decide +kernel
theorem d_M_compareRows_32 : decode prog_14_method_66_code 32 = .ok (.bipush 6, 2) := by decide +kernel
theorem d_M_compareRows_34 : decode prog_14_method_66_code 34 = .ok (.iload_n 1, 1) := by decide +kernel
theorem d_M_compareRows_35 : decode prog_14_method_66_code 35 = .ok (.imul, 1) := by decide +kernel
theorem d_M_compareRows_36 : decode prog_14_method_66_code 36 = .ok (.iload 4, 2) := by decide +kernel
theorem d_M_compareRows_38 : decode prog_14_method_66_code 38 = .ok (.iadd, 1) := by decide +kernel
theorem d_M_compareRows_39 : decode prog_14_method_66_code 39 = .ok (.iaload, 1) := by decide +kernel
theorem d_M_compareRows_40 : decode prog_14_method_66_code 40 = .ok (.invokevirtual 387, 3) := by decide +kernel
theorem d_M_compareRows_43 : decode prog_14_method_66_code 43 = .ok (.istore 5, 2) := by decide +kernel
theorem d_M_compareRows_45 : decode prog_14_method_66_code 45 = .ok (.aload_n 0, 1) := by decide +kernel
theorem d_M_compareRows_46 : decode prog_14_method_66_code 46 = .ok (.getfield 384, 3) := by decide +kernel
theorem d_M_compareRows_49 : decode prog_14_method_66_code 49 = .ok (.istore 6, 2) := by decide +kernel
theorem d_M_compareRows_51 : decode prog_14_method_66_code 51 = .ok (.aload_n 0, 1) := by decide +kernel
theorem d_M_compareRows_52 : decode prog_14_method_66_code 52 = .ok (.iload_n 3, 1) := by decide +kernel
theorem d_M_compareRows_53 : decode prog_14_method_66_code 53 = .ok (.aload_n 0, 1) := by decide +kernel
theorem d_M_compareRows_54 : decode prog_14_method_66_code 54 = .ok (.getfield 91, 3) := by decide +kernel
theorem d_M_compareRows_57 : decode prog_14_method_66_code 57 = .ok (.bipush 6, 2) := by decide +kernel
theorem d_M_compareRows_59 : decode prog_14_method_66_code 59 = .ok (.iload_n 1, 1) := by decide +kernel
theorem d_M_compareRows_60 : decode prog_14_method_66_code 60 = .ok (.imul, 1) := by decide +kernel
theorem d_M_compareRows_61 : decode prog_14_method_66_code 61 = .ok (.iload 4, 2) := by decide +kernel
theorem d_M_compareRows_63 : decode prog_14_method_66_code 63 = .ok (.iadd, 1) := by decide +kernel
theorem d_M_compareRows_64 : decode prog_14_method_66_code 64 = .ok (.iaload, 1) := by decide +kernel
theorem d_M_compareRows_65 : decode prog_14_method_66_code 65 = .ok (.aload_n 0, 1) := by decide +kernel
theorem d_M_compareRows_66 : decode prog_14_method_66_code 66 = .ok (.getfield 94, 3) := by decide +kernel
theorem d_M_compareRows_69 : decode prog_14_method_66_code 69 = .ok (.bipush 6, 2) := by decide +kernel
theorem d_M_compareRows_71 : decode prog_14_method_66_code 71 = .ok (.iload_n 1, 1) := by decide +kernel
theorem d_M_compareRows_72 : decode prog_14_method_66_code 72 = .ok (.imul, 1) := by decide +kernel
theorem d_M_compareRows_73 : decode prog_14_method_66_code 73 = .ok (.iload 4, 2) := by decide +kernel
theorem d_M_compareRows_75 : decode prog_14_method_66_code 75 = .ok (.iadd, 1) := by decide +kernel
theorem d_M_compareRows_76 : decode prog_14_method_66_code 76 = .ok (.iaload, 1) := by decide +kernel
theorem d_M_compareRows_77 : decode prog_14_method_66_code 77 = .ok (.invokevirtual 387, 3) := by decide +kernel
theorem d_M_compareRows_80 : decode prog_14_method_66_code 80 = .ok (.istore 7, 2) := by decide +kernel
theorem d_M_compareRows_82 : decode prog_14_method_66_code 82 = .ok (.aload_n 0, 1) := by decide +kernel
theorem d_M_compareRows_83 : decode prog_14_method_66_code 83 = .ok (.getfield 384, 3) := by decide +kernel
theorem d_M_compareRows_86 : decode prog_14_method_66_code 86 = .ok (.istore 8, 2) := by decide +kernel
theorem d_M_compareRows_156 : decode prog_14_method_66_code 156 = .ok (.iload 6, 2) := by decide +kernel
theorem d_M_compareRows_158 : decode prog_14_method_66_code 158 = .ok (.iload 8, 2) := by decide +kernel
theorem d_M_compareRows_160 : decode prog_14_method_66_code 160 = .ok (.if_icmp .eq 9, 3) := by decide +kernel
theorem d_M_compareRows_169 : decode prog_14_method_66_code 169 = .ok (.iinc 4 1, 3) := by decide +kernel
theorem d_M_compareRows_172 : decode prog_14_method_66_code 172 = .ok (.goto (-169), 3) := by decide +kernel
theorem d_M_compareRows_163 : decode prog_14_method_66_code 163 = .ok (.iload 6, 2) := by decide +kernel
theorem d_M_compareRows_165 : decode prog_14_method_66_code 165 = .ok (.iload 8, 2) := by decide +kernel
theorem d_M_compareRows_167 : decode prog_14_method_66_code 167 = .ok (.isub, 1) := by decide +kernel
theorem d_M_compareRows_168 : decode prog_14_method_66_code 168 = .ok (.ireturn, 1) := by decide +kernel
theorem d_M_compareRows_88 : decode prog_14_method_66_code 88 = .ok (.iconst 0, 1) := by decide +kernel
theorem d_M_compareRows_89 : decode prog_14_method_66_code 89 = .ok (.istore 9, 2) := by decide +kernel
theorem d_M_compareRows_91 : decode prog_14_method_66_code 91 = .ok (.iload 9, 2) := by decide +kernel
theorem d_M_compareRows_93 : decode prog_14_method_66_code 93 = .ok (.iload 6, 2) := by decide +kernel
theorem d_M_compareRows_95 : decode prog_14_method_66_code 95 = .ok (.if_icmp .ge 61, 3) := by decide +kernel
theorem d_M_compareRows_98 : decode prog_14_method_66_code 98 = .ok (.iload 9, 2) := by decide +kernel
theorem d_M_compareRows_100 : decode prog_14_method_66_code 100 = .ok (.iload 8, 2) := by decide +kernel
theorem d_M_compareRows_102 : decode prog_14_method_66_code 102 = .ok (.if_icmp .ge 54, 3) := by decide +kernel
theorem d_M_compareRows_105 : decode prog_14_method_66_code 105 = .ok (.aload_n 0, 1) := by decide +kernel
theorem d_M_compareRows_106 : decode prog_14_method_66_code 106 = .ok (.getfield 29, 3) := by decide +kernel
theorem d_M_compareRows_109 : decode prog_14_method_66_code 109 = .ok (.iload 5, 2) := by decide +kernel
theorem d_M_compareRows_111 : decode prog_14_method_66_code 111 = .ok (.iload 9, 2) := by decide +kernel
theorem d_M_compareRows_113 : decode prog_14_method_66_code 113 = .ok (.iadd, 1) := by decide +kernel
theorem d_M_compareRows_114 : decode prog_14_method_66_code 114 = .ok (.baload, 1) := by decide +kernel
theorem d_M_compareRows_115 : decode prog_14_method_66_code 115 = .ok (.aload_n 0, 1) := by decide +kernel
theorem d_M_compareRows_116 : decode prog_14_method_66_code 116 = .ok (.getfield 29, 3) := by decide +kernel
theorem d_M_compareRows_119 : decode prog_14_method_66_code 119 = .ok (.iload 7, 2) := by decide +kernel
theorem d_M_compareRows_121 : decode prog_14_method_66_code 121 = .ok (.iload 9, 2) := by decide +kernel
theorem d_M_compareRows_123 : decode prog_14_method_66_code 123 = .ok (.iadd, 1) := by decide +kernel
theorem d_M_compareRows_124 : decode prog_14_method_66_code 124 = .ok (.baload, 1) := by decide +kernel
theorem d_M_compareRows_125 : decode prog_14_method_66_code 125 = .ok (.if_icmp .eq 25, 3) := by decide +kernel
theorem d_M_compareRows_150 : decode prog_14_method_66_code 150 = .ok (.iinc 9 1, 3) := by decide +kernel
theorem d_M_compareRows_153 : decode prog_14_method_66_code 153 = .ok (.goto (-62), 3) := by decide +kernel
theorem d_M_compareRows_128 : decode prog_14_method_66_code 128 = .ok (.aload_n 0, 1) := by decide +kernel
theorem d_M_compareRows_129 : decode prog_14_method_66_code 129 = .ok (.getfield 29, 3) := by decide +kernel
theorem d_M_compareRows_132 : decode prog_14_method_66_code 132 = .ok (.iload 5, 2) := by decide +kernel
theorem d_M_compareRows_134 : decode prog_14_method_66_code 134 = .ok (.iload 9, 2) := by decide +kernel
theorem d_M_compareRows_136 : decode prog_14_method_66_code 136 = .ok (.iadd, 1) := by decide +kernel
theorem d_M_compareRows_137 : decode prog_14_method_66_code 137 = .ok (.baload, 1) := by decide +kernel
theorem d_M_compareRows_138 : decode prog_14_method_66_code 138 = .ok (.aload_n 0, 1) := by decide +kernel
theorem d_M_compareRows_139 : decode prog_14_method_66_code 139 = .ok (.getfield 29, 3) := by decide +kernel
theorem d_M_compareRows_142 : decode prog_14_method_66_code 142 = .ok (.iload 7, 2) := by decide +kernel
theorem d_M_compareRows_144 : decode prog_14_method_66_code 144 = .ok (.iload 9, 2) := by decide +kernel
theorem d_M_compareRows_146 : decode prog_14_method_66_code 146 = .ok (.iadd, 1) := by decide +kernel
theorem d_M_compareRows_147 : decode prog_14_method_66_code 147 = .ok (.baload, 1) := by decide +kernel
theorem d_M_compareRows_148 : decode prog_14_method_66_code 148 = .ok (.isub, 1) := by decide +kernel
theorem d_M_compareRows_149 : decode prog_14_method_66_code 149 = .ok (.ireturn, 1) := by decide +kernel
theorem w978 : Cond.methodLink "SeriesVaultModel" 387 ⟨"SeriesVaultModel", "valueOf", "(III)I"⟩ ∈ aW := aw_of (tb_10 (List.mem_of_getElem? (i := 229) rfl)) rfl
theorem w979 : Cond.code ⟨"SeriesVaultModel", "valueOf", "(III)I"⟩ prog_14_method_65_code 10 (some FieldType.int) ∈ aW := aw_of (tb_10 (List.mem_of_getElem? (i := 232) rfl)) rfl
theorem w980 : Cond.instanceMethod ⟨"SeriesVaultModel", "valueOf", "(III)I"⟩ ∈ aW := aw_of (tb_10 (List.mem_of_getElem? (i := 231) rfl)) rfl
theorem w981 : Cond.selects "SeriesVaultModel" ⟨"SeriesVaultModel", "valueOf", "(III)I"⟩ ⟨"SeriesVaultModel", "valueOf", "(III)I"⟩ ∈ aW := aw_pr (List.mem_map.mpr ⟨_, pv_7 (List.mem_of_getElem? (i := 15) rfl), rfl⟩) rfl
set_option maxHeartbeats 4000000 in
set_option maxRecDepth 100000 in
theorem k_compareRows (l : Launch) (D : va_G) (dA : Nat → ClassId) (sz : Nat) (h : Nat) (ad : Nat → Nat) (x : MS) (t : Nat) (a : Nat) (b : Nat) (hno : x.nOK t) (hta : x.tableNames t = 0 ∨ x.tOK a) (htb : x.tableNames t = 0 ∨ x.tOK b) : Met l ⟨"SeriesVaultModel", "compareRows", "(III)I"⟩ [Cond.code ⟨"SeriesVaultModel", "compareRows", "(III)I"⟩ prog_14_method_66_code 10 (some FieldType.int)] { frames := 2, cells := 0, slots := 0, locals := 29 } (pC D dA [.ref h, .int (nI t), .int (nI a), .int (nI b)] (MW dA h ad x) sz) (va_Qi (fun (r9 : Int32) (u9 : Unit) => r9 = (x.cr t a b).1) (fun (u9 : Unit) t9 => bW D (va_A (MW dA h ad x) sz) (MW dA h ad (MS.s_valueLength x ((x.cr t a b).2))) t9) (va_A (MW dA h ad x) sz)) 0 0 (va_A (MW dA h ad x) sz) := by
  refine mkC (y := ⟨"SeriesVaultModel", "compareRows", "(III)I"⟩) (cc := prog_14_method_66_code) (maxL := 10) (av := [.ref h, .int (nI t), .int (nI a), .int (nI b)]) (ws := MW dA h ad x) (sz := sz) (Qc := fun A => va_Qi (fun (r9 : Int32) (u9 : Unit) => r9 = (x.cr t a b).1) (fun (u9 : Unit) t9 => bW D A (MW dA h ad (MS.s_valueLength x ((x.cr t a b).2))) t9) A) (by decide) (Nat.le_of_ble_eq_true rfl) ?_
  intro A p e s m below meth c ls hsz hB
  obtain ⟨hx, hb, hr, hml, hown, hin, hlk, hE, hK, hP, hD, hS, hA, hN, hl⟩ := hB
  have hown : s.vm.findClass "SeriesVaultModel" = some m.cls := hown
  have hl : lv_has ls 10 [(0, .ref h), (1, .int (nI t)), (2, .int (nI a)), (3, .int (nI b))] := hl
  obtain ⟨H, hH⟩ : ∃ z, z = s.heap := ⟨_, rfl⟩
  have hP : va_P D vwCl (MW dA h ad x) H := by rw [hH]; exact hP
  have hS : va_S A s.heap H [] := by rw [hH]; exact hS
  rw [← hH]
  obtain ⟨hno1, hno2, hno3⟩ := hno
  refine lv_iconst (v := 0) hx hb d_M_compareRows_0 (by decide) ?_
  refine lv_istore hx hb d_M_compareRows_1 hl (by decide) rfl (fun ls hl => ?_)
  have hl : lv_has ls 10 [(4, .int 0), (0, .ref h), (1, .int (nI t)), (2, .int (nI a)), (3, .int (nI b))] := hl
  have L3 : ∀ (k9 : Nat) (k : Nat) (u : Nat) (i1 : k ≤ x.tableNames t) (i2 : crG (x.cmR t a b) (x.crL t b) (x.tableNames t - k) k u = x.cr t a b) (hk9 : x.tableNames t - k = k9), ∀ (H : Heap) (locs : List Loc) (ls : Array Slot) (hP : va_P D vwCl (MW dA h ad (MS.s_valueLength x u)) H) (hD : va_D A (MW dA h ad (MS.s_valueLength x u))) (hS : va_S A s.heap H locs) (hl : lv_has ls 10 [(4, .int (nI k)), (1, .int (nI t)), (2, .int (nI a)), (3, .int (nI b)), (0, .ref h)]), W p l e ({ frames := 2, cells := 0, slots := 0, locals := 29 } : Room) s m ([.ref h, .int (nI t), .int (nI a), .int (nI b)] : List Value).toArray below meth c H locs 0 0 (MQ below (va_Qi (fun (r9 : Int32) (u9 : Unit) => r9 = (x.cr t a b).1) (fun (u9 : Unit) t9 => bW D A (MW dA h ad (MS.s_valueLength x ((x.cr t a b).2))) t9) A) ([.ref h, .int (nI t), .int (nI a), .int (nI b)] : List Value).toArray s 0 0 A) (F0 m 3 ls []) := by
    intro k9
    induction k9 using Nat.strongRecOn with
    | ind k9 ih3 =>
      intro k u i1 i2 hk9 H locs ls hP hD hS hl
      refine lv_iload hx hb d_M_compareRows_3 (lv_at hl 0 rfl) ?_
      refine lv_aload_n hx hb d_M_compareRows_5 rfl (lv_at hl 4 rfl) ?_
      refine gF (v := .ref (ad 48)) hx hb hown hE hK hP 0 rfl rfl layM 48 (by decide) w518 rfl d_M_compareRows_6 ?_
      refine lv_iload_n hx hb d_M_compareRows_9 rfl (lv_at hl 1 rfl) ?_
      refine nild (f := (fun z9 => nI (x.tableNames z9))) hx hb hK hP 21 1 rfl rfl (t) (by omega) (by decide) d_M_compareRows_10 ?_
      refine lv_icmp_ge hx hb d_M_compareRows_11 (tgt := 175) rfl (fun g1 => ?_) (fun g1 => ?_)
      · have g1 := (nI_leI (a := x.tableNames t) (b := k) (by omega) (by omega)).mp g1
        have ce : x.cr t a b = (0, u) := by rw [← i2, show x.tableNames t - k = 0 by omega]; rfl
        refine lv_iconst (v := 0) hx hb d_M_compareRows_175 (by decide) ?_
        have e9 : (MS.s_valueLength x u : MS) = MS.s_valueLength x ((x.cr t a b).2) := by rw [show ((x.cr t a b).2) = u from by (rw [ce] <;> rfl)] <;> rfl
        exact rfI hx hb hr hlk hS () (by rw [ce]) (cvP e9 hP) (cvD e9 hD) (Nat.le_of_ble_eq_true rfl) (Nat.le_of_ble_eq_true rfl) d_M_compareRows_176
      · have g1 := mt (nI_leI (a := x.tableNames t) (b := k) (by omega) (by omega)).mpr g1
        have hta := hta.resolve_left (by omega)
        have htb := htb.resolve_left (by omega)
        have b6 := hno3 k (by omega)
        have b7 := vo_in (x := x) (s := a) (nm := x.nameFroms (6 * t + k)) (n := x.nameLengths (6 * t + k)) hta
        have b8 := vo_in (x := x) (s := b) (nm := x.nameFroms (6 * t + k)) (n := x.nameLengths (6 * t + k)) htb
        have b7 : (x.vn t a k).1 + (x.vn t a k).2.1 ≤ 77824 := b7
        have b8 : (x.vn t b k).1 + (x.vn t b k).2.1 ≤ 77824 := b8
        refine lv_aload_n hx hb d_M_compareRows_14 rfl (lv_at hl 4 rfl) ?_
        refine lv_iload_n hx hb d_M_compareRows_15 rfl (lv_at hl 2 rfl) ?_
        refine lv_aload_n hx hb d_M_compareRows_16 rfl (lv_at hl 4 rfl) ?_
        refine gF (v := .ref (ad 49)) hx hb hown hE hK hP 0 rfl rfl layM 49 (by decide) w519 rfl d_M_compareRows_17 ?_
        refine lv_bipush (v := 6) hx hb d_M_compareRows_20 (by decide) ?_
        refine lv_iload_n hx hb d_M_compareRows_22 rfl (lv_at hl 1 rfl) ?_
        refine lv_imul hx hb d_M_compareRows_23 (tpi (y := nI (6 * t)) (pk_mul (6) (t)) ?_)
        refine lv_iload hx hb d_M_compareRows_24 (lv_at hl 0 rfl) ?_
        refine lv_iadd hx hb d_M_compareRows_26 (tpi (y := nI ((6 * t) + k)) (nI_add (6 * t) (k)) ?_)
        refine nild (f := (fun z9 => nI (x.nameFroms z9))) hx hb hK hP 22 1 rfl rfl ((6 * t) + k) (by omega) (by decide) d_M_compareRows_27 ?_
        refine lv_aload_n hx hb d_M_compareRows_28 rfl (lv_at hl 4 rfl) ?_
        refine gF (v := .ref (ad 50)) hx hb hown hE hK hP 0 rfl rfl layM 50 (by decide) w520 rfl d_M_compareRows_29 ?_
        refine lv_bipush (v := 6) hx hb d_M_compareRows_32 (by decide) ?_
        refine lv_iload_n hx hb d_M_compareRows_34 rfl (lv_at hl 1 rfl) ?_
        refine lv_imul hx hb d_M_compareRows_35 (tpi (y := nI (6 * t)) (pk_mul (6) (t)) ?_)
        refine lv_iload hx hb d_M_compareRows_36 (lv_at hl 0 rfl) ?_
        refine lv_iadd hx hb d_M_compareRows_38 (tpi (y := nI ((6 * t) + k)) (nI_add (6 * t) (k)) ?_)
        refine nild (f := (fun z9 => nI (x.nameLengths z9))) hx hb hK hP 23 1 rfl rfl ((6 * t) + k) (by omega) (by decide) d_M_compareRows_39 ?_
        refine jfI (rnV (As := [.int (nI a), .int (nI (x.nameFroms ((6 * t) + k))), .int (nI (x.nameLengths ((6 * t) + k)))]) (rest := []) hx hb hml hown hE hK (hN _ _ hS) hP hD (k_valueOf l D dA H.size h ad (MS.s_valueLength x u) a (x.nameFroms ((6 * t) + k)) (x.nameLengths ((6 * t) + k)) hta b6) (q0 := 0) rfl rfl w979 w978 w980 w981 w328 rfl rfl ⟨⟨by decide, by decide⟩, rfl⟩ ⟨(Nat.le_of_ble_eq_true rfl), (Nat.le_of_ble_eq_true rfl)⟩ rfl hl.1 rfl (Nat.le_of_ble_eq_true rfl) d_M_compareRows_40 ⟨(Nat.le_of_ble_eq_true rfl), (Nat.le_of_ble_eq_true rfl)⟩) hP hD hS hA (fun r2 u3 H locs hp9 hP hD hS => ?_)
        have hP : va_P D vwCl (MW dA h ad (MS.s_valueLength x ((x.vo a (x.nameFroms ((6 * t) + k)) (x.nameLengths ((6 * t) + k))).2.1))) H := hP
        have hD : va_D A (MW dA h ad (MS.s_valueLength x ((x.vo a (x.nameFroms ((6 * t) + k)) (x.nameLengths ((6 * t) + k))).2.1))) := hD
        replace hp9 : voI (x.vo a (x.nameFroms ((6 * t) + k)) (x.nameLengths ((6 * t) + k))) = r2 := Eq.symm hp9
        subst hp9
        refine lv_istore hx hb d_M_compareRows_43 hl (by decide) rfl (fun ls hl => ?_)
        have hl : lv_has ls 10 [(5, .int (voI (x.vo a (x.nameFroms ((6 * t) + k)) (x.nameLengths ((6 * t) + k))))), (4, .int (nI k)), (1, .int (nI t)), (2, .int (nI a)), (3, .int (nI b)), (0, .ref h)] := hl
        refine lv_aload_n hx hb d_M_compareRows_45 rfl (lv_at hl 5 rfl) ?_
        refine gF (v := .int (nI ((x.vo a (x.nameFroms ((6 * t) + k)) (x.nameLengths ((6 * t) + k))).2.1))) hx hb hown hE hK hP 0 rfl rfl layM 60 (by decide) w977 rfl d_M_compareRows_46 ?_
        refine lv_istore hx hb d_M_compareRows_49 hl (by decide) rfl (fun ls hl => ?_)
        have hl : lv_has ls 10 [(6, .int (nI ((x.vo a (x.nameFroms ((6 * t) + k)) (x.nameLengths ((6 * t) + k))).2.1))), (5, .int (voI (x.vo a (x.nameFroms ((6 * t) + k)) (x.nameLengths ((6 * t) + k))))), (4, .int (nI k)), (1, .int (nI t)), (2, .int (nI a)), (3, .int (nI b)), (0, .ref h)] := hl
        refine lv_aload_n hx hb d_M_compareRows_51 rfl (lv_at hl 6 rfl) ?_
        refine lv_iload_n hx hb d_M_compareRows_52 rfl (lv_at hl 5 rfl) ?_
        refine lv_aload_n hx hb d_M_compareRows_53 rfl (lv_at hl 6 rfl) ?_
        refine gF (v := .ref (ad 49)) hx hb hown hE hK hP 0 rfl rfl layM 49 (by decide) w519 rfl d_M_compareRows_54 ?_
        refine lv_bipush (v := 6) hx hb d_M_compareRows_57 (by decide) ?_
        refine lv_iload_n hx hb d_M_compareRows_59 rfl (lv_at hl 3 rfl) ?_
        refine lv_imul hx hb d_M_compareRows_60 (tpi (y := nI (6 * t)) (pk_mul (6) (t)) ?_)
        refine lv_iload hx hb d_M_compareRows_61 (lv_at hl 2 rfl) ?_
        refine lv_iadd hx hb d_M_compareRows_63 (tpi (y := nI ((6 * t) + k)) (nI_add (6 * t) (k)) ?_)
        refine nild (f := (fun z9 => nI (x.nameFroms z9))) hx hb hK hP 22 1 rfl rfl ((6 * t) + k) (by omega) (by decide) d_M_compareRows_64 ?_
        refine lv_aload_n hx hb d_M_compareRows_65 rfl (lv_at hl 6 rfl) ?_
        refine gF (v := .ref (ad 50)) hx hb hown hE hK hP 0 rfl rfl layM 50 (by decide) w520 rfl d_M_compareRows_66 ?_
        refine lv_bipush (v := 6) hx hb d_M_compareRows_69 (by decide) ?_
        refine lv_iload_n hx hb d_M_compareRows_71 rfl (lv_at hl 3 rfl) ?_
        refine lv_imul hx hb d_M_compareRows_72 (tpi (y := nI (6 * t)) (pk_mul (6) (t)) ?_)
        refine lv_iload hx hb d_M_compareRows_73 (lv_at hl 2 rfl) ?_
        refine lv_iadd hx hb d_M_compareRows_75 (tpi (y := nI ((6 * t) + k)) (nI_add (6 * t) (k)) ?_)
        refine nild (f := (fun z9 => nI (x.nameLengths z9))) hx hb hK hP 23 1 rfl rfl ((6 * t) + k) (by omega) (by decide) d_M_compareRows_76 ?_
        refine jfI (rnV (As := [.int (nI b), .int (nI (x.nameFroms ((6 * t) + k))), .int (nI (x.nameLengths ((6 * t) + k)))]) (rest := []) hx hb hml hown hE hK (hN _ _ hS) hP hD (k_valueOf l D dA H.size h ad (MS.s_valueLength x ((x.vo a (x.nameFroms ((6 * t) + k)) (x.nameLengths ((6 * t) + k))).2.1)) b (x.nameFroms ((6 * t) + k)) (x.nameLengths ((6 * t) + k)) htb b6) (q0 := 0) rfl rfl w979 w978 w980 w981 w328 rfl rfl ⟨⟨by decide, by decide⟩, rfl⟩ ⟨(Nat.le_of_ble_eq_true rfl), (Nat.le_of_ble_eq_true rfl)⟩ rfl hl.1 rfl (Nat.le_of_ble_eq_true rfl) d_M_compareRows_77 ⟨(Nat.le_of_ble_eq_true rfl), (Nat.le_of_ble_eq_true rfl)⟩) hP hD hS hA (fun r4 u5 H locs hp9 hP hD hS => ?_)
        have hP : va_P D vwCl (MW dA h ad (MS.s_valueLength x ((x.vo b (x.nameFroms ((6 * t) + k)) (x.nameLengths ((6 * t) + k))).2.1))) H := hP
        have hD : va_D A (MW dA h ad (MS.s_valueLength x ((x.vo b (x.nameFroms ((6 * t) + k)) (x.nameLengths ((6 * t) + k))).2.1))) := hD
        replace hp9 : voI (x.vo b (x.nameFroms ((6 * t) + k)) (x.nameLengths ((6 * t) + k))) = r4 := Eq.symm hp9
        subst hp9
        refine lv_istore hx hb d_M_compareRows_80 hl (by decide) rfl (fun ls hl => ?_)
        have hl : lv_has ls 10 [(7, .int (voI (x.vo b (x.nameFroms ((6 * t) + k)) (x.nameLengths ((6 * t) + k))))), (6, .int (nI ((x.vo a (x.nameFroms ((6 * t) + k)) (x.nameLengths ((6 * t) + k))).2.1))), (5, .int (voI (x.vo a (x.nameFroms ((6 * t) + k)) (x.nameLengths ((6 * t) + k))))), (4, .int (nI k)), (1, .int (nI t)), (2, .int (nI a)), (3, .int (nI b)), (0, .ref h)] := hl
        refine lv_aload_n hx hb d_M_compareRows_82 rfl (lv_at hl 7 rfl) ?_
        refine gF (v := .int (nI ((x.vo b (x.nameFroms ((6 * t) + k)) (x.nameLengths ((6 * t) + k))).2.1))) hx hb hown hE hK hP 0 rfl rfl layM 60 (by decide) w977 rfl d_M_compareRows_83 ?_
        refine lv_istore hx hb d_M_compareRows_86 hl (by decide) rfl (fun ls hl => ?_)
        have hl : lv_has ls 10 [(8, .int (nI ((x.vo b (x.nameFroms ((6 * t) + k)) (x.nameLengths ((6 * t) + k))).2.1))), (7, .int (voI (x.vo b (x.nameFroms ((6 * t) + k)) (x.nameLengths ((6 * t) + k))))), (6, .int (nI ((x.vo a (x.nameFroms ((6 * t) + k)) (x.nameLengths ((6 * t) + k))).2.1))), (5, .int (voI (x.vo a (x.nameFroms ((6 * t) + k)) (x.nameLengths ((6 * t) + k))))), (4, .int (nI k)), (1, .int (nI t)), (2, .int (nI a)), (3, .int (nI b)), (0, .ref h)] := hl
        have J156 : ∀ (ce0 : x.cmR t a b k = nI (x.vn t a k).2.1 - nI (x.vn t b k).2.1), ∀ (H : Heap) (locs : List Loc) (ls : Array Slot) (hP : va_P D vwCl (MW dA h ad (MS.s_valueLength x ((x.vo b (x.nameFroms ((6 * t) + k)) (x.nameLengths ((6 * t) + k))).2.1))) H) (hD : va_D A (MW dA h ad (MS.s_valueLength x ((x.vo b (x.nameFroms ((6 * t) + k)) (x.nameLengths ((6 * t) + k))).2.1)))) (hS : va_S A s.heap H locs) (hl : lv_has ls 10 [(5, .int (voI (x.vn t a k))), (6, .int (nI (x.vn t a k).2.1)), (7, .int (voI (x.vn t b k))), (8, .int (nI (x.vn t b k).2.1)), (4, .int (nI k)), (1, .int (nI t)), (2, .int (nI a)), (3, .int (nI b)), (0, .ref h)]), W p l e ({ frames := 2, cells := 0, slots := 0, locals := 29 } : Room) s m ([.ref h, .int (nI t), .int (nI a), .int (nI b)] : List Value).toArray below meth c H locs 0 0 (MQ below (va_Qi (fun (r9 : Int32) (u9 : Unit) => r9 = (x.cr t a b).1) (fun (u9 : Unit) t9 => bW D A (MW dA h ad (MS.s_valueLength x ((x.cr t a b).2))) t9) A) ([.ref h, .int (nI t), .int (nI a), .int (nI b)] : List Value).toArray s 0 0 A) (F0 m 156 ls []) := by
          intro ce0 H locs ls hP hD hS hl
          refine lv_iload hx hb d_M_compareRows_156 (lv_at hl 1 rfl) ?_
          refine lv_iload hx hb d_M_compareRows_158 (lv_at hl 3 rfl) ?_
          refine lv_icmp_eq hx hb d_M_compareRows_160 (tgt := 169) rfl (fun g6 => ?_) (fun g6 => ?_)
          · have g6 := (nI_eq (a := (x.vn t a k).2.1) (b := (x.vn t b k).2.1) (by omega) (by omega)).mp g6
            have ce : x.cmR t a b k = 0 := by rw [ce0, show (x.vn t a k).2.1 = (x.vn t b k).2.1 by omega]; exact Int32.sub_self _
            refine lv_iinc (k := 4) (v := nI (k + 1)) hx hb d_M_compareRows_169 hl rfl (iincN (k) 1 1 (by decide)) (by decide) rfl (fun ls hl => ?_)
            have hl : lv_has ls 10 [(4, .int (nI (k + 1))), (5, .int (voI (x.vn t a k))), (6, .int (nI (x.vn t a k).2.1)), (7, .int (voI (x.vn t b k))), (8, .int (nI (x.vn t b k).2.1)), (1, .int (nI t)), (2, .int (nI a)), (3, .int (nI b)), (0, .ref h)] := hl
            refine lv_goto hx hb d_M_compareRows_172 (tgt := 3) rfl ?_
            exact ih3 _ (by omega) (k + 1) ((x.vo b (x.nameFroms ((6 * t) + k)) (x.nameLengths ((6 * t) + k))).2.1) (by omega) (by rw [← i2, crG_0 (cm := x.cmR t a b) (w := x.tableNames t - k) (by omega) ce, show x.tableNames t - k - 1 = x.tableNames t - (k + 1) by omega] <;> rfl) rfl H _ ls hP hD hS (lv_sub hl [0, 5, 6, 7, 8] rfl)
          · have g6 := mt (nI_eq (a := (x.vn t a k).2.1) (b := (x.vn t b k).2.1) (by omega) (by omega)).mpr g6
            have ce : (x.cr t a b) = (nI (x.vn t a k).2.1 - nI (x.vn t b k).2.1, (x.vn t b k).2.1) := i2.symm.trans (cr_n (cm := x.cmR t a b) (vl := x.crL t b) (by omega) ce0 (by omega) (by omega) (by omega))
            refine lv_iload hx hb d_M_compareRows_163 (lv_at hl 1 rfl) ?_
            refine lv_iload hx hb d_M_compareRows_165 (lv_at hl 3 rfl) ?_
            refine lv_isub hx hb d_M_compareRows_167 ?_
            have e9 : (MS.s_valueLength x ((x.vo b (x.nameFroms ((6 * t) + k)) (x.nameLengths ((6 * t) + k))).2.1) : MS) = MS.s_valueLength x ((x.cr t a b).2) := by rw [show ((x.cr t a b).2) = ((x.vo b (x.nameFroms ((6 * t) + k)) (x.nameLengths ((6 * t) + k))).2.1) from by (rw [ce] <;> rfl)] <;> rfl
            exact rfI hx hb hr hlk hS () (by rw [ce]) (cvP e9 hP) (cvD e9 hD) (Nat.le_of_ble_eq_true rfl) (Nat.le_of_ble_eq_true rfl) d_M_compareRows_168
        refine lv_iconst (v := 0) hx hb d_M_compareRows_88 (by decide) ?_
        refine lv_istore hx hb d_M_compareRows_89 hl (by decide) rfl (fun ls hl => ?_)
        have hl : lv_has ls 10 [(9, .int 0), (8, .int (nI ((x.vo b (x.nameFroms ((6 * t) + k)) (x.nameLengths ((6 * t) + k))).2.1))), (7, .int (voI (x.vo b (x.nameFroms ((6 * t) + k)) (x.nameLengths ((6 * t) + k))))), (6, .int (nI ((x.vo a (x.nameFroms ((6 * t) + k)) (x.nameLengths ((6 * t) + k))).2.1))), (5, .int (voI (x.vo a (x.nameFroms ((6 * t) + k)) (x.nameLengths ((6 * t) + k))))), (4, .int (nI k)), (1, .int (nI t)), (2, .int (nI a)), (3, .int (nI b)), (0, .ref h)] := hl
        have L91 : ∀ (k9 : Nat) (j : Nat) (j1 : j ≤ (x.vn t a k).2.1) (j2 : cmpG x.texts (x.vn t a k).1 (x.vn t a k).2.1 (x.vn t b k).1 (x.vn t b k).2.1 ((x.vn t a k).2.1 + 1 - j) j = x.cmR t a b k) (hk9 : (x.vn t a k).2.1 - j = k9), ∀ (H : Heap) (locs : List Loc) (ls : Array Slot) (hP : va_P D vwCl (MW dA h ad (MS.s_valueLength x ((x.vn t b k).2.1))) H) (hD : va_D A (MW dA h ad (MS.s_valueLength x ((x.vn t b k).2.1)))) (hS : va_S A s.heap H locs) (hl : lv_has ls 10 [(9, .int (nI j)), (5, .int (voI (x.vn t a k))), (6, .int (nI (x.vn t a k).2.1)), (7, .int (voI (x.vn t b k))), (8, .int (nI (x.vn t b k).2.1)), (4, .int (nI k)), (1, .int (nI t)), (2, .int (nI a)), (3, .int (nI b)), (0, .ref h)]), W p l e ({ frames := 2, cells := 0, slots := 0, locals := 29 } : Room) s m ([.ref h, .int (nI t), .int (nI a), .int (nI b)] : List Value).toArray below meth c H locs 0 0 (MQ below (va_Qi (fun (r9 : Int32) (u9 : Unit) => r9 = (x.cr t a b).1) (fun (u9 : Unit) t9 => bW D A (MW dA h ad (MS.s_valueLength x ((x.cr t a b).2))) t9) A) ([.ref h, .int (nI t), .int (nI a), .int (nI b)] : List Value).toArray s 0 0 A) (F0 m 91 ls []) := by
          intro k9
          induction k9 using Nat.strongRecOn with
          | ind k9 ih91 =>
            intro j j1 j2 hk9 H locs ls hP hD hS hl
            refine lv_iload hx hb d_M_compareRows_91 (lv_at hl 0 rfl) ?_
            refine lv_iload hx hb d_M_compareRows_93 (lv_at hl 2 rfl) ?_
            refine lv_icmp_ge hx hb d_M_compareRows_95 (tgt := 156) rfl (fun g7 => ?_) (fun g7 => ?_)
            · have g7 := (nI_leI (a := (x.vn t a k).2.1) (b := j) (by omega) (by omega)).mp g7
              exact J156 (j2.symm.trans (cmpG_n (Or.inl (by omega)))) H _ ls hP hD hS (lv_sub hl [1, 2, 3, 4, 5, 6, 7, 8, 9] rfl)
            · have g7 := mt (nI_leI (a := (x.vn t a k).2.1) (b := j) (by omega) (by omega)).mpr g7
              refine lv_iload hx hb d_M_compareRows_98 (lv_at hl 0 rfl) ?_
              refine lv_iload hx hb d_M_compareRows_100 (lv_at hl 4 rfl) ?_
              refine lv_icmp_ge hx hb d_M_compareRows_102 (tgt := 156) rfl (fun g8 => ?_) (fun g8 => ?_)
              · have g8 := (nI_leI (a := (x.vn t b k).2.1) (b := j) (by omega) (by omega)).mp g8
                exact J156 (j2.symm.trans (cmpG_n (Or.inr (by omega)))) H _ ls hP hD hS (lv_sub hl [1, 2, 3, 4, 5, 6, 7, 8, 9] rfl)
              · have g8 := mt (nI_leI (a := (x.vn t b k).2.1) (b := j) (by omega) (by omega)).mpr g8
                refine lv_aload_n hx hb d_M_compareRows_105 rfl (lv_at hl 9 rfl) ?_
                refine gF (v := .ref (ad 10)) hx hb hown hE hK hP 0 rfl rfl layM 10 (by decide) w499 rfl d_M_compareRows_106 ?_
                refine lv_iload hx hb d_M_compareRows_109 (lv_at hl 1 rfl) ?_
                refine lv_iload hx hb d_M_compareRows_111 (lv_at hl 0 rfl) ?_
                refine lv_iadd hx hb d_M_compareRows_113 ?_
                refine tpi (y := nI ((x.vn t a k).1 + j)) (vo_add hta (by first | exact Nat.lt_of_not_le (by assumption) | omega)) ?_
                refine nbld (f := x.texts) hx hb hK hP 2 0 rfl rfl ((x.vn t a k).1 + j) (by omega) (by decide) d_M_compareRows_114 ?_
                refine lv_aload_n hx hb d_M_compareRows_115 rfl (lv_at hl 9 rfl) ?_
                refine gF (v := .ref (ad 10)) hx hb hown hE hK hP 0 rfl rfl layM 10 (by decide) w499 rfl d_M_compareRows_116 ?_
                refine lv_iload hx hb d_M_compareRows_119 (lv_at hl 3 rfl) ?_
                refine lv_iload hx hb d_M_compareRows_121 (lv_at hl 0 rfl) ?_
                refine lv_iadd hx hb d_M_compareRows_123 ?_
                refine tpi (y := nI ((x.vn t b k).1 + j)) (vo_add htb (by first | exact Nat.lt_of_not_le (by assumption) | omega)) ?_
                refine nbld (f := x.texts) hx hb hK hP 2 0 rfl rfl ((x.vn t b k).1 + j) (by omega) (by decide) d_M_compareRows_124 ?_
                refine lv_icmp_eq hx hb d_M_compareRows_125 (tgt := 150) rfl (fun g9 => ?_) (fun g9 => ?_)
                · have g9 := g9
                  refine lv_iinc (k := 0) (v := nI (j + 1)) hx hb d_M_compareRows_150 hl rfl (iincN (j) 1 1 (by decide)) (by decide) rfl (fun ls hl => ?_)
                  have hl : lv_has ls 10 [(9, .int (nI (j + 1))), (5, .int (voI (x.vn t a k))), (6, .int (nI (x.vn t a k).2.1)), (7, .int (voI (x.vn t b k))), (8, .int (nI (x.vn t b k).2.1)), (4, .int (nI k)), (1, .int (nI t)), (2, .int (nI a)), (3, .int (nI b)), (0, .ref h)] := hl
                  refine lv_goto hx hb d_M_compareRows_153 (tgt := 91) rfl ?_
                  exact ih91 _ (by omega) (j + 1) (by omega) (by rw [← j2, cmpG_s (w := (x.vn t a k).2.1 + 1 - j) (by omega) (by omega) (by omega) g9, show (x.vn t a k).2.1 + 1 - j - 1 = (x.vn t a k).2.1 + 1 - (j + 1) by omega]) rfl H _ ls hP hD hS (lv_sub hl [0, 1, 2, 3, 4, 5, 6, 7, 8, 9] rfl)
                · have g9 := g9
                  have ce : (x.cr t a b) = (x.texts ((x.vn t a k).1 + j) - x.texts ((x.vn t b k).1 + j), (x.vn t b k).2.1) := i2.symm.trans (cr_d (cm := x.cmR t a b) (vl := x.crL t b) (by omega) (j2.symm.trans (cmpG_d (by omega) (by omega) (by omega) g9)) g9)
                  refine lv_aload_n hx hb d_M_compareRows_128 rfl (lv_at hl 9 rfl) ?_
                  refine gF (v := .ref (ad 10)) hx hb hown hE hK hP 0 rfl rfl layM 10 (by decide) w499 rfl d_M_compareRows_129 ?_
                  refine lv_iload hx hb d_M_compareRows_132 (lv_at hl 1 rfl) ?_
                  refine lv_iload hx hb d_M_compareRows_134 (lv_at hl 0 rfl) ?_
                  refine lv_iadd hx hb d_M_compareRows_136 ?_
                  refine tpi (y := nI ((x.vn t a k).1 + j)) (vo_add hta (by first | exact Nat.lt_of_not_le (by assumption) | omega)) ?_
                  refine nbld (f := x.texts) hx hb hK hP 2 0 rfl rfl ((x.vn t a k).1 + j) (by omega) (by decide) d_M_compareRows_137 ?_
                  refine lv_aload_n hx hb d_M_compareRows_138 rfl (lv_at hl 9 rfl) ?_
                  refine gF (v := .ref (ad 10)) hx hb hown hE hK hP 0 rfl rfl layM 10 (by decide) w499 rfl d_M_compareRows_139 ?_
                  refine lv_iload hx hb d_M_compareRows_142 (lv_at hl 3 rfl) ?_
                  refine lv_iload hx hb d_M_compareRows_144 (lv_at hl 0 rfl) ?_
                  refine lv_iadd hx hb d_M_compareRows_146 ?_
                  refine tpi (y := nI ((x.vn t b k).1 + j)) (vo_add htb (by first | exact Nat.lt_of_not_le (by assumption) | omega)) ?_
                  refine nbld (f := x.texts) hx hb hK hP 2 0 rfl rfl ((x.vn t b k).1 + j) (by omega) (by decide) d_M_compareRows_147 ?_
                  refine lv_isub hx hb d_M_compareRows_148 ?_
                  have e9 : (MS.s_valueLength x ((x.vn t b k).2.1) : MS) = MS.s_valueLength x ((x.cr t a b).2) := by rw [show ((x.cr t a b).2) = ((x.vn t b k).2.1) from by (rw [ce] <;> rfl)] <;> rfl
                  exact rfI hx hb hr hlk hS () (by rw [ce]) (cvP e9 hP) (cvD e9 hD) (Nat.le_of_ble_eq_true rfl) (Nat.le_of_ble_eq_true rfl) d_M_compareRows_149
        exact L91 _ 0 (Nat.zero_le _) rfl rfl H _ ls hP hD hS (lv_sub hl [0, 4, 3, 2, 1, 5, 6, 7, 8, 9] rfl)
  exact L3 _ 0 x.valueLength (Nat.zero_le _) rfl rfl H _ ls hP hD hS (lv_sub hl [0, 2, 3, 4, 1] rfl)
end
section
/-- behind the spaces, told by bytes -/
def skA (f : Nat → Int32) (len : Nat) : Nat → Nat → Nat
  | 0, k => k
  | w + 1, k => if atI f len k = 32 then skA f len w (k + 1) else k
theorem skA_t {f : Nat → Int32} {len w k : Nat} (hw : 0 < w) (h : atI f len k = 32) : skA f len w k = skA f len (w - 1) (k + 1) := by
  obtain ⟨d, rfl⟩ : ∃ d, w = d + 1 := ⟨w - 1, by omega⟩
  exact if_pos h
theorem skA_f {f : Nat → Int32} {len w k : Nat} (h : ¬ atI f len k = 32) : skA f len w k = k := by
  cases w with
  | zero => rfl
  | succ w => exact if_neg h
theorem atI_in {f : Nat → Int32} {len k : Nat} {v : Int32} (h : atI f len k = v) (hv : ¬ v = 0) : k < len := by
  refine Nat.lt_of_not_le fun z => hv ?_
  rw [← h]
  exact if_pos z
theorem skA_le {f : Nat → Int32} {len : Nat} : ∀ {w k : Nat}, k ≤ len → skA f len w k ≤ len
  | 0, k, h => h
  | w + 1, k, h => by
    unfold skA
    split
    · rename_i g
      have := atI_in g (by decide)
      exact skA_le (by omega)
    · exact h
theorem skA_ge {f : Nat → Int32} {len : Nat} : ∀ {w k : Nat}, k ≤ skA f len w k
  | 0, k => Nat.le_refl k
  | w + 1, k => by
    unfold skA
    split
    · have := skA_ge (f := f) (len := len) (w := w) (k := k + 1)
      omega
    · exact Nat.le_refl k
theorem idG_ge {f : Nat → Int32} {len : Nat} : ∀ {w k : Nat}, k ≤ idG f len w k
  | 0, k => Nat.le_refl k
  | w + 1, k => by
    unfold idG
    split
    · have := idG_ge (f := f) (len := len) (w := w) (k := k + 1)
      omega
    · exact Nat.le_refl k
theorem idG_le {f : Nat → Int32} {len : Nat} : ∀ {w k : Nat}, k ≤ len → idG f len w k ≤ len
  | 0, k, h => h
  | w + 1, k, h => by
    unfold idG
    split
    · rename_i g
      have := nm_at g
      exact idG_le (by omega)
    · exact h
/-- the first quote from k on -/
def fqA (f : Nat → Int32) (len : Nat) : Nat → Nat → Nat
  | 0, k => k
  | w + 1, k => if atI f len k = 34 then k else fqA f len w (k + 1)
theorem fqA_y {f : Nat → Int32} {len w k : Nat} (h : atI f len k = 34) : fqA f len w k = k := by
  cases w with
  | zero => rfl
  | succ w => exact if_pos h
theorem fqA_n {f : Nat → Int32} {len w k : Nat} (hw : 0 < w) (h : ¬ atI f len k = 34) : fqA f len w k = fqA f len (w - 1) (k + 1) := by
  obtain ⟨d, rfl⟩ : ∃ d, w = d + 1 := ⟨w - 1, by omega⟩
  exact if_neg h
theorem fqA_ge {f : Nat → Int32} {len : Nat} : ∀ {w k : Nat}, k ≤ fqA f len w k
  | 0, k => Nat.le_refl k
  | w + 1, k => by
    unfold fqA
    split
    · exact Nat.le_refl k
    · have := fqA_ge (f := f) (len := len) (w := w) (k := k + 1)
      omega
/-- a match on the tape from k on: the name's end, the sign's place, its number, the text's quote, its end -/
def m1E (f : Nat → Int32) (len k : Nat) : Nat := idG f len (len + 1 - k) k
def m2E (f : Nat → Int32) (len k : Nat) : Nat := skA f len (len + 1 - m1E f len k) (m1E f len k)
def sgM (f : Nat → Int32) (len k : Nat) : Nat := if atI f len k = 61 then 0 else if atI f len (k + 1) = 61 then (if atI f len k = 33 then 1 else 2) else 3
def m3E (f : Nat → Int32) (len k : Nat) : Nat := m2E f len k + (if sgM f len (m2E f len k) = 0 then 1 else 2)
def m4E (f : Nat → Int32) (len k : Nat) : Nat := skA f len (len + 1 - m3E f len k) (m3E f len k)
def m5E (f : Nat → Int32) (len k : Nat) : Nat := fqA f len (len - (m4E f len k + 1)) (m4E f len k + 1)
def isSep (z : Int32) : Bool := decide (z = 32) || decide (z = 44)
/-- is this a row of matches and a brace -/
def mtOK (f : Nat → Int32) (len : Nat) : Nat → Nat → Bool
  | 0, k => decide (atI f len k = 125)
  | w + 1, k => decide (atI f len k = 125) || (if isSep (atI f len k) = true then mtOK f len w (k + 1) else decide (m5E f len k < len) && mtOK f len w (m5E f len k + 1))
theorem mtOK_s {f : Nat → Int32} {len w k : Nat} (h : mtOK f len w k = true) (h1 : ¬ atI f len k = 125) (h2 : isSep (atI f len k) = true) : 0 < w ∧ mtOK f len (w - 1) (k + 1) = true := by
  cases w with
  | zero => exact absurd (of_decide_eq_true h) h1
  | succ w =>
    have h3 : (decide (atI f len k = 125) || (if isSep (atI f len k) = true then mtOK f len w (k + 1) else decide (m5E f len k < len) && mtOK f len w (m5E f len k + 1))) = true := h
    rw [decide_eq_false h1, Bool.false_or, if_pos h2] at h3
    exact ⟨Nat.succ_pos w, h3⟩
theorem mtOK_m {f : Nat → Int32} {len w k : Nat} (h : mtOK f len w k = true) (h1 : ¬ atI f len k = 125) (h2 : isSep (atI f len k) = false) : 0 < w ∧ m5E f len k < len ∧ mtOK f len (w - 1) (m5E f len k + 1) = true := by
  cases w with
  | zero => exact absurd (of_decide_eq_true h) h1
  | succ w =>
    have h3 : (decide (atI f len k = 125) || (if isSep (atI f len k) = true then mtOK f len w (k + 1) else decide (m5E f len k < len) && mtOK f len w (m5E f len k + 1))) = true := h
    rw [decide_eq_false h1, Bool.false_or, if_neg (by rw [h2]; decide), Bool.and_eq_true] at h3
    exact ⟨Nat.succ_pos w, of_decide_eq_true h3.1, h3.2⟩
/-- does the value begin with the text -/
def MS.mtB (x : MS) (z : Nat × Nat × Bool) (q n : Nat) : Bool := decide (n ≤ z.2.1) && allB n (txEq x.texts x.tape z.1 q)
def mtH (sg : Nat) (b same : Bool) : Bool := if sg = 0 then same else if sg = 1 then !same else if sg = 2 then b else !b
def MS.mtV (x : MS) (s k : Nat) : Nat × Nat × Bool := x.vo s k (m1E x.tape x.length k - k)
def MS.mtQ (x : MS) (k : Nat) : Nat := m4E x.tape x.length k + 1
def MS.mtN (x : MS) (k : Nat) : Nat := m5E x.tape x.length k - (m4E x.tape x.length k + 1)
def MS.mt1 (x : MS) (s k : Nat) : Bool := mtH (sgM x.tape x.length (m2E x.tape x.length k)) (x.mtB (x.mtV s k) (x.mtQ k) (x.mtN k)) (x.mtB (x.mtV s k) (x.mtQ k) (x.mtN k) && decide ((x.mtV s k).2.1 = x.mtN k))
/-- are the matches from k on held: the answer, the last length -/
def mtG (tp : Nat → Int32) (nx : Nat → Nat) (hd : Nat → Bool) (vl : Nat → Nat) : Nat → Nat → Bool → Nat → Bool × Nat
  | 0, _, g, v => (g, v)
  | w + 1, k, g, v => if g = false then (g, v) else if tp k = 125 then (g, v) else if isSep (tp k) = true then mtG tp nx hd vl w (k + 1) g v else mtG tp nx hd vl w (nx k + 1) (hd k) (vl k)
section MT
variable {tp : Nat → Int32} {nx : Nat → Nat} {hd : Nat → Bool} {vl : Nat → Nat} {w k v : Nat} {g : Bool}
theorem mtG_e (h : g = false ∨ tp k = 125) : mtG tp nx hd vl w k g v = (g, v) := by
  cases w with
  | zero => rfl
  | succ w =>
    show (if g = false then (g, v) else if tp k = 125 then (g, v) else _) = _
    by_cases h1 : g = false
    · rw [if_pos h1]
    · rw [if_neg h1, if_pos (h.resolve_left h1)]
theorem mtG_s (hw : 0 < w) (h0 : g = true) (h1 : ¬ tp k = 125) (h2 : isSep (tp k) = true) : mtG tp nx hd vl w k g v = mtG tp nx hd vl (w - 1) (k + 1) g v := by
  obtain ⟨d, rfl⟩ : ∃ d, w = d + 1 := ⟨w - 1, by omega⟩
  show (if g = false then (g, v) else if tp k = 125 then (g, v) else if isSep (tp k) = true then mtG tp nx hd vl d (k + 1) g v else _) = _
  rw [if_neg (by rw [h0]; decide), if_neg h1, if_pos h2]
  rfl
theorem mtG_m (hw : 0 < w) (h0 : g = true) (h1 : ¬ tp k = 125) (h2 : isSep (tp k) = false) : mtG tp nx hd vl w k g v = mtG tp nx hd vl (w - 1) (nx k + 1) (hd k) (vl k) := by
  obtain ⟨d, rfl⟩ : ∃ d, w = d + 1 := ⟨w - 1, by omega⟩
  show (if g = false then (g, v) else if tp k = 125 then (g, v) else if isSep (tp k) = true then _ else mtG tp nx hd vl d (nx k + 1) (hd k) (vl k)) = _
  rw [if_neg (by rw [h0]; decide), if_neg h1, if_neg (by rw [h2]; decide)]
  rfl
end MT
def MS.mtL (x : MS) (s k : Nat) : Nat := (x.mtV s k).2.1
def MS.mt (x : MS) (s q : Nat) : Bool × Nat := mtG x.atN (m5E x.tape x.length) (x.mt1 s) (x.mtL s) (x.length + 1 - q) q true x.valueLength
def MS.mOK (x : MS) (q : Nat) : Prop := q ≤ x.length ∧ mtOK x.tape x.length (x.length + 1 - q) q = true
theorem d_M_matches_0 : decode prog_14_method_67_code 0 = .ok (.iload_n 2, 1) := by decide +kernel
theorem d_M_matches_1 : decode prog_14_method_67_code 1 = .ok (.istore_n 3, 1) := by decide +kernel
theorem d_M_matches_2 : decode prog_14_method_67_code 2 = .ok (.iconst 1, 1) := by decide +kernel
theorem d_M_matches_3 : decode prog_14_method_67_code 3 = .ok (.istore 4, 2) := by decide +kernel
theorem d_M_matches_5 : decode prog_14_method_67_code 5 = .ok (.iload 4, 2) := by decide +kernel
theorem d_M_matches_7 : decode prog_14_method_67_code 7 = .ok (.ifCond .eq 353, 3) := by decide +kernel
theorem d_M_matches_360 : decode prog_14_method_67_code 360 = .ok (.iload 4, 2) := by decide +kernel
theorem d_M_matches_362 : decode prog_14_method_67_code 362 = .ok (.ireturn, 1) := by decide +kernel
theorem d_M_matches_10 : decode prog_14_method_67_code 10 = .ok (.aload_n 0, 1) := by decide +kernel
theorem d_M_matches_11 : decode prog_14_method_67_code 11 = .ok (.iload_n 3, 1) := by decide +kernel
theorem d_M_matches_12 : decode prog_14_method_67_code 12 = .ok (.invokevirtual 348, 3) := by decide +kernel
theorem d_M_matches_15 : decode prog_14_method_67_code 15 = .ok (.bipush 125, 2) := by decide +kernel
theorem d_M_matches_17 : decode prog_14_method_67_code 17 = .ok (.if_icmp .eq 343, 3) := by decide +kernel
theorem d_M_matches_20 : decode prog_14_method_67_code 20 = .ok (.aload_n 0, 1) := by decide +kernel
theorem d_M_matches_21 : decode prog_14_method_67_code 21 = .ok (.iload_n 3, 1) := by decide +kernel
theorem d_M_matches_22 : decode prog_14_method_67_code 22 = .ok (.invokevirtual 348, 3) := by decide +kernel
theorem d_M_matches_25 : decode prog_14_method_67_code 25 = .ok (.bipush 32, 2) := by decide +kernel
theorem d_M_matches_27 : decode prog_14_method_67_code 27 = .ok (.if_icmp .eq 13, 3) := by decide +kernel
theorem d_M_matches_40 : decode prog_14_method_67_code 40 = .ok (.iinc 3 1, 3) := by decide +kernel
theorem d_M_matches_43 : decode prog_14_method_67_code 43 = .ok (.goto (-38), 3) := by decide +kernel
theorem d_M_matches_30 : decode prog_14_method_67_code 30 = .ok (.aload_n 0, 1) := by decide +kernel
theorem d_M_matches_31 : decode prog_14_method_67_code 31 = .ok (.iload_n 3, 1) := by decide +kernel
theorem d_M_matches_32 : decode prog_14_method_67_code 32 = .ok (.invokevirtual 348, 3) := by decide +kernel
theorem d_M_matches_35 : decode prog_14_method_67_code 35 = .ok (.bipush 44, 2) := by decide +kernel
theorem d_M_matches_37 : decode prog_14_method_67_code 37 = .ok (.if_icmp .ne 9, 3) := by decide +kernel
theorem d_M_matches_46 : decode prog_14_method_67_code 46 = .ok (.iload_n 3, 1) := by decide +kernel
theorem d_M_matches_77 : decode prog_14_method_67_code 77 = .ok (.aload_n 0, 1) := by decide +kernel
theorem d_M_matches_78 : decode prog_14_method_67_code 78 = .ok (.iload_n 1, 1) := by decide +kernel
theorem d_M_matches_79 : decode prog_14_method_67_code 79 = .ok (.iload 5, 2) := by decide +kernel
theorem d_M_matches_81 : decode prog_14_method_67_code 81 = .ok (.iload_n 3, 1) := by decide +kernel
theorem d_M_matches_82 : decode prog_14_method_67_code 82 = .ok (.iload 5, 2) := by decide +kernel
theorem d_M_matches_84 : decode prog_14_method_67_code 84 = .ok (.isub, 1) := by decide +kernel
theorem d_M_matches_85 : decode prog_14_method_67_code 85 = .ok (.invokevirtual 387, 3) := by decide +kernel
theorem d_M_matches_88 : decode prog_14_method_67_code 88 = .ok (.istore 6, 2) := by decide +kernel
theorem d_M_matches_90 : decode prog_14_method_67_code 90 = .ok (.aload_n 0, 1) := by decide +kernel
theorem d_M_matches_91 : decode prog_14_method_67_code 91 = .ok (.getfield 384, 3) := by decide +kernel
theorem d_M_matches_157 : decode prog_14_method_67_code 157 = .ok (.istore 8, 2) := by decide +kernel
theorem d_M_matches_170 : decode prog_14_method_67_code 170 = .ok (.iadd, 1) := by decide +kernel
theorem d_M_matches_188 : decode prog_14_method_67_code 188 = .ok (.iload_n 3, 1) := by decide +kernel
theorem d_M_matches_189 : decode prog_14_method_67_code 189 = .ok (.iconst 1, 1) := by decide +kernel
theorem d_M_matches_190 : decode prog_14_method_67_code 190 = .ok (.iadd, 1) := by decide +kernel
theorem d_M_matches_191 : decode prog_14_method_67_code 191 = .ok (.istore 9, 2) := by decide +kernel
theorem d_M_matches_212 : decode prog_14_method_67_code 212 = .ok (.iload_n 3, 1) := by decide +kernel
theorem d_M_matches_213 : decode prog_14_method_67_code 213 = .ok (.iload 9, 2) := by decide +kernel
theorem d_M_matches_215 : decode prog_14_method_67_code 215 = .ok (.isub, 1) := by decide +kernel
theorem d_M_matches_216 : decode prog_14_method_67_code 216 = .ok (.istore 10, 2) := by decide +kernel
theorem d_M_matches_218 : decode prog_14_method_67_code 218 = .ok (.iinc 3 1, 3) := by decide +kernel
theorem d_M_matches_233 : decode prog_14_method_67_code 233 = .ok (.istore 11, 2) := by decide +kernel
theorem d_M_matches_303 : decode prog_14_method_67_code 303 = .ok (.istore 12, 2) := by decide +kernel
theorem d_M_matches_355 : decode prog_14_method_67_code 355 = .ok (.istore 4, 2) := by decide +kernel
theorem d_M_matches_357 : decode prog_14_method_67_code 357 = .ok (.goto (-352), 3) := by decide +kernel
theorem d_M_matches_305 : decode prog_14_method_67_code 305 = .ok (.iload 8, 2) := by decide +kernel
theorem d_M_matches_307 : decode prog_14_method_67_code 307 = .ok (.ifCond .ne 8, 3) := by decide +kernel
theorem d_M_matches_315 : decode prog_14_method_67_code 315 = .ok (.iload 8, 2) := by decide +kernel
theorem d_M_matches_317 : decode prog_14_method_67_code 317 = .ok (.iconst 1, 1) := by decide +kernel
theorem d_M_matches_318 : decode prog_14_method_67_code 318 = .ok (.if_icmp .ne 16, 3) := by decide +kernel
theorem d_M_matches_334 : decode prog_14_method_67_code 334 = .ok (.iload 8, 2) := by decide +kernel
theorem d_M_matches_336 : decode prog_14_method_67_code 336 = .ok (.iconst 2, 1) := by decide +kernel
theorem d_M_matches_337 : decode prog_14_method_67_code 337 = .ok (.if_icmp .ne 8, 3) := by decide +kernel
theorem d_M_matches_345 : decode prog_14_method_67_code 345 = .ok (.iload 11, 2) := by decide +kernel
theorem d_M_matches_347 : decode prog_14_method_67_code 347 = .ok (.ifCond .ne 7, 3) := by decide +kernel
theorem d_M_matches_354 : decode prog_14_method_67_code 354 = .ok (.iconst 0, 1) := by decide +kernel
theorem d_M_matches_350 : decode prog_14_method_67_code 350 = .ok (.iconst 1, 1) := by decide +kernel
theorem d_M_matches_351 : decode prog_14_method_67_code 351 = .ok (.goto 4, 3) := by decide +kernel
theorem d_M_matches_340 : decode prog_14_method_67_code 340 = .ok (.iload 11, 2) := by decide +kernel
theorem d_M_matches_342 : decode prog_14_method_67_code 342 = .ok (.goto 13, 3) := by decide +kernel
theorem d_M_matches_321 : decode prog_14_method_67_code 321 = .ok (.iload 12, 2) := by decide +kernel
theorem d_M_matches_323 : decode prog_14_method_67_code 323 = .ok (.ifCond .ne 7, 3) := by decide +kernel
theorem d_M_matches_330 : decode prog_14_method_67_code 330 = .ok (.iconst 0, 1) := by decide +kernel
theorem d_M_matches_331 : decode prog_14_method_67_code 331 = .ok (.goto 24, 3) := by decide +kernel
theorem d_M_matches_326 : decode prog_14_method_67_code 326 = .ok (.iconst 1, 1) := by decide +kernel
theorem d_M_matches_327 : decode prog_14_method_67_code 327 = .ok (.goto 28, 3) := by decide +kernel
theorem d_M_matches_310 : decode prog_14_method_67_code 310 = .ok (.iload 12, 2) := by decide +kernel
theorem d_M_matches_312 : decode prog_14_method_67_code 312 = .ok (.goto 43, 3) := by decide +kernel
theorem d_M_matches_286 : decode prog_14_method_67_code 286 = .ok (.iload 11, 2) := by decide +kernel
theorem d_M_matches_288 : decode prog_14_method_67_code 288 = .ok (.ifCond .eq 14, 3) := by decide +kernel
theorem d_M_matches_302 : decode prog_14_method_67_code 302 = .ok (.iconst 0, 1) := by decide +kernel
theorem d_M_matches_291 : decode prog_14_method_67_code 291 = .ok (.iload 7, 2) := by decide +kernel
theorem d_M_matches_293 : decode prog_14_method_67_code 293 = .ok (.iload 10, 2) := by decide +kernel
theorem d_M_matches_295 : decode prog_14_method_67_code 295 = .ok (.if_icmp .ne 7, 3) := by decide +kernel
theorem d_M_matches_298 : decode prog_14_method_67_code 298 = .ok (.iconst 1, 1) := by decide +kernel
theorem d_M_matches_299 : decode prog_14_method_67_code 299 = .ok (.goto 4, 3) := by decide +kernel
theorem d_M_matches_235 : decode prog_14_method_67_code 235 = .ok (.iconst 0, 1) := by decide +kernel
theorem d_M_matches_236 : decode prog_14_method_67_code 236 = .ok (.istore 12, 2) := by decide +kernel
theorem d_M_matches_238 : decode prog_14_method_67_code 238 = .ok (.iload 12, 2) := by decide +kernel
theorem d_M_matches_240 : decode prog_14_method_67_code 240 = .ok (.iload 10, 2) := by decide +kernel
theorem d_M_matches_242 : decode prog_14_method_67_code 242 = .ok (.if_icmp .ge 44, 3) := by decide +kernel
theorem d_M_matches_245 : decode prog_14_method_67_code 245 = .ok (.iload 11, 2) := by decide +kernel
theorem d_M_matches_247 : decode prog_14_method_67_code 247 = .ok (.ifCond .eq 39, 3) := by decide +kernel
theorem d_M_matches_250 : decode prog_14_method_67_code 250 = .ok (.aload_n 0, 1) := by decide +kernel
theorem d_M_matches_251 : decode prog_14_method_67_code 251 = .ok (.getfield 29, 3) := by decide +kernel
theorem d_M_matches_254 : decode prog_14_method_67_code 254 = .ok (.iload 6, 2) := by decide +kernel
theorem d_M_matches_256 : decode prog_14_method_67_code 256 = .ok (.iload 12, 2) := by decide +kernel
theorem d_M_matches_258 : decode prog_14_method_67_code 258 = .ok (.iadd, 1) := by decide +kernel
theorem d_M_matches_259 : decode prog_14_method_67_code 259 = .ok (.baload, 1) := by decide +kernel
theorem d_M_matches_260 : decode prog_14_method_67_code 260 = .ok (.aload_n 0, 1) := by decide +kernel
theorem d_M_matches_261 : decode prog_14_method_67_code 261 = .ok (.getfield 8, 3) := by decide +kernel
theorem d_M_matches_264 : decode prog_14_method_67_code 264 = .ok (.iload 9, 2) := by decide +kernel
theorem d_M_matches_266 : decode prog_14_method_67_code 266 = .ok (.iload 12, 2) := by decide +kernel
theorem d_M_matches_268 : decode prog_14_method_67_code 268 = .ok (.iadd, 1) := by decide +kernel
theorem d_M_matches_269 : decode prog_14_method_67_code 269 = .ok (.baload, 1) := by decide +kernel
theorem d_M_matches_270 : decode prog_14_method_67_code 270 = .ok (.if_icmp .ne 7, 3) := by decide +kernel
theorem d_M_matches_277 : decode prog_14_method_67_code 277 = .ok (.iconst 0, 1) := by decide +kernel
theorem d_M_matches_278 : decode prog_14_method_67_code 278 = .ok (.istore 11, 2) := by decide +kernel
theorem d_M_matches_280 : decode prog_14_method_67_code 280 = .ok (.iinc 12 1, 3) := by decide +kernel
theorem d_M_matches_283 : decode prog_14_method_67_code 283 = .ok (.goto (-45), 3) := by decide +kernel
theorem d_M_matches_273 : decode prog_14_method_67_code 273 = .ok (.iconst 1, 1) := by decide +kernel
theorem d_M_matches_274 : decode prog_14_method_67_code 274 = .ok (.goto 4, 3) := by decide +kernel
theorem d_M_matches_221 : decode prog_14_method_67_code 221 = .ok (.iload 7, 2) := by decide +kernel
theorem d_M_matches_223 : decode prog_14_method_67_code 223 = .ok (.iload 10, 2) := by decide +kernel
theorem d_M_matches_225 : decode prog_14_method_67_code 225 = .ok (.if_icmp .lt 7, 3) := by decide +kernel
theorem d_M_matches_232 : decode prog_14_method_67_code 232 = .ok (.iconst 0, 1) := by decide +kernel
theorem d_M_matches_228 : decode prog_14_method_67_code 228 = .ok (.iconst 1, 1) := by decide +kernel
theorem d_M_matches_229 : decode prog_14_method_67_code 229 = .ok (.goto 4, 3) := by decide +kernel
theorem d_M_matches_193 : decode prog_14_method_67_code 193 = .ok (.iinc 3 1, 3) := by decide +kernel
theorem d_M_matches_196 : decode prog_14_method_67_code 196 = .ok (.aload_n 0, 1) := by decide +kernel
theorem d_M_matches_197 : decode prog_14_method_67_code 197 = .ok (.iload_n 3, 1) := by decide +kernel
theorem d_M_matches_198 : decode prog_14_method_67_code 198 = .ok (.invokevirtual 348, 3) := by decide +kernel
theorem d_M_matches_201 : decode prog_14_method_67_code 201 = .ok (.bipush 34, 2) := by decide +kernel
theorem d_M_matches_203 : decode prog_14_method_67_code 203 = .ok (.if_icmp .eq 9, 3) := by decide +kernel
theorem d_M_matches_206 : decode prog_14_method_67_code 206 = .ok (.iinc 3 1, 3) := by decide +kernel
theorem d_M_matches_209 : decode prog_14_method_67_code 209 = .ok (.goto (-13), 3) := by decide +kernel
theorem d_M_matches_171 : decode prog_14_method_67_code 171 = .ok (.istore_n 3, 1) := by decide +kernel
theorem d_M_matches_172 : decode prog_14_method_67_code 172 = .ok (.aload_n 0, 1) := by decide +kernel
theorem d_M_matches_173 : decode prog_14_method_67_code 173 = .ok (.iload_n 3, 1) := by decide +kernel
theorem d_M_matches_174 : decode prog_14_method_67_code 174 = .ok (.invokevirtual 348, 3) := by decide +kernel
theorem d_M_matches_177 : decode prog_14_method_67_code 177 = .ok (.bipush 32, 2) := by decide +kernel
theorem d_M_matches_179 : decode prog_14_method_67_code 179 = .ok (.if_icmp .ne 9, 3) := by decide +kernel
theorem d_M_matches_182 : decode prog_14_method_67_code 182 = .ok (.iinc 3 1, 3) := by decide +kernel
theorem d_M_matches_185 : decode prog_14_method_67_code 185 = .ok (.goto (-13), 3) := by decide +kernel
theorem d_M_matches_159 : decode prog_14_method_67_code 159 = .ok (.iload_n 3, 1) := by decide +kernel
theorem d_M_matches_160 : decode prog_14_method_67_code 160 = .ok (.iload 8, 2) := by decide +kernel
theorem d_M_matches_162 : decode prog_14_method_67_code 162 = .ok (.ifCond .ne 7, 3) := by decide +kernel
theorem d_M_matches_169 : decode prog_14_method_67_code 169 = .ok (.iconst 2, 1) := by decide +kernel
theorem d_M_matches_165 : decode prog_14_method_67_code 165 = .ok (.iconst 1, 1) := by decide +kernel
theorem d_M_matches_166 : decode prog_14_method_67_code 166 = .ok (.goto 4, 3) := by decide +kernel
theorem d_M_matches_112 : decode prog_14_method_67_code 112 = .ok (.aload_n 0, 1) := by decide +kernel
theorem d_M_matches_113 : decode prog_14_method_67_code 113 = .ok (.iload_n 3, 1) := by decide +kernel
theorem d_M_matches_114 : decode prog_14_method_67_code 114 = .ok (.invokevirtual 348, 3) := by decide +kernel
theorem d_M_matches_117 : decode prog_14_method_67_code 117 = .ok (.bipush 61, 2) := by decide +kernel
theorem d_M_matches_119 : decode prog_14_method_67_code 119 = .ok (.if_icmp .ne 7, 3) := by decide +kernel
theorem d_M_matches_126 : decode prog_14_method_67_code 126 = .ok (.aload_n 0, 1) := by decide +kernel
theorem d_M_matches_127 : decode prog_14_method_67_code 127 = .ok (.iload_n 3, 1) := by decide +kernel
theorem d_M_matches_128 : decode prog_14_method_67_code 128 = .ok (.iconst 1, 1) := by decide +kernel
theorem d_M_matches_129 : decode prog_14_method_67_code 129 = .ok (.iadd, 1) := by decide +kernel
theorem d_M_matches_130 : decode prog_14_method_67_code 130 = .ok (.invokevirtual 348, 3) := by decide +kernel
theorem d_M_matches_133 : decode prog_14_method_67_code 133 = .ok (.bipush 61, 2) := by decide +kernel
theorem d_M_matches_135 : decode prog_14_method_67_code 135 = .ok (.if_icmp .ne 21, 3) := by decide +kernel
theorem d_M_matches_156 : decode prog_14_method_67_code 156 = .ok (.iconst 3, 1) := by decide +kernel
theorem d_M_matches_138 : decode prog_14_method_67_code 138 = .ok (.aload_n 0, 1) := by decide +kernel
theorem d_M_matches_139 : decode prog_14_method_67_code 139 = .ok (.iload_n 3, 1) := by decide +kernel
theorem d_M_matches_140 : decode prog_14_method_67_code 140 = .ok (.invokevirtual 348, 3) := by decide +kernel
theorem d_M_matches_143 : decode prog_14_method_67_code 143 = .ok (.bipush 33, 2) := by decide +kernel
theorem d_M_matches_145 : decode prog_14_method_67_code 145 = .ok (.if_icmp .ne 7, 3) := by decide +kernel
theorem d_M_matches_152 : decode prog_14_method_67_code 152 = .ok (.iconst 2, 1) := by decide +kernel
theorem d_M_matches_153 : decode prog_14_method_67_code 153 = .ok (.goto 4, 3) := by decide +kernel
theorem d_M_matches_148 : decode prog_14_method_67_code 148 = .ok (.iconst 1, 1) := by decide +kernel
theorem d_M_matches_149 : decode prog_14_method_67_code 149 = .ok (.goto 8, 3) := by decide +kernel
theorem d_M_matches_122 : decode prog_14_method_67_code 122 = .ok (.iconst 0, 1) := by decide +kernel
theorem d_M_matches_123 : decode prog_14_method_67_code 123 = .ok (.goto 34, 3) := by decide +kernel
theorem d_M_matches_94 : decode prog_14_method_67_code 94 = .ok (.istore 7, 2) := by decide +kernel
theorem d_M_matches_96 : decode prog_14_method_67_code 96 = .ok (.aload_n 0, 1) := by decide +kernel
theorem d_M_matches_97 : decode prog_14_method_67_code 97 = .ok (.iload_n 3, 1) := by decide +kernel
theorem d_M_matches_98 : decode prog_14_method_67_code 98 = .ok (.invokevirtual 348, 3) := by decide +kernel
theorem d_M_matches_101 : decode prog_14_method_67_code 101 = .ok (.bipush 32, 2) := by decide +kernel
theorem d_M_matches_103 : decode prog_14_method_67_code 103 = .ok (.if_icmp .ne 9, 3) := by decide +kernel
theorem d_M_matches_106 : decode prog_14_method_67_code 106 = .ok (.iinc 3 1, 3) := by decide +kernel
theorem d_M_matches_109 : decode prog_14_method_67_code 109 = .ok (.goto (-13), 3) := by decide +kernel
theorem d_M_matches_47 : decode prog_14_method_67_code 47 = .ok (.istore 5, 2) := by decide +kernel
theorem d_M_matches_49 : decode prog_14_method_67_code 49 = .ok (.aload_n 0, 1) := by decide +kernel
theorem d_M_matches_71 : decode prog_14_method_67_code 71 = .ok (.iinc 3 1, 3) := by decide +kernel
theorem d_M_matches_74 : decode prog_14_method_67_code 74 = .ok (.goto (-25), 3) := by decide +kernel
theorem d_M_matches_50 : decode prog_14_method_67_code 50 = .ok (.iload_n 3, 1) := by decide +kernel
theorem d_M_matches_51 : decode prog_14_method_67_code 51 = .ok (.invokevirtual 348, 3) := by decide +kernel
theorem d_M_matches_54 : decode prog_14_method_67_code 54 = .ok (.invokestatic 360, 3) := by decide +kernel
theorem d_M_matches_57 : decode prog_14_method_67_code 57 = .ok (.ifCond .ne 14, 3) := by decide +kernel
theorem d_M_matches_60 : decode prog_14_method_67_code 60 = .ok (.aload_n 0, 1) := by decide +kernel
theorem d_M_matches_61 : decode prog_14_method_67_code 61 = .ok (.iload_n 3, 1) := by decide +kernel
theorem d_M_matches_62 : decode prog_14_method_67_code 62 = .ok (.invokevirtual 348, 3) := by decide +kernel
theorem d_M_matches_65 : decode prog_14_method_67_code 65 = .ok (.invokestatic 354, 3) := by decide +kernel
theorem d_M_matches_68 : decode prog_14_method_67_code 68 = .ok (.ifCond .eq 9, 3) := by decide +kernel
set_option maxHeartbeats 4000000 in
set_option maxRecDepth 100000 in
theorem k_matches (l : Launch) (D : va_G) (dA : Nat → ClassId) (sz : Nat) (h : Nat) (ad : Nat → Nat) (x : MS) (s7 : Nat) (p7 : Nat) (hts : x.tOK s7) (hmo : x.mOK p7) (hl1 : x.length ≤ 65536) : Met l ⟨"SeriesVaultModel", "matches", "(II)Z"⟩ [Cond.code ⟨"SeriesVaultModel", "matches", "(II)Z"⟩ prog_14_method_67_code 13 (some FieldType.boolean)] { frames := 2, cells := 0, slots := 0, locals := 29 } (pC D dA [.ref h, .int (nI s7), .int (nI p7)] (MW dA h ad x) sz) (va_Qi (fun (r9 : Int32) (u9 : Unit) => r9 = bI (x.mt s7 p7).1) (fun (u9 : Unit) t9 => bW D (va_A (MW dA h ad x) sz) (MW dA h ad (MS.s_valueLength x ((x.mt s7 p7).2))) t9) (va_A (MW dA h ad x) sz)) 0 0 (va_A (MW dA h ad x) sz) := by
  refine mkC (y := ⟨"SeriesVaultModel", "matches", "(II)Z"⟩) (cc := prog_14_method_67_code) (maxL := 13) (av := [.ref h, .int (nI s7), .int (nI p7)]) (ws := MW dA h ad x) (sz := sz) (Qc := fun A => va_Qi (fun (r9 : Int32) (u9 : Unit) => r9 = bI (x.mt s7 p7).1) (fun (u9 : Unit) t9 => bW D A (MW dA h ad (MS.s_valueLength x ((x.mt s7 p7).2))) t9) A) (by decide) (Nat.le_of_ble_eq_true rfl) ?_
  intro A p e s m below meth c ls hsz hB
  obtain ⟨hx, hb, hr, hml, hown, hin, hlk, hE, hK, hP, hD, hS, hA, hN, hl⟩ := hB
  have hown : s.vm.findClass "SeriesVaultModel" = some m.cls := hown
  have hl : lv_has ls 13 [(0, .ref h), (1, .int (nI s7)), (2, .int (nI p7))] := hl
  obtain ⟨H, hH⟩ : ∃ z, z = s.heap := ⟨_, rfl⟩
  have hP : va_P D vwCl (MW dA h ad x) H := by rw [hH]; exact hP
  have hS : va_S A s.heap H [] := by rw [hH]; exact hS
  rw [← hH]
  obtain ⟨hmo1, hmo2⟩ := hmo
  have hs7 := hts.1
  refine lv_iload_n hx hb d_M_matches_0 rfl (lv_at hl 2 rfl) ?_
  refine lv_istore_n hx hb d_M_matches_1 rfl hl (by decide) rfl (fun ls hl => ?_)
  have hl : lv_has ls 13 [(3, .int (nI p7)), (0, .ref h), (1, .int (nI s7)), (2, .int (nI p7))] := hl
  refine lv_iconst (v := 1) hx hb d_M_matches_2 (by decide) ?_
  refine lv_istore hx hb d_M_matches_3 hl (by decide) rfl (fun ls hl => ?_)
  have hl : lv_has ls 13 [(4, .int 1), (3, .int (nI p7)), (0, .ref h), (1, .int (nI s7)), (2, .int (nI p7))] := hl
  have L5 : ∀ (k9 : Nat) (k : Nat) (g : Bool) (w : Nat) (v : Nat) (i1 : mtG x.atN (m5E x.tape x.length) (x.mt1 s7) (x.mtL s7) w k g v = x.mt s7 p7) (i2 : mtOK x.tape x.length w k = true) (i3 : k ≤ x.length) (i4 : x.length + 1 ≤ x.length + 1) (hk9 : w = k9), ∀ (H : Heap) (locs : List Loc) (ls : Array Slot) (hP : va_P D vwCl (MW dA h ad (MS.s_valueLength x v)) H) (hD : va_D A (MW dA h ad (MS.s_valueLength x v))) (hS : va_S A s.heap H locs) (hl : lv_has ls 13 [(3, .int (nI k)), (1, .int (nI s7)), (2, .int (nI p7)), (0, .ref h), (4, .int (bI g))]), W p l e ({ frames := 2, cells := 0, slots := 0, locals := 29 } : Room) s m ([.ref h, .int (nI s7), .int (nI p7)] : List Value).toArray below meth c H locs 0 0 (MQ below (va_Qi (fun (r9 : Int32) (u9 : Unit) => r9 = bI (x.mt s7 p7).1) (fun (u9 : Unit) t9 => bW D A (MW dA h ad (MS.s_valueLength x ((x.mt s7 p7).2))) t9) A) ([.ref h, .int (nI s7), .int (nI p7)] : List Value).toArray s 0 0 A) (F0 m 5 ls []) := by
    intro k9
    induction k9 using Nat.strongRecOn with
    | ind k9 ih5 =>
      intro k g w v i1 i2 i3 i4 hk9 H locs ls hP hD hS hl
      refine lv_iload hx hb d_M_matches_5 (lv_at hl 4 rfl) ?_
      refine lv_if_eq hx hb d_M_matches_7 (tgt := 360) rfl (fun g1 => ?_) (fun g1 => ?_)
      · have g1 := bI_0 g1
        have ve : x.mt s7 p7 = (g, v) := i1.symm.trans (mtG_e (tp := x.atN) (Or.inl g1))
        refine lv_iload hx hb d_M_matches_360 (lv_at hl 4 rfl) ?_
        have e9 : (MS.s_valueLength x v : MS) = MS.s_valueLength x ((x.mt s7 p7).2) := by rw [show ((x.mt s7 p7).2) = v from by (rw [ve])] <;> rfl
        exact rfZ hx hb hr (bI_nar g) hlk hS () (by rw [ve]) (cvP e9 hP) (cvD e9 hD) (Nat.le_of_ble_eq_true rfl) (Nat.le_of_ble_eq_true rfl) d_M_matches_362
      · have g1 := bI_n0 g1
        refine lv_aload_n hx hb d_M_matches_10 rfl (lv_at hl 3 rfl) ?_
        refine lv_iload_n hx hb d_M_matches_11 rfl (lv_at hl 0 rfl) ?_
        refine jfI (rnV (As := [.int (nI k)]) (rest := []) hx hb hml hown hE hK (hN _ _ hS) hP hD (k_at l D dA H.size h ad (MS.s_valueLength x v) k (show k < 2 ^ 31 from by omega) (show x.length ≤ 65536 from by omega)) (q0 := 0) rfl rfl w466 w465 w467 w468 w328 rfl rfl ⟨⟨by decide, by decide⟩, rfl⟩ ⟨(Nat.le_of_ble_eq_true rfl), (Nat.le_of_ble_eq_true rfl)⟩ rfl hl.1 rfl (Nat.le_of_ble_eq_true rfl) d_M_matches_12 ⟨(Nat.le_of_ble_eq_true rfl), (Nat.le_of_ble_eq_true rfl)⟩) hP hD hS hA (fun r2 u3 H locs hp9 hP hD hS => ?_)
        have hP : va_P D vwCl (MW dA h ad (MS.s_valueLength x v)) H := hP
        have hD : va_D A (MW dA h ad (MS.s_valueLength x v)) := hD
        replace hp9 : x.atN k = r2 := Eq.symm hp9
        subst hp9
        refine lv_bipush (v := 125) hx hb d_M_matches_15 (by decide) ?_
        refine lv_icmp_eq hx hb d_M_matches_17 (tgt := 360) rfl (fun g4 => ?_) (fun g4 => ?_)
        · have g4 := g4
          have ve : x.mt s7 p7 = (g, v) := i1.symm.trans (mtG_e (tp := x.atN) (Or.inr g4))
          refine lv_iload hx hb d_M_matches_360 (lv_at hl 4 rfl) ?_
          have e9 : (MS.s_valueLength x v : MS) = MS.s_valueLength x ((x.mt s7 p7).2) := by rw [show ((x.mt s7 p7).2) = v from by (rw [ve])] <;> rfl
          exact rfZ hx hb hr (bI_nar g) hlk hS () (by rw [ve]) (cvP e9 hP) (cvD e9 hD) (Nat.le_of_ble_eq_true rfl) (Nat.le_of_ble_eq_true rfl) d_M_matches_362
        · have g4 := g4
          refine lv_aload_n hx hb d_M_matches_20 rfl (lv_at hl 3 rfl) ?_
          refine lv_iload_n hx hb d_M_matches_21 rfl (lv_at hl 0 rfl) ?_
          refine jfI (rnV (As := [.int (nI k)]) (rest := []) hx hb hml hown hE hK (hN _ _ hS) hP hD (k_at l D dA H.size h ad (MS.s_valueLength x v) k (show k < 2 ^ 31 from by omega) (show x.length ≤ 65536 from by omega)) (q0 := 0) rfl rfl w466 w465 w467 w468 w328 rfl rfl ⟨⟨by decide, by decide⟩, rfl⟩ ⟨(Nat.le_of_ble_eq_true rfl), (Nat.le_of_ble_eq_true rfl)⟩ rfl hl.1 rfl (Nat.le_of_ble_eq_true rfl) d_M_matches_22 ⟨(Nat.le_of_ble_eq_true rfl), (Nat.le_of_ble_eq_true rfl)⟩) hP hD hS hA (fun r5 u6 H locs hp9 hP hD hS => ?_)
          have hP : va_P D vwCl (MW dA h ad (MS.s_valueLength x v)) H := hP
          have hD : va_D A (MW dA h ad (MS.s_valueLength x v)) := hD
          replace hp9 : x.atN k = r5 := Eq.symm hp9
          subst hp9
          refine lv_bipush (v := 32) hx hb d_M_matches_25 (by decide) ?_
          refine lv_icmp_eq hx hb d_M_matches_27 (tgt := 40) rfl (fun g7 => ?_) (fun g7 => ?_)
          · have g7 := g7
            refine lv_iinc (k := 0) (v := nI (k + 1)) hx hb d_M_matches_40 hl rfl (iincN (k) 1 1 (by decide)) (by decide) rfl (fun ls hl => ?_)
            have hl : lv_has ls 13 [(3, .int (nI (k + 1))), (1, .int (nI s7)), (2, .int (nI p7)), (0, .ref h), (4, .int (bI g))] := hl
            refine lv_goto hx hb d_M_matches_43 (tgt := 5) rfl ?_
            exact ih5 _ (by have := (mtOK_s i2 g4 (by show (decide (x.atN k = 32) || decide (x.atN k = 44)) = true; rw [decide_eq_true g7]; rfl)).1; omega) (k + 1) g (w - 1) v (by rw [← i1, mtG_s (tp := x.atN) (mtOK_s i2 g4 (by show (decide (x.atN k = 32) || decide (x.atN k = 44)) = true; rw [decide_eq_true g7]; rfl)).1 g1 g4 (by show (decide (x.atN k = 32) || decide (x.atN k = 44)) = true; rw [decide_eq_true g7]; rfl)]) (mtOK_s i2 g4 (by show (decide (x.atN k = 32) || decide (x.atN k = 44)) = true; rw [decide_eq_true g7]; rfl)).2 (atI_in g7 (by decide)) (Nat.le_refl _) rfl H _ ls hP hD hS (lv_sub hl [0, 1, 2, 3, 4] rfl)
          · have g7 := g7
            refine lv_aload_n hx hb d_M_matches_30 rfl (lv_at hl 3 rfl) ?_
            refine lv_iload_n hx hb d_M_matches_31 rfl (lv_at hl 0 rfl) ?_
            refine jfI (rnV (As := [.int (nI k)]) (rest := []) hx hb hml hown hE hK (hN _ _ hS) hP hD (k_at l D dA H.size h ad (MS.s_valueLength x v) k (show k < 2 ^ 31 from by omega) (show x.length ≤ 65536 from by omega)) (q0 := 0) rfl rfl w466 w465 w467 w468 w328 rfl rfl ⟨⟨by decide, by decide⟩, rfl⟩ ⟨(Nat.le_of_ble_eq_true rfl), (Nat.le_of_ble_eq_true rfl)⟩ rfl hl.1 rfl (Nat.le_of_ble_eq_true rfl) d_M_matches_32 ⟨(Nat.le_of_ble_eq_true rfl), (Nat.le_of_ble_eq_true rfl)⟩) hP hD hS hA (fun r8 u9 H locs hp9 hP hD hS => ?_)
            have hP : va_P D vwCl (MW dA h ad (MS.s_valueLength x v)) H := hP
            have hD : va_D A (MW dA h ad (MS.s_valueLength x v)) := hD
            replace hp9 : x.atN k = r8 := Eq.symm hp9
            subst hp9
            refine lv_bipush (v := 44) hx hb d_M_matches_35 (by decide) ?_
            refine lv_icmp_ne hx hb d_M_matches_37 (tgt := 46) rfl (fun g10 => ?_) (fun g10 => ?_)
            · have g10 := g10
              have sp : isSep (x.atN k) = false := by show (decide _ || decide _) = false; rw [decide_eq_false g7, decide_eq_false g10]; rfl
              obtain ⟨w1, w2, w3⟩ := mtOK_m i2 g4 sp
              refine lv_iload_n hx hb d_M_matches_46 rfl (lv_at hl 0 rfl) ?_
              have J77 : ∀ (q : Nat) (e1 : m1E x.tape x.length k = q) (e2 : q ≤ x.length) (e3 : k ≤ q), ∀ (H : Heap) (locs : List Loc) (ls : Array Slot) (hP : va_P D vwCl (MW dA h ad (MS.s_valueLength x v)) H) (hD : va_D A (MW dA h ad (MS.s_valueLength x v))) (hS : va_S A s.heap H locs) (hl : lv_has ls 13 [(3, .int (nI q)), (5, .int (nI k)), (1, .int (nI s7)), (2, .int (nI p7)), (0, .ref h), (4, .int (bI g))]), W p l e ({ frames := 2, cells := 0, slots := 0, locals := 29 } : Room) s m ([.ref h, .int (nI s7), .int (nI p7)] : List Value).toArray below meth c H locs 0 0 (MQ below (va_Qi (fun (r9 : Int32) (u9 : Unit) => r9 = bI (x.mt s7 p7).1) (fun (u9 : Unit) t9 => bW D A (MW dA h ad (MS.s_valueLength x ((x.mt s7 p7).2))) t9) A) ([.ref h, .int (nI s7), .int (nI p7)] : List Value).toArray s 0 0 A) (F0 m 77 ls []) := by
                intro q e1 e2 e3 H locs ls hP hD hS hl
                have ev : x.mtV s7 k = x.vo s7 k (q - k) := by unfold MS.mtV; rw [e1]
                have ei := vo_in (x := x) (s := s7) (nm := k) (n := q - k) hts
                refine lv_aload_n hx hb d_M_matches_77 rfl (lv_at hl 4 rfl) ?_
                refine lv_iload_n hx hb d_M_matches_78 rfl (lv_at hl 2 rfl) ?_
                refine lv_iload hx hb d_M_matches_79 (lv_at hl 1 rfl) ?_
                refine lv_iload_n hx hb d_M_matches_81 rfl (lv_at hl 0 rfl) ?_
                refine lv_iload hx hb d_M_matches_82 (lv_at hl 1 rfl) ?_
                refine lv_isub hx hb d_M_matches_84 (tpi (y := nI (q - k)) (pk_sub (a := q) (b := k) (by omega)) ?_)
                refine jfI (rnV (As := [.int (nI s7), .int (nI k), .int (nI (q - k))]) (rest := []) hx hb hml hown hE hK (hN _ _ hS) hP hD (k_valueOf l D dA H.size h ad (MS.s_valueLength x v) s7 k (q - k) hts (show k + (q - k) ≤ 65536 from by omega)) (q0 := 0) rfl rfl w979 w978 w980 w981 w328 rfl rfl ⟨⟨by decide, by decide⟩, rfl⟩ ⟨(Nat.le_of_ble_eq_true rfl), (Nat.le_of_ble_eq_true rfl)⟩ rfl hl.1 rfl (Nat.le_of_ble_eq_true rfl) d_M_matches_85 ⟨(Nat.le_of_ble_eq_true rfl), (Nat.le_of_ble_eq_true rfl)⟩) hP hD hS hA (fun r11 u12 H locs hp9 hP hD hS => ?_)
                have hP : va_P D vwCl (MW dA h ad (MS.s_valueLength x ((x.vo s7 k (q - k)).2.1))) H := hP
                have hD : va_D A (MW dA h ad (MS.s_valueLength x ((x.vo s7 k (q - k)).2.1))) := hD
                replace hp9 : voI (x.vo s7 k (q - k)) = r11 := Eq.symm hp9
                subst hp9
                refine lv_istore hx hb d_M_matches_88 hl (by decide) rfl (fun ls hl => ?_)
                have hl : lv_has ls 13 [(6, .int (voI (x.vo s7 k (q - k)))), (3, .int (nI q)), (5, .int (nI k)), (1, .int (nI s7)), (2, .int (nI p7)), (0, .ref h), (4, .int (bI g))] := hl
                refine lv_aload_n hx hb d_M_matches_90 rfl (lv_at hl 5 rfl) ?_
                refine gF (v := .int (nI ((x.vo s7 k (q - k)).2.1))) hx hb hown hE hK hP 0 rfl rfl layM 60 (by decide) w977 rfl d_M_matches_91 ?_
                have J112 : ∀ (r : Nat) (f1 : m2E x.tape x.length k = r) (f2 : r ≤ x.length), ∀ (H : Heap) (locs : List Loc) (ls : Array Slot) (hP : va_P D vwCl (MW dA h ad (MS.s_valueLength x ((x.vo s7 k (q - k)).2.1))) H) (hD : va_D A (MW dA h ad (MS.s_valueLength x ((x.vo s7 k (q - k)).2.1)))) (hS : va_S A s.heap H locs) (hl : lv_has ls 13 [(3, .int (nI r)), (6, .int (voI (x.vo s7 k (q - k)))), (7, .int (nI (x.vo s7 k (q - k)).2.1)), (5, .int (nI k)), (1, .int (nI s7)), (2, .int (nI p7)), (0, .ref h), (4, .int (bI g))]), W p l e ({ frames := 2, cells := 0, slots := 0, locals := 29 } : Room) s m ([.ref h, .int (nI s7), .int (nI p7)] : List Value).toArray below meth c H locs 0 0 (MQ below (va_Qi (fun (r9 : Int32) (u9 : Unit) => r9 = bI (x.mt s7 p7).1) (fun (u9 : Unit) t9 => bW D A (MW dA h ad (MS.s_valueLength x ((x.mt s7 p7).2))) t9) A) ([.ref h, .int (nI s7), .int (nI p7)] : List Value).toArray s 0 0 A) (F0 m 112 ls []) := by
                  intro r f1 f2 H locs ls hP hD hS hl
                  have J157 : ∀ (sg : Nat) (sq1 : sgM x.tape x.length r = sg) (sq2 : sg ≤ 3), ∀ (H : Heap) (locs : List Loc) (ls : Array Slot) (hP : va_P D vwCl (MW dA h ad (MS.s_valueLength x ((x.vo s7 k (q - k)).2.1))) H) (hD : va_D A (MW dA h ad (MS.s_valueLength x ((x.vo s7 k (q - k)).2.1)))) (hS : va_S A s.heap H locs) (hl : lv_has ls 13 [(3, .int (nI r)), (6, .int (voI (x.vo s7 k (q - k)))), (7, .int (nI (x.vo s7 k (q - k)).2.1)), (5, .int (nI k)), (1, .int (nI s7)), (2, .int (nI p7)), (0, .ref h), (4, .int (bI g))]), W p l e ({ frames := 2, cells := 0, slots := 0, locals := 29 } : Room) s m ([.ref h, .int (nI s7), .int (nI p7)] : List Value).toArray below meth c H locs 0 0 (MQ below (va_Qi (fun (r9 : Int32) (u9 : Unit) => r9 = bI (x.mt s7 p7).1) (fun (u9 : Unit) t9 => bW D A (MW dA h ad (MS.s_valueLength x ((x.mt s7 p7).2))) t9) A) ([.ref h, .int (nI s7), .int (nI p7)] : List Value).toArray s 0 0 A) (F0 m 157 ls [.int (nI sg)]) := by
                    intro sg sq1 sq2 H locs ls hP hD hS hl
                    refine lv_istore hx hb d_M_matches_157 hl (by decide) rfl (fun ls hl => ?_)
                    have hl : lv_has ls 13 [(8, .int (nI sg)), (3, .int (nI r)), (6, .int (voI (x.vo s7 k (q - k)))), (7, .int (nI (x.vo s7 k (q - k)).2.1)), (5, .int (nI k)), (1, .int (nI s7)), (2, .int (nI p7)), (0, .ref h), (4, .int (bI g))] := hl
                    have J170 : ∀ (d : Nat) (d1 : (if sg = 0 then 1 else 2) = d) (d2 : d ≤ 2), ∀ (H : Heap) (locs : List Loc) (ls : Array Slot) (hP : va_P D vwCl (MW dA h ad (MS.s_valueLength x ((x.vo s7 k (q - k)).2.1))) H) (hD : va_D A (MW dA h ad (MS.s_valueLength x ((x.vo s7 k (q - k)).2.1)))) (hS : va_S A s.heap H locs) (hl : lv_has ls 13 [(8, .int (nI sg)), (6, .int (voI (x.vo s7 k (q - k)))), (7, .int (nI (x.vo s7 k (q - k)).2.1)), (5, .int (nI k)), (1, .int (nI s7)), (2, .int (nI p7)), (0, .ref h), (4, .int (bI g))]), W p l e ({ frames := 2, cells := 0, slots := 0, locals := 29 } : Room) s m ([.ref h, .int (nI s7), .int (nI p7)] : List Value).toArray below meth c H locs 0 0 (MQ below (va_Qi (fun (r9 : Int32) (u9 : Unit) => r9 = bI (x.mt s7 p7).1) (fun (u9 : Unit) t9 => bW D A (MW dA h ad (MS.s_valueLength x ((x.mt s7 p7).2))) t9) A) ([.ref h, .int (nI s7), .int (nI p7)] : List Value).toArray s 0 0 A) (F0 m 170 ls [.int (nI d), .int (nI r)]) := by
                      intro d d1 d2 H locs ls hP hD hS hl
                      refine lv_iadd hx hb d_M_matches_170 (tpi (y := nI (r + d)) (nI_add (r) (d)) ?_)
                      have J188 : ∀ (u : Nat) (h4 : m4E x.tape x.length k = u), ∀ (H : Heap) (locs : List Loc) (ls : Array Slot) (hP : va_P D vwCl (MW dA h ad (MS.s_valueLength x ((x.vo s7 k (q - k)).2.1))) H) (hD : va_D A (MW dA h ad (MS.s_valueLength x ((x.vo s7 k (q - k)).2.1)))) (hS : va_S A s.heap H locs) (hl : lv_has ls 13 [(3, .int (nI u)), (8, .int (nI sg)), (6, .int (voI (x.vo s7 k (q - k)))), (7, .int (nI (x.vo s7 k (q - k)).2.1)), (5, .int (nI k)), (1, .int (nI s7)), (2, .int (nI p7)), (0, .ref h), (4, .int (bI g))]), W p l e ({ frames := 2, cells := 0, slots := 0, locals := 29 } : Room) s m ([.ref h, .int (nI s7), .int (nI p7)] : List Value).toArray below meth c H locs 0 0 (MQ below (va_Qi (fun (r9 : Int32) (u9 : Unit) => r9 = bI (x.mt s7 p7).1) (fun (u9 : Unit) t9 => bW D A (MW dA h ad (MS.s_valueLength x ((x.mt s7 p7).2))) t9) A) ([.ref h, .int (nI s7), .int (nI p7)] : List Value).toArray s 0 0 A) (F0 m 188 ls []) := by
                        intro u h4 H locs ls hP hD hS hl
                        have h5 : u + 1 ≤ m5E x.tape x.length k := by rw [← h4]; exact fqA_ge
                        refine lv_iload_n hx hb d_M_matches_188 rfl (lv_at hl 0 rfl) ?_
                        refine lv_iconst (v := 1) hx hb d_M_matches_189 (by decide) ?_
                        refine lv_iadd hx hb d_M_matches_190 (tpi (y := nI (u + 1)) (nI_add (u) (1)) ?_)
                        refine lv_istore hx hb d_M_matches_191 hl (by decide) rfl (fun ls hl => ?_)
                        have hl : lv_has ls 13 [(9, .int (nI (u + 1))), (3, .int (nI u)), (8, .int (nI sg)), (6, .int (voI (x.vo s7 k (q - k)))), (7, .int (nI (x.vo s7 k (q - k)).2.1)), (5, .int (nI k)), (1, .int (nI s7)), (2, .int (nI p7)), (0, .ref h), (4, .int (bI g))] := hl
                        have J212 : ∀ (z : Nat) (z4 : m5E x.tape x.length k = z) (z5 : u + 1 ≤ z), ∀ (H : Heap) (locs : List Loc) (ls : Array Slot) (hP : va_P D vwCl (MW dA h ad (MS.s_valueLength x ((x.vo s7 k (q - k)).2.1))) H) (hD : va_D A (MW dA h ad (MS.s_valueLength x ((x.vo s7 k (q - k)).2.1)))) (hS : va_S A s.heap H locs) (hl : lv_has ls 13 [(9, .int (nI (u + 1))), (3, .int (nI z)), (8, .int (nI sg)), (6, .int (voI (x.vo s7 k (q - k)))), (7, .int (nI (x.vo s7 k (q - k)).2.1)), (5, .int (nI k)), (1, .int (nI s7)), (2, .int (nI p7)), (0, .ref h), (4, .int (bI g))]), W p l e ({ frames := 2, cells := 0, slots := 0, locals := 29 } : Room) s m ([.ref h, .int (nI s7), .int (nI p7)] : List Value).toArray below meth c H locs 0 0 (MQ below (va_Qi (fun (r9 : Int32) (u9 : Unit) => r9 = bI (x.mt s7 p7).1) (fun (u9 : Unit) t9 => bW D A (MW dA h ad (MS.s_valueLength x ((x.mt s7 p7).2))) t9) A) ([.ref h, .int (nI s7), .int (nI p7)] : List Value).toArray s 0 0 A) (F0 m 212 ls []) := by
                          intro z z4 z5 H locs ls hP hD hS hl
                          have z6 : z < x.length := by rw [← z4]; exact w2
                          refine lv_iload_n hx hb d_M_matches_212 rfl (lv_at hl 1 rfl) ?_
                          refine lv_iload hx hb d_M_matches_213 (lv_at hl 0 rfl) ?_
                          refine lv_isub hx hb d_M_matches_215 (tpi (y := nI (z - (u + 1))) (pk_sub (a := z) (b := u + 1) (by omega)) ?_)
                          refine lv_istore hx hb d_M_matches_216 hl (by decide) rfl (fun ls hl => ?_)
                          have hl : lv_has ls 13 [(10, .int (nI (z - (u + 1)))), (9, .int (nI (u + 1))), (3, .int (nI z)), (8, .int (nI sg)), (6, .int (voI (x.vo s7 k (q - k)))), (7, .int (nI (x.vo s7 k (q - k)).2.1)), (5, .int (nI k)), (1, .int (nI s7)), (2, .int (nI p7)), (0, .ref h), (4, .int (bI g))] := hl
                          refine lv_iinc (k := 2) (v := nI (z + 1)) hx hb d_M_matches_218 hl rfl (iincN (z) 1 1 (by decide)) (by decide) rfl (fun ls hl => ?_)
                          have hl : lv_has ls 13 [(3, .int (nI (z + 1))), (10, .int (nI (z - (u + 1)))), (9, .int (nI (u + 1))), (8, .int (nI sg)), (6, .int (voI (x.vo s7 k (q - k)))), (7, .int (nI (x.vo s7 k (q - k)).2.1)), (5, .int (nI k)), (1, .int (nI s7)), (2, .int (nI p7)), (0, .ref h), (4, .int (bI g))] := hl
                          have J233 : ∀ (b : Bool) (b1 : decide ((z - (u + 1)) ≤ (x.vo s7 k (q - k)).2.1) = b), ∀ (H : Heap) (locs : List Loc) (ls : Array Slot) (hP : va_P D vwCl (MW dA h ad (MS.s_valueLength x ((x.vo s7 k (q - k)).2.1))) H) (hD : va_D A (MW dA h ad (MS.s_valueLength x ((x.vo s7 k (q - k)).2.1)))) (hS : va_S A s.heap H locs) (hl : lv_has ls 13 [(9, .int (nI (u + 1))), (10, .int (nI (z - (u + 1)))), (3, .int (nI (z + 1))), (8, .int (nI sg)), (6, .int (voI (x.vo s7 k (q - k)))), (7, .int (nI (x.vo s7 k (q - k)).2.1)), (5, .int (nI k)), (1, .int (nI s7)), (2, .int (nI p7)), (0, .ref h), (4, .int (bI g))]), W p l e ({ frames := 2, cells := 0, slots := 0, locals := 29 } : Room) s m ([.ref h, .int (nI s7), .int (nI p7)] : List Value).toArray below meth c H locs 0 0 (MQ below (va_Qi (fun (r9 : Int32) (u9 : Unit) => r9 = bI (x.mt s7 p7).1) (fun (u9 : Unit) t9 => bW D A (MW dA h ad (MS.s_valueLength x ((x.mt s7 p7).2))) t9) A) ([.ref h, .int (nI s7), .int (nI p7)] : List Value).toArray s 0 0 A) (F0 m 233 ls [.int (bI b)]) := by
                            intro b b1 H locs ls hP hD hS hl
                            refine lv_istore hx hb d_M_matches_233 hl (by decide) rfl (fun ls hl => ?_)
                            have hl : lv_has ls 13 [(11, .int (bI b)), (9, .int (nI (u + 1))), (10, .int (nI (z - (u + 1)))), (3, .int (nI (z + 1))), (8, .int (nI sg)), (6, .int (voI (x.vo s7 k (q - k)))), (7, .int (nI (x.vo s7 k (q - k)).2.1)), (5, .int (nI k)), (1, .int (nI s7)), (2, .int (nI p7)), (0, .ref h), (4, .int (bI g))] := hl
                            have J286 : ∀ (b : Bool) (b4 : x.mtB (x.vo s7 k (q - k)) (u + 1) (z - (u + 1)) = b), ∀ (H : Heap) (locs : List Loc) (ls : Array Slot) (hP : va_P D vwCl (MW dA h ad (MS.s_valueLength x ((x.vo s7 k (q - k)).2.1))) H) (hD : va_D A (MW dA h ad (MS.s_valueLength x ((x.vo s7 k (q - k)).2.1)))) (hS : va_S A s.heap H locs) (hl : lv_has ls 13 [(11, .int (bI b)), (9, .int (nI (u + 1))), (10, .int (nI (z - (u + 1)))), (3, .int (nI (z + 1))), (8, .int (nI sg)), (6, .int (voI (x.vo s7 k (q - k)))), (7, .int (nI (x.vo s7 k (q - k)).2.1)), (5, .int (nI k)), (1, .int (nI s7)), (2, .int (nI p7)), (0, .ref h), (4, .int (bI g))]), W p l e ({ frames := 2, cells := 0, slots := 0, locals := 29 } : Room) s m ([.ref h, .int (nI s7), .int (nI p7)] : List Value).toArray below meth c H locs 0 0 (MQ below (va_Qi (fun (r9 : Int32) (u9 : Unit) => r9 = bI (x.mt s7 p7).1) (fun (u9 : Unit) t9 => bW D A (MW dA h ad (MS.s_valueLength x ((x.mt s7 p7).2))) t9) A) ([.ref h, .int (nI s7), .int (nI p7)] : List Value).toArray s 0 0 A) (F0 m 286 ls []) := by
                              intro b b4 H locs ls hP hD hS hl
                              have J303 : ∀ (y : Bool) (y4 : (b && decide ((x.vo s7 k (q - k)).2.1 = (z - (u + 1)))) = y), ∀ (H : Heap) (locs : List Loc) (ls : Array Slot) (hP : va_P D vwCl (MW dA h ad (MS.s_valueLength x ((x.vo s7 k (q - k)).2.1))) H) (hD : va_D A (MW dA h ad (MS.s_valueLength x ((x.vo s7 k (q - k)).2.1)))) (hS : va_S A s.heap H locs) (hl : lv_has ls 13 [(11, .int (bI b)), (9, .int (nI (u + 1))), (10, .int (nI (z - (u + 1)))), (3, .int (nI (z + 1))), (8, .int (nI sg)), (6, .int (voI (x.vo s7 k (q - k)))), (7, .int (nI (x.vo s7 k (q - k)).2.1)), (5, .int (nI k)), (1, .int (nI s7)), (2, .int (nI p7)), (0, .ref h), (4, .int (bI g))]), W p l e ({ frames := 2, cells := 0, slots := 0, locals := 29 } : Room) s m ([.ref h, .int (nI s7), .int (nI p7)] : List Value).toArray below meth c H locs 0 0 (MQ below (va_Qi (fun (r9 : Int32) (u9 : Unit) => r9 = bI (x.mt s7 p7).1) (fun (u9 : Unit) t9 => bW D A (MW dA h ad (MS.s_valueLength x ((x.mt s7 p7).2))) t9) A) ([.ref h, .int (nI s7), .int (nI p7)] : List Value).toArray s 0 0 A) (F0 m 303 ls [.int (bI y)]) := by
                                intro y y4 H locs ls hP hD hS hl
                                refine lv_istore hx hb d_M_matches_303 hl (by decide) rfl (fun ls hl => ?_)
                                have hl : lv_has ls 13 [(12, .int (bI y)), (11, .int (bI b)), (9, .int (nI (u + 1))), (10, .int (nI (z - (u + 1)))), (3, .int (nI (z + 1))), (8, .int (nI sg)), (6, .int (voI (x.vo s7 k (q - k)))), (7, .int (nI (x.vo s7 k (q - k)).2.1)), (5, .int (nI k)), (1, .int (nI s7)), (2, .int (nI p7)), (0, .ref h), (4, .int (bI g))] := hl
                                have J355 : ∀ (gz : Bool) (gz4 : mtH sg b y = gz), ∀ (H : Heap) (locs : List Loc) (ls : Array Slot) (hP : va_P D vwCl (MW dA h ad (MS.s_valueLength x ((x.vo s7 k (q - k)).2.1))) H) (hD : va_D A (MW dA h ad (MS.s_valueLength x ((x.vo s7 k (q - k)).2.1)))) (hS : va_S A s.heap H locs) (hl : lv_has ls 13 [(3, .int (nI (z + 1))), (1, .int (nI s7)), (2, .int (nI p7)), (0, .ref h), (4, .int (bI g))]), W p l e ({ frames := 2, cells := 0, slots := 0, locals := 29 } : Room) s m ([.ref h, .int (nI s7), .int (nI p7)] : List Value).toArray below meth c H locs 0 0 (MQ below (va_Qi (fun (r9 : Int32) (u9 : Unit) => r9 = bI (x.mt s7 p7).1) (fun (u9 : Unit) t9 => bW D A (MW dA h ad (MS.s_valueLength x ((x.mt s7 p7).2))) t9) A) ([.ref h, .int (nI s7), .int (nI p7)] : List Value).toArray s 0 0 A) (F0 m 355 ls [.int (bI gz)]) := by
                                  intro gz gz4 H locs ls hP hD hS hl
                                  have k1 : x.mt1 s7 k = gz := by unfold MS.mt1 MS.mtQ MS.mtN; rw [ev, f1, sq1, h4, z4, b4, y4]; exact gz4
                                  refine lv_istore hx hb d_M_matches_355 hl (by decide) rfl (fun ls hl => ?_)
                                  have hl : lv_has ls 13 [(4, .int (bI gz)), (3, .int (nI (z + 1))), (1, .int (nI s7)), (2, .int (nI p7)), (0, .ref h)] := hl
                                  refine lv_goto hx hb d_M_matches_357 (tgt := 5) rfl ?_
                                  exact ih5 _ (by omega) (z + 1) gz (w - 1) ((x.vo s7 k (q - k)).2.1) (by rw [← i1, mtG_m (tp := x.atN) (nx := m5E x.tape x.length) (hd := x.mt1 s7) (vl := x.mtL s7) w1 g1 g4 sp, z4, k1, show x.mtL s7 k = (x.vo s7 k (q - k)).2.1 from congrArg (fun z => z.2.1) ev]) (by rw [← z4]; exact w3) (by omega) (Nat.le_refl _) rfl H _ ls hP hD hS (lv_sub hl [1, 2, 3, 4, 0] rfl)
                                refine lv_iload hx hb d_M_matches_305 (lv_at hl 5 rfl) ?_
                                refine lv_if_ne hx hb d_M_matches_307 (tgt := 315) rfl (fun g13 => ?_) (fun g13 => ?_)
                                · have g13 := mt (nI_eq (a := sg) (b := 0) (by omega) (by decide)).mpr g13
                                  refine lv_iload hx hb d_M_matches_315 (lv_at hl 5 rfl) ?_
                                  refine lv_iconst (v := 1) hx hb d_M_matches_317 (by decide) ?_
                                  refine lv_icmp_ne hx hb d_M_matches_318 (tgt := 334) rfl (fun g14 => ?_) (fun g14 => ?_)
                                  · have g14 := mt (nI_eq (a := sg) (b := 1) (by omega) (by omega)).mpr g14
                                    refine lv_iload hx hb d_M_matches_334 (lv_at hl 5 rfl) ?_
                                    refine lv_iconst (v := 2) hx hb d_M_matches_336 (by decide) ?_
                                    refine lv_icmp_ne hx hb d_M_matches_337 (tgt := 345) rfl (fun g15 => ?_) (fun g15 => ?_)
                                    · have g15 := mt (nI_eq (a := sg) (b := 2) (by omega) (by omega)).mpr g15
                                      refine lv_iload hx hb d_M_matches_345 (lv_at hl 1 rfl) ?_
                                      refine lv_if_ne hx hb d_M_matches_347 (tgt := 354) rfl (fun g16 => ?_) (fun g16 => ?_)
                                      · have g16 := bI_n0 g16
                                        refine lv_iconst (v := 0) hx hb d_M_matches_354 (by decide) ?_
                                        exact J355 false (by unfold mtH; rw [if_neg g13, if_neg g14, if_neg g15]; rw [g16]; rfl) H _ ls hP hD hS (lv_sub hl [4, 9, 10, 11, 12] rfl)
                                      · have g16 := bI_0 g16
                                        refine lv_iconst (v := 1) hx hb d_M_matches_350 (by decide) ?_
                                        refine lv_goto hx hb d_M_matches_351 (tgt := 355) rfl ?_
                                        exact J355 true (by unfold mtH; rw [if_neg g13, if_neg g14, if_neg g15]; rw [g16]; rfl) H _ ls hP hD hS (lv_sub hl [4, 9, 10, 11, 12] rfl)
                                    · have g15 := (nI_eq (a := sg) (b := 2) (by omega) (by omega)).mp g15
                                      refine lv_iload hx hb d_M_matches_340 (lv_at hl 1 rfl) ?_
                                      refine lv_goto hx hb d_M_matches_342 (tgt := 355) rfl ?_
                                      exact J355 b (by unfold mtH; rw [if_neg g13, if_neg g14, if_pos g15]) H _ ls hP hD hS (lv_sub hl [4, 9, 10, 11, 12] rfl)
                                  · have g14 := (nI_eq (a := sg) (b := 1) (by omega) (by omega)).mp g14
                                    refine lv_iload hx hb d_M_matches_321 (lv_at hl 0 rfl) ?_
                                    refine lv_if_ne hx hb d_M_matches_323 (tgt := 330) rfl (fun g17 => ?_) (fun g17 => ?_)
                                    · have g17 := bI_n0 g17
                                      refine lv_iconst (v := 0) hx hb d_M_matches_330 (by decide) ?_
                                      refine lv_goto hx hb d_M_matches_331 (tgt := 355) rfl ?_
                                      exact J355 false (by unfold mtH; rw [if_neg g13, if_pos g14]; rw [g17]; rfl) H _ ls hP hD hS (lv_sub hl [4, 9, 10, 11, 12] rfl)
                                    · have g17 := bI_0 g17
                                      refine lv_iconst (v := 1) hx hb d_M_matches_326 (by decide) ?_
                                      refine lv_goto hx hb d_M_matches_327 (tgt := 355) rfl ?_
                                      exact J355 true (by unfold mtH; rw [if_neg g13, if_pos g14]; rw [g17]; rfl) H _ ls hP hD hS (lv_sub hl [4, 9, 10, 11, 12] rfl)
                                · have g13 := (nI_eq (a := sg) (b := 0) (by omega) (by decide)).mp g13
                                  refine lv_iload hx hb d_M_matches_310 (lv_at hl 0 rfl) ?_
                                  refine lv_goto hx hb d_M_matches_312 (tgt := 355) rfl ?_
                                  exact J355 y (by unfold mtH; rw [if_pos g13]) H _ ls hP hD hS (lv_sub hl [4, 9, 10, 11, 12] rfl)
                              refine lv_iload hx hb d_M_matches_286 (lv_at hl 0 rfl) ?_
                              refine lv_if_eq hx hb d_M_matches_288 (tgt := 302) rfl (fun g18 => ?_) (fun g18 => ?_)
                              · have g18 := bI_0 g18
                                refine lv_iconst (v := 0) hx hb d_M_matches_302 (by decide) ?_
                                exact J303 false (by rw [g18]; rfl) H _ ls hP hD hS (lv_sub hl [0, 1, 2, 3, 4, 5, 6, 7, 8, 9, 10, 11] rfl)
                              · have g18 := bI_n0 g18
                                refine lv_iload hx hb d_M_matches_291 (lv_at hl 6 rfl) ?_
                                refine lv_iload hx hb d_M_matches_293 (lv_at hl 2 rfl) ?_
                                refine lv_icmp_ne hx hb d_M_matches_295 (tgt := 302) rfl (fun g19 => ?_) (fun g19 => ?_)
                                · have g19 := mt (nI_eq (a := (x.vo s7 k (q - k)).2.1) (b := z - (u + 1)) (by omega) (by omega)).mpr g19
                                  refine lv_iconst (v := 0) hx hb d_M_matches_302 (by decide) ?_
                                  exact J303 false (by rw [g18, decide_eq_false g19]; rfl) H _ ls hP hD hS (lv_sub hl [0, 1, 2, 3, 4, 5, 6, 7, 8, 9, 10, 11] rfl)
                                · have g19 := (nI_eq (a := (x.vo s7 k (q - k)).2.1) (b := z - (u + 1)) (by omega) (by omega)).mp g19
                                  refine lv_iconst (v := 1) hx hb d_M_matches_298 (by decide) ?_
                                  refine lv_goto hx hb d_M_matches_299 (tgt := 303) rfl ?_
                                  exact J303 true (by rw [g18, decide_eq_true g19]; rfl) H _ ls hP hD hS (lv_sub hl [0, 1, 2, 3, 4, 5, 6, 7, 8, 9, 10, 11] rfl)
                            refine lv_iconst (v := 0) hx hb d_M_matches_235 (by decide) ?_
                            refine lv_istore hx hb d_M_matches_236 hl (by decide) rfl (fun ls hl => ?_)
                            have hl : lv_has ls 13 [(12, .int 0), (11, .int (bI b)), (9, .int (nI (u + 1))), (10, .int (nI (z - (u + 1)))), (3, .int (nI (z + 1))), (8, .int (nI sg)), (6, .int (voI (x.vo s7 k (q - k)))), (7, .int (nI (x.vo s7 k (q - k)).2.1)), (5, .int (nI k)), (1, .int (nI s7)), (2, .int (nI p7)), (0, .ref h), (4, .int (bI g))] := hl
                            have L238 : ∀ (k9 : Nat) (j : Nat) (b : Bool) (m1 : j ≤ (z - (u + 1))) (m2 : (decide ((z - (u + 1)) ≤ (x.vo s7 k (q - k)).2.1) && allB j (txEq x.texts x.tape (x.vo s7 k (q - k)).1 (u + 1))) = b) (hk9 : (z - (u + 1)) - j = k9), ∀ (H : Heap) (locs : List Loc) (ls : Array Slot) (hP : va_P D vwCl (MW dA h ad (MS.s_valueLength x ((x.vo s7 k (q - k)).2.1))) H) (hD : va_D A (MW dA h ad (MS.s_valueLength x ((x.vo s7 k (q - k)).2.1)))) (hS : va_S A s.heap H locs) (hl : lv_has ls 13 [(12, .int (nI j)), (11, .int (bI b)), (9, .int (nI (u + 1))), (10, .int (nI (z - (u + 1)))), (3, .int (nI (z + 1))), (8, .int (nI sg)), (6, .int (voI (x.vo s7 k (q - k)))), (7, .int (nI (x.vo s7 k (q - k)).2.1)), (5, .int (nI k)), (1, .int (nI s7)), (2, .int (nI p7)), (0, .ref h), (4, .int (bI g))]), W p l e ({ frames := 2, cells := 0, slots := 0, locals := 29 } : Room) s m ([.ref h, .int (nI s7), .int (nI p7)] : List Value).toArray below meth c H locs 0 0 (MQ below (va_Qi (fun (r9 : Int32) (u9 : Unit) => r9 = bI (x.mt s7 p7).1) (fun (u9 : Unit) t9 => bW D A (MW dA h ad (MS.s_valueLength x ((x.mt s7 p7).2))) t9) A) ([.ref h, .int (nI s7), .int (nI p7)] : List Value).toArray s 0 0 A) (F0 m 238 ls []) := by
                              intro k9
                              induction k9 using Nat.strongRecOn with
                              | ind k9 ih238 =>
                                intro j b m1 m2 hk9 H locs ls hP hD hS hl
                                refine lv_iload hx hb d_M_matches_238 (lv_at hl 0 rfl) ?_
                                refine lv_iload hx hb d_M_matches_240 (lv_at hl 3 rfl) ?_
                                refine lv_icmp_ge hx hb d_M_matches_242 (tgt := 286) rfl (fun g20 => ?_) (fun g20 => ?_)
                                · have g20 := (nI_leI (a := z - (u + 1)) (b := j) (by omega) (by omega)).mp g20
                                  exact J286 b (and_end m1 m2 (Or.inl (by omega))) H _ ls hP hD hS (lv_sub hl [1, 2, 3, 4, 5, 6, 7, 8, 9, 10, 11, 12] rfl)
                                · have g20 := mt (nI_leI (a := z - (u + 1)) (b := j) (by omega) (by omega)).mpr g20
                                  refine lv_iload hx hb d_M_matches_245 (lv_at hl 1 rfl) ?_
                                  refine lv_if_eq hx hb d_M_matches_247 (tgt := 286) rfl (fun g21 => ?_) (fun g21 => ?_)
                                  · have g21 := bI_0 g21
                                    exact J286 b (and_end m1 m2 (Or.inr g21)) H _ ls hP hD hS (lv_sub hl [1, 2, 3, 4, 5, 6, 7, 8, 9, 10, 11, 12] rfl)
                                  · have g21 := bI_n0 g21
                                    have l5 : (z - (u + 1)) ≤ (x.vo s7 k (q - k)).2.1 := of_decide_eq_true (and_l m2 g21)
                                    refine lv_aload_n hx hb d_M_matches_250 rfl (lv_at hl 11 rfl) ?_
                                    refine gF (v := .ref (ad 10)) hx hb hown hE hK hP 0 rfl rfl layM 10 (by decide) w499 rfl d_M_matches_251 ?_
                                    refine lv_iload hx hb d_M_matches_254 (lv_at hl 6 rfl) ?_
                                    refine lv_iload hx hb d_M_matches_256 (lv_at hl 0 rfl) ?_
                                    refine lv_iadd hx hb d_M_matches_258 ?_
                                    refine tpi (y := nI ((x.vo s7 k (q - k)).1 + j)) (vo_add hts (by omega)) ?_
                                    refine nbld (f := x.texts) hx hb hK hP 2 0 rfl rfl ((x.vo s7 k (q - k)).1 + j) (by omega) (by decide) d_M_matches_259 ?_
                                    refine lv_aload_n hx hb d_M_matches_260 rfl (lv_at hl 11 rfl) ?_
                                    refine gF (v := .ref (ad 1)) hx hb hown hE hK hP 0 rfl rfl layM 1 (by decide) w497 rfl d_M_matches_261 ?_
                                    refine lv_iload hx hb d_M_matches_264 (lv_at hl 2 rfl) ?_
                                    refine lv_iload hx hb d_M_matches_266 (lv_at hl 0 rfl) ?_
                                    refine lv_iadd hx hb d_M_matches_268 (tpi (y := nI (u + 1 + j)) (nI_add (u + 1) (j)) ?_)
                                    refine nbld (f := x.tape) hx hb hK hP 1 0 rfl rfl (u + 1 + j) (by omega) (by decide) d_M_matches_269 ?_
                                    refine lv_icmp_ne hx hb d_M_matches_270 (tgt := 277) rfl (fun g22 => ?_) (fun g22 => ?_)
                                    · have g22 := g22
                                      refine lv_iconst (v := 0) hx hb d_M_matches_277 (by decide) ?_
                                      refine lv_istore hx hb d_M_matches_278 hl (by decide) rfl (fun ls hl => ?_)
                                      have hl : lv_has ls 13 [(11, .int 0), (12, .int (nI j)), (9, .int (nI (u + 1))), (10, .int (nI (z - (u + 1)))), (3, .int (nI (z + 1))), (8, .int (nI sg)), (6, .int (voI (x.vo s7 k (q - k)))), (7, .int (nI (x.vo s7 k (q - k)).2.1)), (5, .int (nI k)), (1, .int (nI s7)), (2, .int (nI p7)), (0, .ref h), (4, .int (bI g))] := hl
                                      refine lv_iinc (k := 1) (v := nI (j + 1)) hx hb d_M_matches_280 hl rfl (iincN (j) 1 1 (by decide)) (by decide) rfl (fun ls hl => ?_)
                                      have hl : lv_has ls 13 [(12, .int (nI (j + 1))), (11, .int 0), (9, .int (nI (u + 1))), (10, .int (nI (z - (u + 1)))), (3, .int (nI (z + 1))), (8, .int (nI sg)), (6, .int (voI (x.vo s7 k (q - k)))), (7, .int (nI (x.vo s7 k (q - k)).2.1)), (5, .int (nI k)), (1, .int (nI s7)), (2, .int (nI p7)), (0, .ref h), (4, .int (bI g))] := hl
                                      refine lv_goto hx hb d_M_matches_283 (tgt := 238) rfl ?_
                                      exact ih238 _ (by omega) (j + 1) false (by omega) (by rw [allB_s, ← Bool.and_assoc, m2, g21]; exact decide_eq_false g22) rfl H _ ls hP hD hS (lv_sub hl [0, 1, 2, 3, 4, 5, 6, 7, 8, 9, 10, 11, 12] rfl)
                                    · have g22 := g22
                                      refine lv_iconst (v := 1) hx hb d_M_matches_273 (by decide) ?_
                                      refine lv_goto hx hb d_M_matches_274 (tgt := 278) rfl ?_
                                      refine lv_istore hx hb d_M_matches_278 hl (by decide) rfl (fun ls hl => ?_)
                                      have hl : lv_has ls 13 [(11, .int 1), (12, .int (nI j)), (9, .int (nI (u + 1))), (10, .int (nI (z - (u + 1)))), (3, .int (nI (z + 1))), (8, .int (nI sg)), (6, .int (voI (x.vo s7 k (q - k)))), (7, .int (nI (x.vo s7 k (q - k)).2.1)), (5, .int (nI k)), (1, .int (nI s7)), (2, .int (nI p7)), (0, .ref h), (4, .int (bI g))] := hl
                                      refine lv_iinc (k := 1) (v := nI (j + 1)) hx hb d_M_matches_280 hl rfl (iincN (j) 1 1 (by decide)) (by decide) rfl (fun ls hl => ?_)
                                      have hl : lv_has ls 13 [(12, .int (nI (j + 1))), (11, .int 1), (9, .int (nI (u + 1))), (10, .int (nI (z - (u + 1)))), (3, .int (nI (z + 1))), (8, .int (nI sg)), (6, .int (voI (x.vo s7 k (q - k)))), (7, .int (nI (x.vo s7 k (q - k)).2.1)), (5, .int (nI k)), (1, .int (nI s7)), (2, .int (nI p7)), (0, .ref h), (4, .int (bI g))] := hl
                                      refine lv_goto hx hb d_M_matches_283 (tgt := 238) rfl ?_
                                      exact ih238 _ (by omega) (j + 1) true (by omega) (by rw [allB_s, ← Bool.and_assoc, m2, g21]; exact decide_eq_true g22) rfl H _ ls hP hD hS (lv_sub hl [0, 1, 2, 3, 4, 5, 6, 7, 8, 9, 10, 11, 12] rfl)
                            exact L238 _ 0 b (Nat.zero_le _) (by rw [b1]; exact Bool.and_true _) rfl H _ ls hP hD hS (lv_sub hl [0, 1, 2, 3, 4, 5, 6, 7, 8, 9, 10, 11, 12] rfl)
                          refine lv_iload hx hb d_M_matches_221 (lv_at hl 5 rfl) ?_
                          refine lv_iload hx hb d_M_matches_223 (lv_at hl 1 rfl) ?_
                          refine lv_icmp_lt hx hb d_M_matches_225 (tgt := 232) rfl (fun g23 => ?_) (fun g23 => ?_)
                          · have g23 := (nI_ltI (a := (x.vo s7 k (q - k)).2.1) (b := z - (u + 1)) (by omega) (by omega)).mp g23
                            refine lv_iconst (v := 0) hx hb d_M_matches_232 (by decide) ?_
                            exact J233 false (decide_eq_false (by omega)) H _ ls hP hD hS (lv_sub hl [2, 1, 0, 3, 4, 5, 6, 7, 8, 9, 10] rfl)
                          · have g23 := mt (nI_ltI (a := (x.vo s7 k (q - k)).2.1) (b := z - (u + 1)) (by omega) (by omega)).mpr g23
                            refine lv_iconst (v := 1) hx hb d_M_matches_228 (by decide) ?_
                            refine lv_goto hx hb d_M_matches_229 (tgt := 233) rfl ?_
                            exact J233 true (decide_eq_true (by omega)) H _ ls hP hD hS (lv_sub hl [2, 1, 0, 3, 4, 5, 6, 7, 8, 9, 10] rfl)
                        refine lv_iinc (k := 1) (v := nI (u + 1)) hx hb d_M_matches_193 hl rfl (iincN (u) 1 1 (by decide)) (by decide) rfl (fun ls hl => ?_)
                        have hl : lv_has ls 13 [(3, .int (nI (u + 1))), (9, .int (nI (u + 1))), (8, .int (nI sg)), (6, .int (voI (x.vo s7 k (q - k)))), (7, .int (nI (x.vo s7 k (q - k)).2.1)), (5, .int (nI k)), (1, .int (nI s7)), (2, .int (nI p7)), (0, .ref h), (4, .int (bI g))] := hl
                        have L196 : ∀ (k9 : Nat) (z : Nat) (z1 : fqA x.tape x.length (x.length - z) z = m5E x.tape x.length k) (z2 : u + 1 ≤ z) (hk9 : x.length - z = k9), ∀ (H : Heap) (locs : List Loc) (ls : Array Slot) (hP : va_P D vwCl (MW dA h ad (MS.s_valueLength x ((x.vo s7 k (q - k)).2.1))) H) (hD : va_D A (MW dA h ad (MS.s_valueLength x ((x.vo s7 k (q - k)).2.1)))) (hS : va_S A s.heap H locs) (hl : lv_has ls 13 [(9, .int (nI (u + 1))), (3, .int (nI z)), (8, .int (nI sg)), (6, .int (voI (x.vo s7 k (q - k)))), (7, .int (nI (x.vo s7 k (q - k)).2.1)), (5, .int (nI k)), (1, .int (nI s7)), (2, .int (nI p7)), (0, .ref h), (4, .int (bI g))]), W p l e ({ frames := 2, cells := 0, slots := 0, locals := 29 } : Room) s m ([.ref h, .int (nI s7), .int (nI p7)] : List Value).toArray below meth c H locs 0 0 (MQ below (va_Qi (fun (r9 : Int32) (u9 : Unit) => r9 = bI (x.mt s7 p7).1) (fun (u9 : Unit) t9 => bW D A (MW dA h ad (MS.s_valueLength x ((x.mt s7 p7).2))) t9) A) ([.ref h, .int (nI s7), .int (nI p7)] : List Value).toArray s 0 0 A) (F0 m 196 ls []) := by
                          intro k9
                          induction k9 using Nat.strongRecOn with
                          | ind k9 ih196 =>
                            intro z z1 z2 hk9 H locs ls hP hD hS hl
                            have z3 : z ≤ m5E x.tape x.length k := by rw [← z1]; exact fqA_ge
                            refine lv_aload_n hx hb d_M_matches_196 rfl (lv_at hl 8 rfl) ?_
                            refine lv_iload_n hx hb d_M_matches_197 rfl (lv_at hl 1 rfl) ?_
                            refine jfI (rnV (As := [.int (nI z)]) (rest := []) hx hb hml hown hE hK (hN _ _ hS) hP hD (k_at l D dA H.size h ad (MS.s_valueLength x ((x.vo s7 k (q - k)).2.1)) z (show z < 2 ^ 31 from by omega) (show x.length ≤ 65536 from by omega)) (q0 := 0) rfl rfl w466 w465 w467 w468 w328 rfl rfl ⟨⟨by decide, by decide⟩, rfl⟩ ⟨(Nat.le_of_ble_eq_true rfl), (Nat.le_of_ble_eq_true rfl)⟩ rfl hl.1 rfl (Nat.le_of_ble_eq_true rfl) d_M_matches_198 ⟨(Nat.le_of_ble_eq_true rfl), (Nat.le_of_ble_eq_true rfl)⟩) hP hD hS hA (fun r24 u25 H locs hp9 hP hD hS => ?_)
                            have hP : va_P D vwCl (MW dA h ad (MS.s_valueLength x ((x.vo s7 k (q - k)).2.1))) H := hP
                            have hD : va_D A (MW dA h ad (MS.s_valueLength x ((x.vo s7 k (q - k)).2.1))) := hD
                            replace hp9 : x.atN z = r24 := Eq.symm hp9
                            subst hp9
                            refine lv_bipush (v := 34) hx hb d_M_matches_201 (by decide) ?_
                            refine lv_icmp_eq hx hb d_M_matches_203 (tgt := 212) rfl (fun g26 => ?_) (fun g26 => ?_)
                            · have g26 := g26
                              exact J212 z (z1.symm.trans (fqA_y g26)) (by omega) H _ ls hP hD hS (lv_sub hl [0, 1, 2, 3, 4, 5, 6, 7, 8, 9] rfl)
                            · have g26 := g26
                              refine lv_iinc (k := 1) (v := nI (z + 1)) hx hb d_M_matches_206 hl rfl (iincN (z) 1 1 (by decide)) (by decide) rfl (fun ls hl => ?_)
                              have hl : lv_has ls 13 [(3, .int (nI (z + 1))), (9, .int (nI (u + 1))), (8, .int (nI sg)), (6, .int (voI (x.vo s7 k (q - k)))), (7, .int (nI (x.vo s7 k (q - k)).2.1)), (5, .int (nI k)), (1, .int (nI s7)), (2, .int (nI p7)), (0, .ref h), (4, .int (bI g))] := hl
                              refine lv_goto hx hb d_M_matches_209 (tgt := 196) rfl ?_
                              exact ih196 _ (by omega) (z + 1) (by rw [← z1, fqA_n (w := x.length - z) (by omega) g26, show x.length - z - 1 = x.length - (z + 1) by omega]) (by omega) rfl H _ ls hP hD hS (lv_sub hl [1, 0, 2, 3, 4, 5, 6, 7, 8, 9] rfl)
                        exact L196 _ (u + 1) (by unfold m5E; rw [h4]) (by omega) rfl H _ ls hP hD hS (lv_sub hl [1, 0, 2, 3, 4, 5, 6, 7, 8, 9] rfl)
                      refine lv_istore_n hx hb d_M_matches_171 rfl hl (by decide) rfl (fun ls hl => ?_)
                      have hl : lv_has ls 13 [(3, .int (nI (r + d))), (8, .int (nI sg)), (6, .int (voI (x.vo s7 k (q - k)))), (7, .int (nI (x.vo s7 k (q - k)).2.1)), (5, .int (nI k)), (1, .int (nI s7)), (2, .int (nI p7)), (0, .ref h), (4, .int (bI g))] := hl
                      have L172 : ∀ (k9 : Nat) (u : Nat) (u1 : skA x.tape x.length (x.length + 1 - u) u = m4E x.tape x.length k) (u2 : u ≤ 65540) (hk9 : 65541 - u = k9), ∀ (H : Heap) (locs : List Loc) (ls : Array Slot) (hP : va_P D vwCl (MW dA h ad (MS.s_valueLength x ((x.vo s7 k (q - k)).2.1))) H) (hD : va_D A (MW dA h ad (MS.s_valueLength x ((x.vo s7 k (q - k)).2.1)))) (hS : va_S A s.heap H locs) (hl : lv_has ls 13 [(3, .int (nI u)), (8, .int (nI sg)), (6, .int (voI (x.vo s7 k (q - k)))), (7, .int (nI (x.vo s7 k (q - k)).2.1)), (5, .int (nI k)), (1, .int (nI s7)), (2, .int (nI p7)), (0, .ref h), (4, .int (bI g))]), W p l e ({ frames := 2, cells := 0, slots := 0, locals := 29 } : Room) s m ([.ref h, .int (nI s7), .int (nI p7)] : List Value).toArray below meth c H locs 0 0 (MQ below (va_Qi (fun (r9 : Int32) (u9 : Unit) => r9 = bI (x.mt s7 p7).1) (fun (u9 : Unit) t9 => bW D A (MW dA h ad (MS.s_valueLength x ((x.mt s7 p7).2))) t9) A) ([.ref h, .int (nI s7), .int (nI p7)] : List Value).toArray s 0 0 A) (F0 m 172 ls []) := by
                        intro k9
                        induction k9 using Nat.strongRecOn with
                        | ind k9 ih172 =>
                          intro u u1 u2 hk9 H locs ls hP hD hS hl
                          refine lv_aload_n hx hb d_M_matches_172 rfl (lv_at hl 7 rfl) ?_
                          refine lv_iload_n hx hb d_M_matches_173 rfl (lv_at hl 0 rfl) ?_
                          refine jfI (rnV (As := [.int (nI u)]) (rest := []) hx hb hml hown hE hK (hN _ _ hS) hP hD (k_at l D dA H.size h ad (MS.s_valueLength x ((x.vo s7 k (q - k)).2.1)) u (show u < 2 ^ 31 from by omega) (show x.length ≤ 65536 from by omega)) (q0 := 0) rfl rfl w466 w465 w467 w468 w328 rfl rfl ⟨⟨by decide, by decide⟩, rfl⟩ ⟨(Nat.le_of_ble_eq_true rfl), (Nat.le_of_ble_eq_true rfl)⟩ rfl hl.1 rfl (Nat.le_of_ble_eq_true rfl) d_M_matches_174 ⟨(Nat.le_of_ble_eq_true rfl), (Nat.le_of_ble_eq_true rfl)⟩) hP hD hS hA (fun r27 u28 H locs hp9 hP hD hS => ?_)
                          have hP : va_P D vwCl (MW dA h ad (MS.s_valueLength x ((x.vo s7 k (q - k)).2.1))) H := hP
                          have hD : va_D A (MW dA h ad (MS.s_valueLength x ((x.vo s7 k (q - k)).2.1))) := hD
                          replace hp9 : x.atN u = r27 := Eq.symm hp9
                          subst hp9
                          refine lv_bipush (v := 32) hx hb d_M_matches_177 (by decide) ?_
                          refine lv_icmp_ne hx hb d_M_matches_179 (tgt := 188) rfl (fun g29 => ?_) (fun g29 => ?_)
                          · have g29 := g29
                            exact J188 u (u1.symm.trans (skA_f g29)) H _ ls hP hD hS (lv_sub hl [0, 1, 2, 3, 4, 5, 6, 7, 8] rfl)
                          · have g29 := g29
                            refine lv_iinc (k := 0) (v := nI (u + 1)) hx hb d_M_matches_182 hl rfl (iincN (u) 1 1 (by decide)) (by decide) rfl (fun ls hl => ?_)
                            have hl : lv_has ls 13 [(3, .int (nI (u + 1))), (8, .int (nI sg)), (6, .int (voI (x.vo s7 k (q - k)))), (7, .int (nI (x.vo s7 k (q - k)).2.1)), (5, .int (nI k)), (1, .int (nI s7)), (2, .int (nI p7)), (0, .ref h), (4, .int (bI g))] := hl
                            refine lv_goto hx hb d_M_matches_185 (tgt := 172) rfl ?_
                            exact ih172 _ (by omega) (u + 1) (by rw [← u1, skA_t (w := x.length + 1 - u) (by have := atI_in g29 (by decide); omega) g29, show x.length + 1 - u - 1 = x.length + 1 - (u + 1) by omega]) (by have := atI_in g29 (by decide); omega) rfl H _ ls hP hD hS (lv_sub hl [0, 1, 2, 3, 4, 5, 6, 7, 8] rfl)
                      exact L172 _ (r + d) (by unfold m4E m3E; rw [f1, sq1, d1]) (by omega) rfl H _ ls hP hD hS (lv_sub hl [0, 1, 2, 3, 4, 5, 6, 7, 8] rfl)
                    refine lv_iload_n hx hb d_M_matches_159 rfl (lv_at hl 1 rfl) ?_
                    refine lv_iload hx hb d_M_matches_160 (lv_at hl 0 rfl) ?_
                    refine lv_if_ne hx hb d_M_matches_162 (tgt := 169) rfl (fun g30 => ?_) (fun g30 => ?_)
                    · have g30 := mt (nI_eq (a := sg) (b := 0) (by omega) (by decide)).mpr g30
                      refine lv_iconst (v := 2) hx hb d_M_matches_169 (by decide) ?_
                      exact J170 2 (if_neg g30) (by decide) H _ ls hP hD hS (lv_sub hl [0, 2, 3, 4, 5, 6, 7, 8] rfl)
                    · have g30 := (nI_eq (a := sg) (b := 0) (by omega) (by decide)).mp g30
                      refine lv_iconst (v := 1) hx hb d_M_matches_165 (by decide) ?_
                      refine lv_goto hx hb d_M_matches_166 (tgt := 170) rfl ?_
                      exact J170 1 (if_pos g30) (by decide) H _ ls hP hD hS (lv_sub hl [0, 2, 3, 4, 5, 6, 7, 8] rfl)
                  refine lv_aload_n hx hb d_M_matches_112 rfl (lv_at hl 6 rfl) ?_
                  refine lv_iload_n hx hb d_M_matches_113 rfl (lv_at hl 0 rfl) ?_
                  refine jfI (rnV (As := [.int (nI r)]) (rest := []) hx hb hml hown hE hK (hN _ _ hS) hP hD (k_at l D dA H.size h ad (MS.s_valueLength x ((x.vo s7 k (q - k)).2.1)) r (show r < 2 ^ 31 from by omega) (show x.length ≤ 65536 from by omega)) (q0 := 0) rfl rfl w466 w465 w467 w468 w328 rfl rfl ⟨⟨by decide, by decide⟩, rfl⟩ ⟨(Nat.le_of_ble_eq_true rfl), (Nat.le_of_ble_eq_true rfl)⟩ rfl hl.1 rfl (Nat.le_of_ble_eq_true rfl) d_M_matches_114 ⟨(Nat.le_of_ble_eq_true rfl), (Nat.le_of_ble_eq_true rfl)⟩) hP hD hS hA (fun r31 u32 H locs hp9 hP hD hS => ?_)
                  have hP : va_P D vwCl (MW dA h ad (MS.s_valueLength x ((x.vo s7 k (q - k)).2.1))) H := hP
                  have hD : va_D A (MW dA h ad (MS.s_valueLength x ((x.vo s7 k (q - k)).2.1))) := hD
                  replace hp9 : x.atN r = r31 := Eq.symm hp9
                  subst hp9
                  refine lv_bipush (v := 61) hx hb d_M_matches_117 (by decide) ?_
                  refine lv_icmp_ne hx hb d_M_matches_119 (tgt := 126) rfl (fun g33 => ?_) (fun g33 => ?_)
                  · have g33 := g33
                    refine lv_aload_n hx hb d_M_matches_126 rfl (lv_at hl 6 rfl) ?_
                    refine lv_iload_n hx hb d_M_matches_127 rfl (lv_at hl 0 rfl) ?_
                    refine lv_iconst (v := 1) hx hb d_M_matches_128 (by decide) ?_
                    refine lv_iadd hx hb d_M_matches_129 (tpi (y := nI (r + 1)) (nI_add (r) (1)) ?_)
                    refine jfI (rnV (As := [.int (nI (r + 1))]) (rest := []) hx hb hml hown hE hK (hN _ _ hS) hP hD (k_at l D dA H.size h ad (MS.s_valueLength x ((x.vo s7 k (q - k)).2.1)) (r + 1) (show (r + 1) < 2 ^ 31 from by omega) (show x.length ≤ 65536 from by omega)) (q0 := 0) rfl rfl w466 w465 w467 w468 w328 rfl rfl ⟨⟨by decide, by decide⟩, rfl⟩ ⟨(Nat.le_of_ble_eq_true rfl), (Nat.le_of_ble_eq_true rfl)⟩ rfl hl.1 rfl (Nat.le_of_ble_eq_true rfl) d_M_matches_130 ⟨(Nat.le_of_ble_eq_true rfl), (Nat.le_of_ble_eq_true rfl)⟩) hP hD hS hA (fun r34 u35 H locs hp9 hP hD hS => ?_)
                    have hP : va_P D vwCl (MW dA h ad (MS.s_valueLength x ((x.vo s7 k (q - k)).2.1))) H := hP
                    have hD : va_D A (MW dA h ad (MS.s_valueLength x ((x.vo s7 k (q - k)).2.1))) := hD
                    replace hp9 : x.atN (r + 1) = r34 := Eq.symm hp9
                    subst hp9
                    refine lv_bipush (v := 61) hx hb d_M_matches_133 (by decide) ?_
                    refine lv_icmp_ne hx hb d_M_matches_135 (tgt := 156) rfl (fun g36 => ?_) (fun g36 => ?_)
                    · have g36 := g36
                      refine lv_iconst (v := 3) hx hb d_M_matches_156 (by decide) ?_
                      exact J157 3 (by show (if x.atN r = 61 then 0 else if x.atN (r + 1) = 61 then (if x.atN r = 33 then 1 else 2) else 3) = _; rw [if_neg g33, if_neg g36]) (by decide) H _ ls hP hD hS (lv_sub hl [0, 1, 2, 3, 4, 5, 6, 7] rfl)
                    · have g36 := g36
                      refine lv_aload_n hx hb d_M_matches_138 rfl (lv_at hl 6 rfl) ?_
                      refine lv_iload_n hx hb d_M_matches_139 rfl (lv_at hl 0 rfl) ?_
                      refine jfI (rnV (As := [.int (nI r)]) (rest := []) hx hb hml hown hE hK (hN _ _ hS) hP hD (k_at l D dA H.size h ad (MS.s_valueLength x ((x.vo s7 k (q - k)).2.1)) r (show r < 2 ^ 31 from by omega) (show x.length ≤ 65536 from by omega)) (q0 := 0) rfl rfl w466 w465 w467 w468 w328 rfl rfl ⟨⟨by decide, by decide⟩, rfl⟩ ⟨(Nat.le_of_ble_eq_true rfl), (Nat.le_of_ble_eq_true rfl)⟩ rfl hl.1 rfl (Nat.le_of_ble_eq_true rfl) d_M_matches_140 ⟨(Nat.le_of_ble_eq_true rfl), (Nat.le_of_ble_eq_true rfl)⟩) hP hD hS hA (fun r37 u38 H locs hp9 hP hD hS => ?_)
                      have hP : va_P D vwCl (MW dA h ad (MS.s_valueLength x ((x.vo s7 k (q - k)).2.1))) H := hP
                      have hD : va_D A (MW dA h ad (MS.s_valueLength x ((x.vo s7 k (q - k)).2.1))) := hD
                      replace hp9 : x.atN r = r37 := Eq.symm hp9
                      subst hp9
                      refine lv_bipush (v := 33) hx hb d_M_matches_143 (by decide) ?_
                      refine lv_icmp_ne hx hb d_M_matches_145 (tgt := 152) rfl (fun g39 => ?_) (fun g39 => ?_)
                      · have g39 := g39
                        refine lv_iconst (v := 2) hx hb d_M_matches_152 (by decide) ?_
                        refine lv_goto hx hb d_M_matches_153 (tgt := 157) rfl ?_
                        exact J157 2 (by show (if x.atN r = 61 then 0 else if x.atN (r + 1) = 61 then (if x.atN r = 33 then 1 else 2) else 3) = _; rw [if_neg g33, if_pos g36, if_neg g39]) (by decide) H _ ls hP hD hS (lv_sub hl [0, 1, 2, 3, 4, 5, 6, 7] rfl)
                      · have g39 := g39
                        refine lv_iconst (v := 1) hx hb d_M_matches_148 (by decide) ?_
                        refine lv_goto hx hb d_M_matches_149 (tgt := 157) rfl ?_
                        exact J157 1 (by show (if x.atN r = 61 then 0 else if x.atN (r + 1) = 61 then (if x.atN r = 33 then 1 else 2) else 3) = _; rw [if_neg g33, if_pos g36, if_pos g39]) (by decide) H _ ls hP hD hS (lv_sub hl [0, 1, 2, 3, 4, 5, 6, 7] rfl)
                  · have g33 := g33
                    refine lv_iconst (v := 0) hx hb d_M_matches_122 (by decide) ?_
                    refine lv_goto hx hb d_M_matches_123 (tgt := 157) rfl ?_
                    exact J157 0 (by show (if x.atN r = 61 then 0 else if x.atN (r + 1) = 61 then (if x.atN r = 33 then 1 else 2) else 3) = _; rw [if_pos g33]) (by decide) H _ ls hP hD hS (lv_sub hl [0, 1, 2, 3, 4, 5, 6, 7] rfl)
                refine lv_istore hx hb d_M_matches_94 hl (by decide) rfl (fun ls hl => ?_)
                have hl : lv_has ls 13 [(7, .int (nI ((x.vo s7 k (q - k)).2.1))), (6, .int (voI (x.vo s7 k (q - k)))), (3, .int (nI q)), (5, .int (nI k)), (1, .int (nI s7)), (2, .int (nI p7)), (0, .ref h), (4, .int (bI g))] := hl
                have L96 : ∀ (k9 : Nat) (r : Nat) (r1 : skA x.tape x.length (x.length + 1 - r) r = m2E x.tape x.length k) (r2 : r ≤ x.length) (hk9 : x.length + 1 - r = k9), ∀ (H : Heap) (locs : List Loc) (ls : Array Slot) (hP : va_P D vwCl (MW dA h ad (MS.s_valueLength x ((x.vo s7 k (q - k)).2.1))) H) (hD : va_D A (MW dA h ad (MS.s_valueLength x ((x.vo s7 k (q - k)).2.1)))) (hS : va_S A s.heap H locs) (hl : lv_has ls 13 [(3, .int (nI r)), (6, .int (voI (x.vo s7 k (q - k)))), (7, .int (nI (x.vo s7 k (q - k)).2.1)), (5, .int (nI k)), (1, .int (nI s7)), (2, .int (nI p7)), (0, .ref h), (4, .int (bI g))]), W p l e ({ frames := 2, cells := 0, slots := 0, locals := 29 } : Room) s m ([.ref h, .int (nI s7), .int (nI p7)] : List Value).toArray below meth c H locs 0 0 (MQ below (va_Qi (fun (r9 : Int32) (u9 : Unit) => r9 = bI (x.mt s7 p7).1) (fun (u9 : Unit) t9 => bW D A (MW dA h ad (MS.s_valueLength x ((x.mt s7 p7).2))) t9) A) ([.ref h, .int (nI s7), .int (nI p7)] : List Value).toArray s 0 0 A) (F0 m 96 ls []) := by
                  intro k9
                  induction k9 using Nat.strongRecOn with
                  | ind k9 ih96 =>
                    intro r r1 r2 hk9 H locs ls hP hD hS hl
                    refine lv_aload_n hx hb d_M_matches_96 rfl (lv_at hl 6 rfl) ?_
                    refine lv_iload_n hx hb d_M_matches_97 rfl (lv_at hl 0 rfl) ?_
                    refine jfI (rnV (As := [.int (nI r)]) (rest := []) hx hb hml hown hE hK (hN _ _ hS) hP hD (k_at l D dA H.size h ad (MS.s_valueLength x ((x.vo s7 k (q - k)).2.1)) r (show r < 2 ^ 31 from by omega) (show x.length ≤ 65536 from by omega)) (q0 := 0) rfl rfl w466 w465 w467 w468 w328 rfl rfl ⟨⟨by decide, by decide⟩, rfl⟩ ⟨(Nat.le_of_ble_eq_true rfl), (Nat.le_of_ble_eq_true rfl)⟩ rfl hl.1 rfl (Nat.le_of_ble_eq_true rfl) d_M_matches_98 ⟨(Nat.le_of_ble_eq_true rfl), (Nat.le_of_ble_eq_true rfl)⟩) hP hD hS hA (fun r40 u41 H locs hp9 hP hD hS => ?_)
                    have hP : va_P D vwCl (MW dA h ad (MS.s_valueLength x ((x.vo s7 k (q - k)).2.1))) H := hP
                    have hD : va_D A (MW dA h ad (MS.s_valueLength x ((x.vo s7 k (q - k)).2.1))) := hD
                    replace hp9 : x.atN r = r40 := Eq.symm hp9
                    subst hp9
                    refine lv_bipush (v := 32) hx hb d_M_matches_101 (by decide) ?_
                    refine lv_icmp_ne hx hb d_M_matches_103 (tgt := 112) rfl (fun g42 => ?_) (fun g42 => ?_)
                    · have g42 := g42
                      exact J112 r (r1.symm.trans (skA_f g42)) (by omega) H _ ls hP hD hS (lv_sub hl [0, 1, 2, 3, 4, 5, 6, 7] rfl)
                    · have g42 := g42
                      refine lv_iinc (k := 0) (v := nI (r + 1)) hx hb d_M_matches_106 hl rfl (iincN (r) 1 1 (by decide)) (by decide) rfl (fun ls hl => ?_)
                      have hl : lv_has ls 13 [(3, .int (nI (r + 1))), (6, .int (voI (x.vo s7 k (q - k)))), (7, .int (nI (x.vo s7 k (q - k)).2.1)), (5, .int (nI k)), (1, .int (nI s7)), (2, .int (nI p7)), (0, .ref h), (4, .int (bI g))] := hl
                      refine lv_goto hx hb d_M_matches_109 (tgt := 96) rfl ?_
                      exact ih96 _ (by omega) (r + 1) (by rw [← r1, skA_t (w := x.length + 1 - r) (by omega) g42, show x.length + 1 - r - 1 = x.length + 1 - (r + 1) by omega]) (atI_in g42 (by decide)) rfl H _ ls hP hD hS (lv_sub hl [0, 1, 2, 3, 4, 5, 6, 7] rfl)
                exact L96 _ q (by unfold m2E; rw [e1]) e2 rfl H _ ls hP hD hS (lv_sub hl [2, 1, 0, 3, 4, 5, 6, 7] rfl)
              refine lv_istore hx hb d_M_matches_47 hl (by decide) rfl (fun ls hl => ?_)
              have hl : lv_has ls 13 [(5, .int (nI k)), (3, .int (nI k)), (1, .int (nI s7)), (2, .int (nI p7)), (0, .ref h), (4, .int (bI g))] := hl
              have L49 : ∀ (k9 : Nat) (q : Nat) (q1 : idG x.tape x.length (x.length + 1 - q) q = m1E x.tape x.length k) (q2 : q ≤ x.length) (q3 : k ≤ q) (hk9 : x.length + 1 - q = k9), ∀ (H : Heap) (locs : List Loc) (ls : Array Slot) (hP : va_P D vwCl (MW dA h ad (MS.s_valueLength x v)) H) (hD : va_D A (MW dA h ad (MS.s_valueLength x v))) (hS : va_S A s.heap H locs) (hl : lv_has ls 13 [(3, .int (nI q)), (5, .int (nI k)), (1, .int (nI s7)), (2, .int (nI p7)), (0, .ref h), (4, .int (bI g))]), W p l e ({ frames := 2, cells := 0, slots := 0, locals := 29 } : Room) s m ([.ref h, .int (nI s7), .int (nI p7)] : List Value).toArray below meth c H locs 0 0 (MQ below (va_Qi (fun (r9 : Int32) (u9 : Unit) => r9 = bI (x.mt s7 p7).1) (fun (u9 : Unit) t9 => bW D A (MW dA h ad (MS.s_valueLength x ((x.mt s7 p7).2))) t9) A) ([.ref h, .int (nI s7), .int (nI p7)] : List Value).toArray s 0 0 A) (F0 m 49 ls []) := by
                intro k9
                induction k9 using Nat.strongRecOn with
                | ind k9 ih49 =>
                  intro q q1 q2 q3 hk9 H locs ls hP hD hS hl
                  refine lv_aload_n hx hb d_M_matches_49 rfl (lv_at hl 4 rfl) ?_
                  have J71 : ∀ (i5 : isNm (x.atN q) = true), ∀ (H : Heap) (locs : List Loc) (ls : Array Slot) (hP : va_P D vwCl (MW dA h ad (MS.s_valueLength x v)) H) (hD : va_D A (MW dA h ad (MS.s_valueLength x v))) (hS : va_S A s.heap H locs) (hl : lv_has ls 13 [(3, .int (nI q)), (5, .int (nI k)), (1, .int (nI s7)), (2, .int (nI p7)), (0, .ref h), (4, .int (bI g))]), W p l e ({ frames := 2, cells := 0, slots := 0, locals := 29 } : Room) s m ([.ref h, .int (nI s7), .int (nI p7)] : List Value).toArray below meth c H locs 0 0 (MQ below (va_Qi (fun (r9 : Int32) (u9 : Unit) => r9 = bI (x.mt s7 p7).1) (fun (u9 : Unit) t9 => bW D A (MW dA h ad (MS.s_valueLength x ((x.mt s7 p7).2))) t9) A) ([.ref h, .int (nI s7), .int (nI p7)] : List Value).toArray s 0 0 A) (F0 m 71 ls []) := by
                    intro i5 H locs ls hP hD hS hl
                    have i6 := nm_at i5
                    refine lv_iinc (k := 0) (v := nI (q + 1)) hx hb d_M_matches_71 hl rfl (iincN (q) 1 1 (by decide)) (by decide) rfl (fun ls hl => ?_)
                    have hl : lv_has ls 13 [(3, .int (nI (q + 1))), (5, .int (nI k)), (1, .int (nI s7)), (2, .int (nI p7)), (0, .ref h), (4, .int (bI g))] := hl
                    refine lv_goto hx hb d_M_matches_74 (tgt := 49) rfl ?_
                    exact ih49 _ (by omega) (q + 1) (by rw [← q1, idG_t (w := x.length + 1 - q) (by omega) i5, show x.length + 1 - q - 1 = x.length + 1 - (q + 1) by omega]) (by omega) (by omega) rfl H _ ls hP hD hS (lv_sub hl [0, 1, 2, 3, 4, 5] rfl)
                  refine lv_iload_n hx hb d_M_matches_50 rfl (lv_at hl 0 rfl) ?_
                  refine jfI (rnV (As := [.int (nI q)]) (rest := []) hx hb hml hown hE hK (hN _ _ hS) hP hD (k_at l D dA H.size h ad (MS.s_valueLength x v) q (show q < 2 ^ 31 from by omega) (show x.length ≤ 65536 from by omega)) (q0 := 0) rfl rfl w466 w465 w467 w468 w328 rfl rfl ⟨⟨by decide, by decide⟩, rfl⟩ ⟨(Nat.le_of_ble_eq_true rfl), (Nat.le_of_ble_eq_true rfl)⟩ rfl hl.1 rfl (Nat.le_of_ble_eq_true rfl) d_M_matches_51 ⟨(Nat.le_of_ble_eq_true rfl), (Nat.le_of_ble_eq_true rfl)⟩) hP hD hS hA (fun r43 u44 H locs hp9 hP hD hS => ?_)
                  have hP : va_P D vwCl (MW dA h ad (MS.s_valueLength x v)) H := hP
                  have hD : va_D A (MW dA h ad (MS.s_valueLength x v)) := hD
                  replace hp9 : x.atN q = r43 := Eq.symm hp9
                  subst hp9
                  have hPc := hP.sub (ws' := []) [] rfl
                  have hDc := hD.sub (ws' := []) [] (by decide) rfl
                  refine jnI (rnS (As := [.int (x.atN q)]) (rest := []) hx hb hml hown hE hK (hN _ _ hS) hPc hDc (k_isLetter l D dA H.size (x.atN q)) w964 w963 w965 w328 rfl rfl ⟨⟨by decide, by decide⟩, rfl⟩ ⟨(Nat.le_of_ble_eq_true rfl), (Nat.le_of_ble_eq_true rfl)⟩ rfl hl.1 rfl (Nat.le_of_ble_eq_true rfl) d_M_matches_54 ⟨(Nat.le_of_ble_eq_true rfl), (Nat.le_of_ble_eq_true rfl)⟩) hP hD hS hA [] [0, 1, 2, 3, 4, 5, 6, 7, 8, 9, 10, 11, 12, 13, 14, 15, 16, 17, 18, 19, 20, 21, 22, 23, 24, 25, 26, 27, 28, 29, 30, 31, 32, 33, 34, 35, 36, 37, 38] (wr := MW dA h ad (MS.s_valueLength x v)) rfl rfl (by decide) (by decide) (fun r45 u9 H locs hp9 hP hD hS => ?_)
                  have hP : va_P D vwCl (MW dA h ad (MS.s_valueLength x v)) H := hP
                  have hD : va_D A (MW dA h ad (MS.s_valueLength x v)) := hD
                  replace hp9 : bI (isLt (x.atN q)) = r45 := Eq.symm hp9
                  subst hp9
                  refine lv_if_ne hx hb d_M_matches_57 (tgt := 71) rfl (fun g47 => ?_) (fun g47 => ?_)
                  · have g47 := bI_n0 g47
                    exact J71 (by show (isLt (x.atN q) || isDg (x.atN q)) = true; rw [g47]; rfl) H _ ls hP hD hS (lv_sub hl [0, 1, 2, 3, 4, 5] rfl)
                  · have g47 := bI_0 g47
                    refine lv_aload_n hx hb d_M_matches_60 rfl (lv_at hl 4 rfl) ?_
                    refine lv_iload_n hx hb d_M_matches_61 rfl (lv_at hl 0 rfl) ?_
                    refine jfI (rnV (As := [.int (nI q)]) (rest := []) hx hb hml hown hE hK (hN _ _ hS) hP hD (k_at l D dA H.size h ad (MS.s_valueLength x v) q (show q < 2 ^ 31 from by omega) (show x.length ≤ 65536 from by omega)) (q0 := 0) rfl rfl w466 w465 w467 w468 w328 rfl rfl ⟨⟨by decide, by decide⟩, rfl⟩ ⟨(Nat.le_of_ble_eq_true rfl), (Nat.le_of_ble_eq_true rfl)⟩ rfl hl.1 rfl (Nat.le_of_ble_eq_true rfl) d_M_matches_62 ⟨(Nat.le_of_ble_eq_true rfl), (Nat.le_of_ble_eq_true rfl)⟩) hP hD hS hA (fun r48 u49 H locs hp9 hP hD hS => ?_)
                    have hP : va_P D vwCl (MW dA h ad (MS.s_valueLength x v)) H := hP
                    have hD : va_D A (MW dA h ad (MS.s_valueLength x v)) := hD
                    replace hp9 : x.atN q = r48 := Eq.symm hp9
                    subst hp9
                    have hPc := hP.sub (ws' := []) [] rfl
                    have hDc := hD.sub (ws' := []) [] (by decide) rfl
                    refine jnI (rnS (As := [.int (x.atN q)]) (rest := []) hx hb hml hown hE hK (hN _ _ hS) hPc hDc (k_isDigit l D dA H.size (x.atN q)) w955 w954 w956 w328 rfl rfl ⟨⟨by decide, by decide⟩, rfl⟩ ⟨(Nat.le_of_ble_eq_true rfl), (Nat.le_of_ble_eq_true rfl)⟩ rfl hl.1 rfl (Nat.le_of_ble_eq_true rfl) d_M_matches_65 ⟨(Nat.le_of_ble_eq_true rfl), (Nat.le_of_ble_eq_true rfl)⟩) hP hD hS hA [] [0, 1, 2, 3, 4, 5, 6, 7, 8, 9, 10, 11, 12, 13, 14, 15, 16, 17, 18, 19, 20, 21, 22, 23, 24, 25, 26, 27, 28, 29, 30, 31, 32, 33, 34, 35, 36, 37, 38] (wr := MW dA h ad (MS.s_valueLength x v)) rfl rfl (by decide) (by decide) (fun r50 u9 H locs hp9 hP hD hS => ?_)
                    have hP : va_P D vwCl (MW dA h ad (MS.s_valueLength x v)) H := hP
                    have hD : va_D A (MW dA h ad (MS.s_valueLength x v)) := hD
                    replace hp9 : bI (isDg (x.atN q)) = r50 := Eq.symm hp9
                    subst hp9
                    refine lv_if_eq hx hb d_M_matches_68 (tgt := 77) rfl (fun g52 => ?_) (fun g52 => ?_)
                    · have g52 := bI_0 g52
                      exact J77 q (q1.symm.trans (idG_f (show (isLt (x.atN q) || isDg (x.atN q)) = false from by rw [g47, g52]; rfl))) (by omega) (by omega) H _ ls hP hD hS (lv_sub hl [0, 1, 2, 3, 4, 5] rfl)
                    · have g52 := bI_n0 g52
                      exact J71 (by show (isLt (x.atN q) || isDg (x.atN q)) = true; rw [g52]; exact Bool.or_true _) H _ ls hP hD hS (lv_sub hl [0, 1, 2, 3, 4, 5] rfl)
              exact L49 _ k rfl (by omega) (by omega) rfl H _ ls hP hD hS (lv_sub hl [1, 0, 2, 3, 4, 5] rfl)
            · have g10 := g10
              refine lv_iinc (k := 0) (v := nI (k + 1)) hx hb d_M_matches_40 hl rfl (iincN (k) 1 1 (by decide)) (by decide) rfl (fun ls hl => ?_)
              have hl : lv_has ls 13 [(3, .int (nI (k + 1))), (1, .int (nI s7)), (2, .int (nI p7)), (0, .ref h), (4, .int (bI g))] := hl
              refine lv_goto hx hb d_M_matches_43 (tgt := 5) rfl ?_
              exact ih5 _ (by have := (mtOK_s i2 g4 (by show (decide (x.atN k = 32) || decide (x.atN k = 44)) = true; rw [decide_eq_true g10]; exact Bool.or_true _)).1; omega) (k + 1) g (w - 1) v (by rw [← i1, mtG_s (tp := x.atN) (mtOK_s i2 g4 (by show (decide (x.atN k = 32) || decide (x.atN k = 44)) = true; rw [decide_eq_true g10]; exact Bool.or_true _)).1 g1 g4 (by show (decide (x.atN k = 32) || decide (x.atN k = 44)) = true; rw [decide_eq_true g10]; exact Bool.or_true _)]) (mtOK_s i2 g4 (by show (decide (x.atN k = 32) || decide (x.atN k = 44)) = true; rw [decide_eq_true g10]; exact Bool.or_true _)).2 (atI_in g10 (by decide)) (Nat.le_refl _) rfl H _ ls hP hD hS (lv_sub hl [0, 1, 2, 3, 4] rfl)
  exact L5 _ p7 true (x.length + 1 - p7) x.valueLength rfl hmo2 hmo1 (Nat.le_refl _) rfl H _ ls hP hD hS (lv_sub hl [1, 3, 4, 2, 0] rfl)
end
section
theorem va_uu {α : Type} (f : Nat → α) (k : Nat) (a b : α) : va_up (va_up f k a) k b = va_up f k b := by
  funext q
  show (if q = k then b else if q = k then a else f q) = if q = k then b else f q
  split <;> rfl
theorem va_us {α : Type} (f : Nat → α) (k : Nat) (a : α) : va_up f k a k = a := if_pos rfl
/-- the row of series s among n rows of table t: its place, the last length -/
def MS.fr (x : MS) (t s : Nat) (rs : Nat → Nat) (n : Nat) : Nat → Nat → Nat → Nat × Nat
  | 0, r, v => (r, v)
  | w + 1, r, v => if n ≤ r then (r, v) else if ((MS.s_valueLength x v).cr t (rs (256 * t + r)) s).1 < 0 then x.fr t s rs n w (r + 1) ((MS.s_valueLength x v).cr t (rs (256 * t + r)) s).2 else (r, ((MS.s_valueLength x v).cr t (rs (256 * t + r)) s).2)
theorem fr_e {x : MS} {t s n w r v : Nat} {rs : Nat → Nat} (h : n ≤ r) : x.fr t s rs n w r v = (r, v) := by
  cases w with
  | zero => rfl
  | succ w => exact if_pos h
theorem fr_l {x : MS} {t s n w r v : Nat} {rs : Nat → Nat} (hw : 0 < w) (h : ¬ n ≤ r) (h2 : ((MS.s_valueLength x v).cr t (rs (256 * t + r)) s).1 < 0) : x.fr t s rs n w r v = x.fr t s rs n (w - 1) (r + 1) ((MS.s_valueLength x v).cr t (rs (256 * t + r)) s).2 := by
  obtain ⟨d, rfl⟩ : ∃ d, w = d + 1 := ⟨w - 1, by omega⟩
  show (if n ≤ r then (r, v) else if ((MS.s_valueLength x v).cr t (rs (256 * t + r)) s).1 < 0 then _ else _) = _
  rw [if_neg h, if_pos h2]
  rfl
theorem fr_g {x : MS} {t s n w r v : Nat} {rs : Nat → Nat} (hw : 0 < w) (h : ¬ n ≤ r) (h2 : ¬ ((MS.s_valueLength x v).cr t (rs (256 * t + r)) s).1 < 0) : x.fr t s rs n w r v = (r, ((MS.s_valueLength x v).cr t (rs (256 * t + r)) s).2) := by
  obtain ⟨d, rfl⟩ : ∃ d, w = d + 1 := ⟨w - 1, by omega⟩
  show (if n ≤ r then (r, v) else if ((MS.s_valueLength x v).cr t (rs (256 * t + r)) s).1 < 0 then _ else _) = _
  rw [if_neg h, if_neg h2]
/-- is a new row wanted there -/
def MS.gi (x : MS) (t s : Nat) (rs : Nat → Nat) (n r v : Nat) : Bool × Nat :=
  if n = r then (true, v) else (!decide (((MS.s_valueLength x v).cr t (rs (256 * t + r)) s).1 ≤ 0), ((MS.s_valueLength x v).cr t (rs (256 * t + r)) s).2)
/-- rows moved up, j of them from the last on -/
def shR (rs : Nat → Nat) (b n : Nat) : Nat → Nat → Nat
  | 0 => rs
  | j + 1 => va_up (shR rs b n j) (b + (n - j)) (shR rs b n j (b + (n - j) - 1))
theorem shR_at (rs : Nat → Nat) (b n : Nat) : ∀ j, j ≤ n → ∀ q, shR rs b n j q = if b + (n - j) < q ∧ q ≤ b + n then rs (q - 1) else rs q
  | 0, _, q => by
    rw [if_neg (by omega)]
    rfl
  | j + 1, hj, q => by
    have ih := shR_at rs b n j (by omega)
    show (if q = b + (n - j) then shR rs b n j (b + (n - j) - 1) else shR rs b n j q) = _
    by_cases e : q = b + (n - j)
    · rw [if_pos e, ih, if_neg (by omega), if_pos (by omega), e]
    · rw [if_neg e, ih]
      by_cases e2 : b + (n - j) < q ∧ q ≤ b + n
      · rw [if_pos e2, if_pos (by omega)]
      · rw [if_neg e2, if_neg (by omega)]
def bmF (ro : Nat → Int32) (r k : Nat) : Bool := !decide (ro k < nI r)
def bmG (ro : Nat → Int32) (k : Nat) : Int32 := ro k + 1
abbrev grT : Type := Nat × (Nat → Nat) × (Nat → Int32) × (Nat → Bool) × Nat
/-- a series put into its row -/
def MS.gr2 (x : MS) (t s : Nat) (n : Nat) (rs : Nat → Nat) (ro : Nat → Int32) (hb : Nat → Bool) (r v : Nat) : grT :=
  if (x.gi t s rs n r v).1 = true then (n + 1, va_up (shR rs (256 * t) n (n - r)) (256 * t + r) s, va_up (mapT s (bmF ro r) (bmG ro) ro) s (nI r), hb, (x.gi t s rs n r v).2) else (n, rs, va_up ro s (nI r), hb, (x.gi t s rs n r v).2)
def MS.gr1 (x : MS) (t p s : Nat) (g : grT) : grT :=
  if ((MS.s_valueLength x g.2.2.2.2).mt s p).1 = false then (g.1, g.2.1, va_up g.2.2.1 s (-1), va_up g.2.2.2.1 s false, ((MS.s_valueLength x g.2.2.2.2).mt s p).2)
  else x.gr2 t s g.1 g.2.1 (va_up g.2.2.1 s (-1)) (va_up g.2.2.2.1 s false) (x.fr t s g.2.1 g.1 (g.1 + 1) 0 ((MS.s_valueLength x g.2.2.2.2).mt s p).2).1 (x.fr t s g.2.1 g.1 (g.1 + 1) 0 ((MS.s_valueLength x g.2.2.2.2).mt s p).2).2
/-- k series put into the rows of table t -/
def MS.grG (x : MS) (t p : Nat) : Nat → grT
  | 0 => (0, x.rowSeries, x.rowOf, x.hasBefore, x.valueLength)
  | s + 1 => x.gr1 t p s (x.grG t p s)
theorem gr_no {x : MS} {t p k n v : Nat} {rs : Nat → Nat} {ro : Nat → Int32} {hb : Nat → Bool} (h : x.grG t p k = (n, rs, ro, hb, v)) (h1 : ((MS.s_valueLength x v).mt k p).1 = false) : x.grG t p (k + 1) = (n, rs, va_up ro k (-1), va_up hb k false, ((MS.s_valueLength x v).mt k p).2) := by
  show x.gr1 t p k (x.grG t p k) = _
  rw [h]
  exact if_pos h1
theorem gr_y {x : MS} {t p k n v v2 r v3 : Nat} {rs : Nat → Nat} {ro : Nat → Int32} {hb : Nat → Bool} (h : x.grG t p k = (n, rs, ro, hb, v)) (h1 : (MS.s_valueLength x v).mt k p = (true, v2)) (h2 : x.fr t k rs n (n + 1) 0 v2 = (r, v3)) : x.grG t p (k + 1) = x.gr2 t k n rs (va_up ro k (-1)) (va_up hb k false) r v3 := by
  show x.gr1 t p k (x.grG t p k) = _
  rw [h]
  unfold MS.gr1
  rw [if_neg (by rw [h1]; exact fun z => Bool.noConfusion z)]
  show x.gr2 t k n rs (va_up ro k (-1)) (va_up hb k false) (x.fr t k rs n (n + 1) 0 ((MS.s_valueLength x v).mt k p).2).1 (x.fr t k rs n (n + 1) 0 ((MS.s_valueLength x v).mt k p).2).2 = _
  rw [h1, h2]
theorem grN_new {x : MS} {t k n r v3 v4 : Nat} {rs : Nat → Nat} {ro : Nat → Int32} {hb : Nat → Bool} (h : x.gi t k rs n r v3 = (true, v4)) : x.gr2 t k n rs ro hb r v3 = (n + 1, va_up (shR rs (256 * t) n (n - r)) (256 * t + r) k, va_up (mapT k (bmF ro r) (bmG ro) ro) k (nI r), hb, v4) := by
  unfold MS.gr2
  rw [h]
  rfl
theorem gr_old {x : MS} {t k n r v3 v4 : Nat} {rs : Nat → Nat} {ro : Nat → Int32} {hb : Nat → Bool} (h : x.gi t k rs n r v3 = (false, v4)) : x.gr2 t k n rs ro hb r v3 = (n, rs, va_up ro k (nI r), hb, v4) := by
  unfold MS.gr2
  rw [h]
  rfl
theorem sh_lt {rs : Nat → Nat} {t n r k : Nat} (h : ∀ q : Nat, q < n → rs (256 * t + q) < k) (hr : r ≤ n) : ∀ q : Nat, q < n + 1 → va_up (shR rs (256 * t) n (n - r)) (256 * t + r) k (256 * t + q) < k + 1 := by
  intro q hq
  show (if 256 * t + q = 256 * t + r then k else shR rs (256 * t) n (n - r) (256 * t + q)) < k + 1
  by_cases e : 256 * t + q = 256 * t + r
  · rw [if_pos e]
    omega
  · rw [if_neg e, shR_at rs (256 * t) n (n - r) (by omega)]
    by_cases e2 : 256 * t + (n - (n - r)) < 256 * t + q ∧ 256 * t + q ≤ 256 * t + n
    · rw [if_pos e2]
      have := h (q - 1) (by omega)
      rw [show 256 * t + q - 1 = 256 * t + (q - 1) by omega]
      omega
    · rw [if_neg e2]
      have := h q (by omega)
      omega
theorem rs_sc {rs : Nat → Nat} {t n k : Nat} (h : ∀ q : Nat, q < n → rs (256 * t + q) < k) : ∀ q : Nat, q < n → rs (256 * t + q) < k + 1 := fun q hq => Nat.lt_succ_of_lt (h q hq)
theorem gr_le' {x : MS} {t p : Nat} : ∀ k, (x.grG t p k).1 ≤ k
  | 0 => Nat.le_refl 0
  | k + 1 => by
    have ih := gr_le' (x := x) (t := t) (p := p) k
    show (x.gr1 t p k (x.grG t p k)).1 ≤ k + 1
    unfold MS.gr1
    split
    · exact Nat.le_succ_of_le ih
    · unfold MS.gr2
      split
      · exact Nat.succ_le_succ ih
      · exact Nat.le_succ_of_le ih
theorem gr_le {x : MS} {t p k n v : Nat} {rs : Nat → Nat} {ro : Nat → Int32} {hb : Nat → Bool} (hk : k ≤ 256) (h : x.grG t p k = (n, rs, ro, hb, v)) : n ≤ 256 := by
  have := gr_le' (x := x) (t := t) (p := p) k
  rw [h] at this
  exact Nat.le_trans this hk
theorem fr_le {x : MS} {t s : Nat} {rs : Nat → Nat} {n : Nat} : ∀ w r v, r ≤ n → (x.fr t s rs n w r v).1 ≤ n
  | 0, r, v, h => h
  | w + 1, r, v, h => by
    unfold MS.fr
    split
    · exact h
    · split
      · exact fr_le w (r + 1) _ (by omega)
      · exact h
theorem d_M_group_0 : decode prog_14_method_68_code 0 = .ok (.aload_n 0, 1) := by decide +kernel
theorem d_M_group_1 : decode prog_14_method_68_code 1 = .ok (.getfield 97, 3) := by decide +kernel
theorem d_M_group_4 : decode prog_14_method_68_code 4 = .ok (.iload_n 1, 1) := by decide +kernel
theorem d_M_group_5 : decode prog_14_method_68_code 5 = .ok (.iconst 0, 1) := by decide +kernel
theorem d_M_group_6 : decode prog_14_method_68_code 6 = .ok (.iastore, 1) := by decide +kernel
theorem d_M_group_258 : decode prog_14_method_68_code 258 = .ok (.iconst 0, 1) := by decide +kernel
theorem d_M_group_259 : decode prog_14_method_68_code 259 = .ok (.istore_n 3, 1) := by decide +kernel
theorem d_M_group_260 : decode prog_14_method_68_code 260 = .ok (.iload_n 3, 1) := by decide +kernel
theorem d_M_group_261 : decode prog_14_method_68_code 261 = .ok (.aload_n 0, 1) := by decide +kernel
theorem d_M_group_262 : decode prog_14_method_68_code 262 = .ok (.getfield 97, 3) := by decide +kernel
theorem d_M_group_265 : decode prog_14_method_68_code 265 = .ok (.iload_n 1, 1) := by decide +kernel
theorem d_M_group_266 : decode prog_14_method_68_code 266 = .ok (.iaload, 1) := by decide +kernel
theorem d_M_group_267 : decode prog_14_method_68_code 267 = .ok (.bipush 64, 2) := by decide +kernel
theorem d_M_group_269 : decode prog_14_method_68_code 269 = .ok (.imul, 1) := by decide +kernel
theorem d_M_group_270 : decode prog_14_method_68_code 270 = .ok (.if_icmp .ge 41, 3) := by decide +kernel
theorem d_M_group_311 : decode prog_14_method_68_code 311 = .ok (.return_, 1) := by decide +kernel
theorem d_M_group_273 : decode prog_14_method_68_code 273 = .ok (.aload_n 0, 1) := by decide +kernel
theorem d_M_group_274 : decode prog_14_method_68_code 274 = .ok (.getfield 107, 3) := by decide +kernel
theorem d_M_group_277 : decode prog_14_method_68_code 277 = .ok (.iload_n 1, 1) := by decide +kernel
theorem d_M_group_278 : decode prog_14_method_68_code 278 = .ok (.sipush 256, 3) := by decide +kernel
theorem d_M_group_281 : decode prog_14_method_68_code 281 = .ok (.imul, 1) := by decide +kernel
theorem d_M_group_282 : decode prog_14_method_68_code 282 = .ok (.bipush 64, 2) := by decide +kernel
theorem d_M_group_284 : decode prog_14_method_68_code 284 = .ok (.imul, 1) := by decide +kernel
theorem d_M_group_285 : decode prog_14_method_68_code 285 = .ok (.iload_n 3, 1) := by decide +kernel
theorem d_M_group_286 : decode prog_14_method_68_code 286 = .ok (.iadd, 1) := by decide +kernel
theorem d_M_group_287 : decode prog_14_method_68_code 287 = .ok (.iconst 0, 1) := by decide +kernel
theorem d_M_group_288 : decode prog_14_method_68_code 288 = .ok (.bastore, 1) := by decide +kernel
theorem d_M_group_289 : decode prog_14_method_68_code 289 = .ok (.aload_n 0, 1) := by decide +kernel
theorem d_M_group_290 : decode prog_14_method_68_code 290 = .ok (.getfield 104, 3) := by decide +kernel
theorem d_M_group_293 : decode prog_14_method_68_code 293 = .ok (.iload_n 1, 1) := by decide +kernel
theorem d_M_group_294 : decode prog_14_method_68_code 294 = .ok (.sipush 256, 3) := by decide +kernel
theorem d_M_group_297 : decode prog_14_method_68_code 297 = .ok (.imul, 1) := by decide +kernel
theorem d_M_group_298 : decode prog_14_method_68_code 298 = .ok (.bipush 64, 2) := by decide +kernel
theorem d_M_group_300 : decode prog_14_method_68_code 300 = .ok (.imul, 1) := by decide +kernel
theorem d_M_group_301 : decode prog_14_method_68_code 301 = .ok (.iload_n 3, 1) := by decide +kernel
theorem d_M_group_302 : decode prog_14_method_68_code 302 = .ok (.iadd, 1) := by decide +kernel
theorem d_M_group_303 : decode prog_14_method_68_code 303 = .ok (.lconst 0, 1) := by decide +kernel
theorem d_M_group_304 : decode prog_14_method_68_code 304 = .ok (.lastore, 1) := by decide +kernel
theorem d_M_group_305 : decode prog_14_method_68_code 305 = .ok (.iinc 3 1, 3) := by decide +kernel
theorem d_M_group_308 : decode prog_14_method_68_code 308 = .ok (.goto (-48), 3) := by decide +kernel
theorem d_M_group_7 : decode prog_14_method_68_code 7 = .ok (.iconst 0, 1) := by decide +kernel
theorem d_M_group_8 : decode prog_14_method_68_code 8 = .ok (.istore_n 3, 1) := by decide +kernel
theorem d_M_group_9 : decode prog_14_method_68_code 9 = .ok (.iload_n 3, 1) := by decide +kernel
theorem d_M_group_10 : decode prog_14_method_68_code 10 = .ok (.aload_n 0, 1) := by decide +kernel
theorem d_M_group_11 : decode prog_14_method_68_code 11 = .ok (.getfield 160, 3) := by decide +kernel
theorem d_M_group_14 : decode prog_14_method_68_code 14 = .ok (.if_icmp .ge 244, 3) := by decide +kernel
theorem d_M_group_17 : decode prog_14_method_68_code 17 = .ok (.aload_n 0, 1) := by decide +kernel
theorem d_M_group_18 : decode prog_14_method_68_code 18 = .ok (.getfield 111, 3) := by decide +kernel
theorem d_M_group_21 : decode prog_14_method_68_code 21 = .ok (.iload_n 3, 1) := by decide +kernel
theorem d_M_group_22 : decode prog_14_method_68_code 22 = .ok (.iconst (-1), 1) := by decide +kernel
theorem d_M_group_23 : decode prog_14_method_68_code 23 = .ok (.iastore, 1) := by decide +kernel
theorem d_M_group_24 : decode prog_14_method_68_code 24 = .ok (.aload_n 0, 1) := by decide +kernel
theorem d_M_group_25 : decode prog_14_method_68_code 25 = .ok (.getfield 123, 3) := by decide +kernel
theorem d_M_group_28 : decode prog_14_method_68_code 28 = .ok (.iload_n 3, 1) := by decide +kernel
theorem d_M_group_29 : decode prog_14_method_68_code 29 = .ok (.iconst 0, 1) := by decide +kernel
theorem d_M_group_30 : decode prog_14_method_68_code 30 = .ok (.bastore, 1) := by decide +kernel
theorem d_M_group_167 : decode prog_14_method_68_code 167 = .ok (.iconst 0, 1) := by decide +kernel
theorem d_M_group_168 : decode prog_14_method_68_code 168 = .ok (.istore 5, 2) := by decide +kernel
theorem d_M_group_170 : decode prog_14_method_68_code 170 = .ok (.iload 5, 2) := by decide +kernel
theorem d_M_group_172 : decode prog_14_method_68_code 172 = .ok (.iload_n 3, 1) := by decide +kernel
theorem d_M_group_173 : decode prog_14_method_68_code 173 = .ok (.if_icmp .ge 47, 3) := by decide +kernel
theorem d_M_group_220 : decode prog_14_method_68_code 220 = .ok (.aload_n 0, 1) := by decide +kernel
theorem d_M_group_221 : decode prog_14_method_68_code 221 = .ok (.getfield 100, 3) := by decide +kernel
theorem d_M_group_224 : decode prog_14_method_68_code 224 = .ok (.sipush 256, 3) := by decide +kernel
theorem d_M_group_227 : decode prog_14_method_68_code 227 = .ok (.iload_n 1, 1) := by decide +kernel
theorem d_M_group_228 : decode prog_14_method_68_code 228 = .ok (.imul, 1) := by decide +kernel
theorem d_M_group_229 : decode prog_14_method_68_code 229 = .ok (.iload 4, 2) := by decide +kernel
theorem d_M_group_231 : decode prog_14_method_68_code 231 = .ok (.iadd, 1) := by decide +kernel
theorem d_M_group_232 : decode prog_14_method_68_code 232 = .ok (.iload_n 3, 1) := by decide +kernel
theorem d_M_group_233 : decode prog_14_method_68_code 233 = .ok (.iastore, 1) := by decide +kernel
theorem d_M_group_234 : decode prog_14_method_68_code 234 = .ok (.aload_n 0, 1) := by decide +kernel
theorem d_M_group_235 : decode prog_14_method_68_code 235 = .ok (.getfield 97, 3) := by decide +kernel
theorem d_M_group_238 : decode prog_14_method_68_code 238 = .ok (.iload_n 1, 1) := by decide +kernel
theorem d_M_group_239 : decode prog_14_method_68_code 239 = .ok (.dup2, 1) := by decide +kernel
theorem d_M_group_240 : decode prog_14_method_68_code 240 = .ok (.iaload, 1) := by decide +kernel
theorem d_M_group_241 : decode prog_14_method_68_code 241 = .ok (.iconst 1, 1) := by decide +kernel
theorem d_M_group_242 : decode prog_14_method_68_code 242 = .ok (.iadd, 1) := by decide +kernel
theorem d_M_group_243 : decode prog_14_method_68_code 243 = .ok (.iastore, 1) := by decide +kernel
theorem d_M_group_244 : decode prog_14_method_68_code 244 = .ok (.aload_n 0, 1) := by decide +kernel
theorem d_M_group_245 : decode prog_14_method_68_code 245 = .ok (.getfield 111, 3) := by decide +kernel
theorem d_M_group_248 : decode prog_14_method_68_code 248 = .ok (.iload_n 3, 1) := by decide +kernel
theorem d_M_group_249 : decode prog_14_method_68_code 249 = .ok (.iload 4, 2) := by decide +kernel
theorem d_M_group_251 : decode prog_14_method_68_code 251 = .ok (.iastore, 1) := by decide +kernel
theorem d_M_group_252 : decode prog_14_method_68_code 252 = .ok (.iinc 3 1, 3) := by decide +kernel
theorem d_M_group_255 : decode prog_14_method_68_code 255 = .ok (.goto (-246), 3) := by decide +kernel
theorem d_M_group_176 : decode prog_14_method_68_code 176 = .ok (.aload_n 0, 1) := by decide +kernel
theorem d_M_group_177 : decode prog_14_method_68_code 177 = .ok (.getfield 111, 3) := by decide +kernel
theorem d_M_group_180 : decode prog_14_method_68_code 180 = .ok (.iload 5, 2) := by decide +kernel
theorem d_M_group_182 : decode prog_14_method_68_code 182 = .ok (.aload_n 0, 1) := by decide +kernel
theorem d_M_group_183 : decode prog_14_method_68_code 183 = .ok (.getfield 111, 3) := by decide +kernel
theorem d_M_group_186 : decode prog_14_method_68_code 186 = .ok (.iload 5, 2) := by decide +kernel
theorem d_M_group_188 : decode prog_14_method_68_code 188 = .ok (.iaload, 1) := by decide +kernel
theorem d_M_group_189 : decode prog_14_method_68_code 189 = .ok (.iload 4, 2) := by decide +kernel
theorem d_M_group_191 : decode prog_14_method_68_code 191 = .ok (.if_icmp .lt 15, 3) := by decide +kernel
theorem d_M_group_206 : decode prog_14_method_68_code 206 = .ok (.aload_n 0, 1) := by decide +kernel
theorem d_M_group_207 : decode prog_14_method_68_code 207 = .ok (.getfield 111, 3) := by decide +kernel
theorem d_M_group_210 : decode prog_14_method_68_code 210 = .ok (.iload 5, 2) := by decide +kernel
theorem d_M_group_212 : decode prog_14_method_68_code 212 = .ok (.iaload, 1) := by decide +kernel
theorem d_M_group_213 : decode prog_14_method_68_code 213 = .ok (.iastore, 1) := by decide +kernel
theorem d_M_group_214 : decode prog_14_method_68_code 214 = .ok (.iinc 5 1, 3) := by decide +kernel
theorem d_M_group_217 : decode prog_14_method_68_code 217 = .ok (.goto (-47), 3) := by decide +kernel
theorem d_M_group_194 : decode prog_14_method_68_code 194 = .ok (.aload_n 0, 1) := by decide +kernel
theorem d_M_group_195 : decode prog_14_method_68_code 195 = .ok (.getfield 111, 3) := by decide +kernel
theorem d_M_group_198 : decode prog_14_method_68_code 198 = .ok (.iload 5, 2) := by decide +kernel
theorem d_M_group_200 : decode prog_14_method_68_code 200 = .ok (.iaload, 1) := by decide +kernel
theorem d_M_group_201 : decode prog_14_method_68_code 201 = .ok (.iconst 1, 1) := by decide +kernel
theorem d_M_group_202 : decode prog_14_method_68_code 202 = .ok (.iadd, 1) := by decide +kernel
theorem d_M_group_203 : decode prog_14_method_68_code 203 = .ok (.goto 10, 3) := by decide +kernel
theorem d_M_group_118 : decode prog_14_method_68_code 118 = .ok (.aload_n 0, 1) := by decide +kernel
theorem d_M_group_119 : decode prog_14_method_68_code 119 = .ok (.getfield 97, 3) := by decide +kernel
theorem d_M_group_122 : decode prog_14_method_68_code 122 = .ok (.iload_n 1, 1) := by decide +kernel
theorem d_M_group_123 : decode prog_14_method_68_code 123 = .ok (.iaload, 1) := by decide +kernel
theorem d_M_group_124 : decode prog_14_method_68_code 124 = .ok (.istore 5, 2) := by decide +kernel
theorem d_M_group_126 : decode prog_14_method_68_code 126 = .ok (.iload 5, 2) := by decide +kernel
theorem d_M_group_128 : decode prog_14_method_68_code 128 = .ok (.iload 4, 2) := by decide +kernel
theorem d_M_group_130 : decode prog_14_method_68_code 130 = .ok (.if_icmp .le 37, 3) := by decide +kernel
theorem d_M_group_133 : decode prog_14_method_68_code 133 = .ok (.aload_n 0, 1) := by decide +kernel
theorem d_M_group_134 : decode prog_14_method_68_code 134 = .ok (.getfield 100, 3) := by decide +kernel
theorem d_M_group_137 : decode prog_14_method_68_code 137 = .ok (.sipush 256, 3) := by decide +kernel
theorem d_M_group_140 : decode prog_14_method_68_code 140 = .ok (.iload_n 1, 1) := by decide +kernel
theorem d_M_group_141 : decode prog_14_method_68_code 141 = .ok (.imul, 1) := by decide +kernel
theorem d_M_group_142 : decode prog_14_method_68_code 142 = .ok (.iload 5, 2) := by decide +kernel
theorem d_M_group_144 : decode prog_14_method_68_code 144 = .ok (.iadd, 1) := by decide +kernel
theorem d_M_group_145 : decode prog_14_method_68_code 145 = .ok (.aload_n 0, 1) := by decide +kernel
theorem d_M_group_146 : decode prog_14_method_68_code 146 = .ok (.getfield 100, 3) := by decide +kernel
theorem d_M_group_149 : decode prog_14_method_68_code 149 = .ok (.sipush 256, 3) := by decide +kernel
theorem d_M_group_152 : decode prog_14_method_68_code 152 = .ok (.iload_n 1, 1) := by decide +kernel
theorem d_M_group_153 : decode prog_14_method_68_code 153 = .ok (.imul, 1) := by decide +kernel
theorem d_M_group_154 : decode prog_14_method_68_code 154 = .ok (.iload 5, 2) := by decide +kernel
theorem d_M_group_156 : decode prog_14_method_68_code 156 = .ok (.iadd, 1) := by decide +kernel
theorem d_M_group_157 : decode prog_14_method_68_code 157 = .ok (.iconst 1, 1) := by decide +kernel
theorem d_M_group_158 : decode prog_14_method_68_code 158 = .ok (.isub, 1) := by decide +kernel
theorem d_M_group_159 : decode prog_14_method_68_code 159 = .ok (.iaload, 1) := by decide +kernel
theorem d_M_group_160 : decode prog_14_method_68_code 160 = .ok (.iastore, 1) := by decide +kernel
theorem d_M_group_161 : decode prog_14_method_68_code 161 = .ok (.iinc 5 (-1), 3) := by decide +kernel
theorem d_M_group_164 : decode prog_14_method_68_code 164 = .ok (.goto (-38), 3) := by decide +kernel
theorem d_M_group_85 : decode prog_14_method_68_code 85 = .ok (.iload 4, 2) := by decide +kernel
theorem d_M_group_87 : decode prog_14_method_68_code 87 = .ok (.aload_n 0, 1) := by decide +kernel
theorem d_M_group_88 : decode prog_14_method_68_code 88 = .ok (.getfield 97, 3) := by decide +kernel
theorem d_M_group_91 : decode prog_14_method_68_code 91 = .ok (.iload_n 1, 1) := by decide +kernel
theorem d_M_group_92 : decode prog_14_method_68_code 92 = .ok (.iaload, 1) := by decide +kernel
theorem d_M_group_93 : decode prog_14_method_68_code 93 = .ok (.if_icmp .eq 25, 3) := by decide +kernel
theorem d_M_group_96 : decode prog_14_method_68_code 96 = .ok (.aload_n 0, 1) := by decide +kernel
theorem d_M_group_97 : decode prog_14_method_68_code 97 = .ok (.iload_n 1, 1) := by decide +kernel
theorem d_M_group_98 : decode prog_14_method_68_code 98 = .ok (.aload_n 0, 1) := by decide +kernel
theorem d_M_group_99 : decode prog_14_method_68_code 99 = .ok (.getfield 100, 3) := by decide +kernel
theorem d_M_group_102 : decode prog_14_method_68_code 102 = .ok (.sipush 256, 3) := by decide +kernel
theorem d_M_group_105 : decode prog_14_method_68_code 105 = .ok (.iload_n 1, 1) := by decide +kernel
theorem d_M_group_106 : decode prog_14_method_68_code 106 = .ok (.imul, 1) := by decide +kernel
theorem d_M_group_107 : decode prog_14_method_68_code 107 = .ok (.iload 4, 2) := by decide +kernel
theorem d_M_group_109 : decode prog_14_method_68_code 109 = .ok (.iadd, 1) := by decide +kernel
theorem d_M_group_110 : decode prog_14_method_68_code 110 = .ok (.iaload, 1) := by decide +kernel
theorem d_M_group_111 : decode prog_14_method_68_code 111 = .ok (.iload_n 3, 1) := by decide +kernel
theorem d_M_group_112 : decode prog_14_method_68_code 112 = .ok (.invokevirtual 394, 3) := by decide +kernel
theorem d_M_group_115 : decode prog_14_method_68_code 115 = .ok (.ifCond .le 129, 3) := by decide +kernel
theorem d_M_group_43 : decode prog_14_method_68_code 43 = .ok (.iconst 0, 1) := by decide +kernel
theorem d_M_group_44 : decode prog_14_method_68_code 44 = .ok (.istore 4, 2) := by decide +kernel
theorem d_M_group_46 : decode prog_14_method_68_code 46 = .ok (.iload 4, 2) := by decide +kernel
theorem d_M_group_48 : decode prog_14_method_68_code 48 = .ok (.aload_n 0, 1) := by decide +kernel
theorem d_M_group_49 : decode prog_14_method_68_code 49 = .ok (.getfield 97, 3) := by decide +kernel
theorem d_M_group_52 : decode prog_14_method_68_code 52 = .ok (.iload_n 1, 1) := by decide +kernel
theorem d_M_group_53 : decode prog_14_method_68_code 53 = .ok (.iaload, 1) := by decide +kernel
theorem d_M_group_54 : decode prog_14_method_68_code 54 = .ok (.if_icmp .ge 31, 3) := by decide +kernel
theorem d_M_group_57 : decode prog_14_method_68_code 57 = .ok (.aload_n 0, 1) := by decide +kernel
theorem d_M_group_58 : decode prog_14_method_68_code 58 = .ok (.iload_n 1, 1) := by decide +kernel
theorem d_M_group_59 : decode prog_14_method_68_code 59 = .ok (.aload_n 0, 1) := by decide +kernel
theorem d_M_group_60 : decode prog_14_method_68_code 60 = .ok (.getfield 100, 3) := by decide +kernel
theorem d_M_group_63 : decode prog_14_method_68_code 63 = .ok (.sipush 256, 3) := by decide +kernel
theorem d_M_group_66 : decode prog_14_method_68_code 66 = .ok (.iload_n 1, 1) := by decide +kernel
theorem d_M_group_67 : decode prog_14_method_68_code 67 = .ok (.imul, 1) := by decide +kernel
theorem d_M_group_68 : decode prog_14_method_68_code 68 = .ok (.iload 4, 2) := by decide +kernel
theorem d_M_group_70 : decode prog_14_method_68_code 70 = .ok (.iadd, 1) := by decide +kernel
theorem d_M_group_71 : decode prog_14_method_68_code 71 = .ok (.iaload, 1) := by decide +kernel
theorem d_M_group_72 : decode prog_14_method_68_code 72 = .ok (.iload_n 3, 1) := by decide +kernel
theorem d_M_group_73 : decode prog_14_method_68_code 73 = .ok (.invokevirtual 394, 3) := by decide +kernel
theorem d_M_group_76 : decode prog_14_method_68_code 76 = .ok (.ifCond .ge 9, 3) := by decide +kernel
theorem d_M_group_79 : decode prog_14_method_68_code 79 = .ok (.iinc 4 1, 3) := by decide +kernel
theorem d_M_group_82 : decode prog_14_method_68_code 82 = .ok (.goto (-36), 3) := by decide +kernel
theorem d_M_group_31 : decode prog_14_method_68_code 31 = .ok (.aload_n 0, 1) := by decide +kernel
theorem d_M_group_32 : decode prog_14_method_68_code 32 = .ok (.iload_n 3, 1) := by decide +kernel
theorem d_M_group_33 : decode prog_14_method_68_code 33 = .ok (.iload_n 2, 1) := by decide +kernel
theorem d_M_group_34 : decode prog_14_method_68_code 34 = .ok (.invokevirtual 391, 3) := by decide +kernel
theorem d_M_group_37 : decode prog_14_method_68_code 37 = .ok (.ifCond .ne 6, 3) := by decide +kernel
theorem d_M_group_40 : decode prog_14_method_68_code 40 = .ok (.goto 212, 3) := by decide +kernel
theorem w982 : Cond.methodLink "SeriesVaultModel" 394 ⟨"SeriesVaultModel", "compareRows", "(III)I"⟩ ∈ aW := aw_of (tb_10 (List.mem_of_getElem? (i := 233) rfl)) rfl
theorem w983 : Cond.code ⟨"SeriesVaultModel", "compareRows", "(III)I"⟩ prog_14_method_66_code 10 (some FieldType.int) ∈ aW := aw_of (tb_10 (List.mem_of_getElem? (i := 236) rfl)) rfl
theorem w984 : Cond.instanceMethod ⟨"SeriesVaultModel", "compareRows", "(III)I"⟩ ∈ aW := aw_of (tb_10 (List.mem_of_getElem? (i := 235) rfl)) rfl
theorem w985 : Cond.selects "SeriesVaultModel" ⟨"SeriesVaultModel", "compareRows", "(III)I"⟩ ⟨"SeriesVaultModel", "compareRows", "(III)I"⟩ ∈ aW := aw_pr (List.mem_map.mpr ⟨_, pv_8 (List.mem_of_getElem? (i := 0) rfl), rfl⟩) rfl
theorem w986 : Cond.methodLink "SeriesVaultModel" 391 ⟨"SeriesVaultModel", "matches", "(II)Z"⟩ ∈ aW := aw_of (tb_10 (List.mem_of_getElem? (i := 225) rfl)) rfl
theorem w987 : Cond.code ⟨"SeriesVaultModel", "matches", "(II)Z"⟩ prog_14_method_67_code 13 (some FieldType.boolean) ∈ aW := aw_of (tb_10 (List.mem_of_getElem? (i := 228) rfl)) rfl
theorem w988 : Cond.instanceMethod ⟨"SeriesVaultModel", "matches", "(II)Z"⟩ ∈ aW := aw_of (tb_10 (List.mem_of_getElem? (i := 227) rfl)) rfl
theorem w989 : Cond.selects "SeriesVaultModel" ⟨"SeriesVaultModel", "matches", "(II)Z"⟩ ⟨"SeriesVaultModel", "matches", "(II)Z"⟩ ∈ aW := aw_pr (List.mem_map.mpr ⟨_, pv_7 (List.mem_of_getElem? (i := 14) rfl), rfl⟩) rfl
set_option maxHeartbeats 4000000 in
set_option maxRecDepth 100000 in
theorem k_group (l : Launch) (D : va_G) (dA : Nat → ClassId) (sz : Nat) (h : Nat) (ad : Nat → Nat) (x : MS) (t : Nat) (p7 : Nat) (n9 : Nat) (rs9 : Nat → Nat) (ro9 : Nat → Int32) (hb9 : Nat → Bool) (v9 : Nat) (hsc : x.seriesCount ≤ 256) (hts : ∀ q : Nat, q < x.seriesCount → x.tOK q) (hmo : x.mOK p7) (hno : x.nOK t) (hl1 : x.length ≤ 65536) (hgr : x.grG t p7 x.seriesCount = (n9, rs9, ro9, hb9, v9)) : Met l ⟨"SeriesVaultModel", "group", "(II)V"⟩ [Cond.code ⟨"SeriesVaultModel", "group", "(II)V"⟩ prog_14_method_68_code 6 none] { frames := 3, cells := 0, slots := 0, locals := 61 } (pC D dA [.ref h, .int (nI t), .int (nI p7)] (MW dA h ad x) sz) (va_Qv (fun (u9 : Unit) => True) (fun (u9 : Unit) t9 => bW D (va_A (MW dA h ad x) sz) (MW dA h ad (MS.s_hasBefore (MS.s_rowOf (MS.s_valueLength (MS.s_isCell (MS.s_cells (MS.s_rowSeries (MS.s_tableRows x (va_up x.tableRows t n9)) rs9) (filG x.cells (t * 256 * 64) 0 (n9 * 64))) (filG x.isCell (t * 256 * 64) false (n9 * 64))) v9) ro9) hb9)) t9) (va_A (MW dA h ad x) sz)) 0 0 (va_A (MW dA h ad x) sz) := by
  refine mkC (y := ⟨"SeriesVaultModel", "group", "(II)V"⟩) (cc := prog_14_method_68_code) (maxL := 6) (av := [.ref h, .int (nI t), .int (nI p7)]) (ws := MW dA h ad x) (sz := sz) (Qc := fun A => va_Qv (fun (u9 : Unit) => True) (fun (u9 : Unit) t9 => bW D A (MW dA h ad (MS.s_hasBefore (MS.s_rowOf (MS.s_valueLength (MS.s_isCell (MS.s_cells (MS.s_rowSeries (MS.s_tableRows x (va_up x.tableRows t n9)) rs9) (filG x.cells (t * 256 * 64) 0 (n9 * 64))) (filG x.isCell (t * 256 * 64) false (n9 * 64))) v9) ro9) hb9)) t9) A) (by decide) (Nat.le_of_ble_eq_true rfl) ?_
  intro A p e s m below meth c ls hsz hB
  obtain ⟨hx, hb, hr, hml, hown, hin, hlk, hE, hK, hP, hD, hS, hA, hN, hl⟩ := hB
  have hown : s.vm.findClass "SeriesVaultModel" = some m.cls := hown
  have hl : lv_has ls 6 [(0, .ref h), (1, .int (nI t)), (2, .int (nI p7))] := hl
  obtain ⟨H, hH⟩ : ∃ z, z = s.heap := ⟨_, rfl⟩
  have hP : va_P D vwCl (MW dA h ad x) H := by rw [hH]; exact hP
  have hS : va_S A s.heap H [] := by rw [hH]; exact hS
  rw [← hH]
  have ht2 := hno.1
  refine lv_aload_n hx hb d_M_group_0 rfl (lv_at hl 0 rfl) ?_
  refine gF (v := .ref (ad 51)) hx hb hown hE hK hP 0 rfl rfl layM 51 (by decide) w521 rfl d_M_group_1 ?_
  refine lv_iload_n hx hb d_M_group_4 rfl (lv_at hl 1 rfl) ?_
  refine lv_iconst (v := 0) hx hb d_M_group_5 (by decide) ?_
  refine nistN (v := 0) hx hb hK hP hD hS 24 1 rfl rfl (t) (by omega) (by decide) d_M_group_6 (fun H locs hP hD hS => ?_)
  have hP : va_P D vwCl (MW dA h ad (MS.s_tableRows x (va_up x.tableRows t 0))) H := hP
  have hD : va_D A (MW dA h ad (MS.s_tableRows x (va_up x.tableRows t 0))) := hD
  have J258 : ∀ (H : Heap) (locs : List Loc) (ls : Array Slot) (hP : va_P D vwCl (MW dA h ad (MS.s_hasBefore (MS.s_rowOf (MS.s_valueLength (MS.s_rowSeries (MS.s_tableRows x (va_up x.tableRows t n9)) rs9) v9) ro9) hb9)) H) (hD : va_D A (MW dA h ad (MS.s_hasBefore (MS.s_rowOf (MS.s_valueLength (MS.s_rowSeries (MS.s_tableRows x (va_up x.tableRows t n9)) rs9) v9) ro9) hb9))) (hS : va_S A s.heap H locs) (hl : lv_has ls 6 [(1, .int (nI t)), (2, .int (nI p7)), (0, .ref h)]), W p l e ({ frames := 3, cells := 0, slots := 0, locals := 61 } : Room) s m ([.ref h, .int (nI t), .int (nI p7)] : List Value).toArray below meth c H locs 0 0 (MQ below (va_Qv (fun (u9 : Unit) => True) (fun (u9 : Unit) t9 => bW D A (MW dA h ad (MS.s_hasBefore (MS.s_rowOf (MS.s_valueLength (MS.s_isCell (MS.s_cells (MS.s_rowSeries (MS.s_tableRows x (va_up x.tableRows t n9)) rs9) (filG x.cells (t * 256 * 64) 0 (n9 * 64))) (filG x.isCell (t * 256 * 64) false (n9 * 64))) v9) ro9) hb9)) t9) A) ([.ref h, .int (nI t), .int (nI p7)] : List Value).toArray s 0 0 A) (F0 m 258 ls []) := by
    intro  H locs ls hP hD hS hl
    have n9l : n9 ≤ 256 := gr_le hsc hgr
    refine lv_iconst (v := 0) hx hb d_M_group_258 (by decide) ?_
    refine lv_istore_n hx hb d_M_group_259 rfl hl (by decide) rfl (fun ls hl => ?_)
    have hl : lv_has ls 6 [(3, .int 0), (1, .int (nI t)), (2, .int (nI p7)), (0, .ref h)] := hl
    have L260 : ∀ (k9 : Nat) (q : Nat) (q1 : q ≤ n9 * 64) (hk9 : n9 * 64 - q = k9), ∀ (H : Heap) (locs : List Loc) (ls : Array Slot) (hP : va_P D vwCl (MW dA h ad (MS.s_hasBefore (MS.s_rowOf (MS.s_valueLength (MS.s_isCell (MS.s_cells (MS.s_rowSeries (MS.s_tableRows x (va_up x.tableRows t n9)) rs9) (filG x.cells (t * 256 * 64) 0 q)) (filG x.isCell (t * 256 * 64) false q)) v9) ro9) hb9)) H) (hD : va_D A (MW dA h ad (MS.s_hasBefore (MS.s_rowOf (MS.s_valueLength (MS.s_isCell (MS.s_cells (MS.s_rowSeries (MS.s_tableRows x (va_up x.tableRows t n9)) rs9) (filG x.cells (t * 256 * 64) 0 q)) (filG x.isCell (t * 256 * 64) false q)) v9) ro9) hb9))) (hS : va_S A s.heap H locs) (hl : lv_has ls 6 [(3, .int (nI q)), (1, .int (nI t)), (2, .int (nI p7)), (0, .ref h)]), W p l e ({ frames := 3, cells := 0, slots := 0, locals := 61 } : Room) s m ([.ref h, .int (nI t), .int (nI p7)] : List Value).toArray below meth c H locs 0 0 (MQ below (va_Qv (fun (u9 : Unit) => True) (fun (u9 : Unit) t9 => bW D A (MW dA h ad (MS.s_hasBefore (MS.s_rowOf (MS.s_valueLength (MS.s_isCell (MS.s_cells (MS.s_rowSeries (MS.s_tableRows x (va_up x.tableRows t n9)) rs9) (filG x.cells (t * 256 * 64) 0 (n9 * 64))) (filG x.isCell (t * 256 * 64) false (n9 * 64))) v9) ro9) hb9)) t9) A) ([.ref h, .int (nI t), .int (nI p7)] : List Value).toArray s 0 0 A) (F0 m 260 ls []) := by
      intro k9
      induction k9 using Nat.strongRecOn with
      | ind k9 ih260 =>
        intro q q1 hk9 H locs ls hP hD hS hl
        refine lv_iload_n hx hb d_M_group_260 rfl (lv_at hl 0 rfl) ?_
        refine lv_aload_n hx hb d_M_group_261 rfl (lv_at hl 3 rfl) ?_
        refine gF (v := .ref (ad 51)) hx hb hown hE hK hP 0 rfl rfl layM 51 (by decide) w521 rfl d_M_group_262 ?_
        refine lv_iload_n hx hb d_M_group_265 rfl (lv_at hl 1 rfl) ?_
        refine nild (f := (fun z9 => nI ((va_up x.tableRows t n9) z9))) hx hb hK hP 24 1 rfl rfl (t) (by omega) (by decide) d_M_group_266 ?_
        refine tpi (y := nI n9) (congrArg nI (va_us _ _ _)) ?_
        refine lv_bipush (v := 64) hx hb d_M_group_267 (by decide) ?_
        refine lv_imul hx hb d_M_group_269 (tpi (y := nI (n9 * 64)) (pk_mul (n9) (64)) ?_)
        refine lv_icmp_ge hx hb d_M_group_270 (tgt := 311) rfl (fun g1 => ?_) (fun g1 => ?_)
        · have g1 := (nI_leI (a := n9 * 64) (b := q) (by omega) (by omega)).mp g1
          have e9 : (MS.s_hasBefore (MS.s_rowOf (MS.s_valueLength (MS.s_isCell (MS.s_cells (MS.s_rowSeries (MS.s_tableRows x (va_up x.tableRows t n9)) rs9) (filG x.cells (t * 256 * 64) 0 q)) (filG x.isCell (t * 256 * 64) false q)) v9) ro9) hb9 : MS) = MS.s_hasBefore (MS.s_rowOf (MS.s_valueLength (MS.s_isCell (MS.s_cells (MS.s_rowSeries (MS.s_tableRows x (va_up x.tableRows t n9)) rs9) (filG x.cells (t * 256 * 64) 0 (n9 * 64))) (filG x.isCell (t * 256 * 64) false (n9 * 64))) v9) ro9) hb9 := by rw [show (filG x.isCell (t * 256 * 64) false (n9 * 64)) = (filG x.isCell (t * 256 * 64) false q) from by (rw [show n9 * 64 = q by omega]), show (filG x.cells (t * 256 * 64) 0 (n9 * 64)) = (filG x.cells (t * 256 * 64) 0 q) from by (rw [show n9 * 64 = q by omega])] <;> rfl
          exact rfV hx hb hr hlk hS () trivial (cvP e9 hP) (cvD e9 hD) (Nat.le_of_ble_eq_true rfl) (Nat.le_of_ble_eq_true rfl) d_M_group_311
        · have g1 := mt (nI_leI (a := n9 * 64) (b := q) (by omega) (by omega)).mpr g1
          refine lv_aload_n hx hb d_M_group_273 rfl (lv_at hl 3 rfl) ?_
          refine gF (v := .ref (ad 54)) hx hb hown hE hK hP 0 rfl rfl layM 54 (by decide) w526 rfl d_M_group_274 ?_
          refine lv_iload_n hx hb d_M_group_277 rfl (lv_at hl 1 rfl) ?_
          refine lv_sipush (v := 256) hx hb d_M_group_278 (by decide) ?_
          refine lv_imul hx hb d_M_group_281 (tpi (y := nI (t * 256)) (pk_mul (t) (256)) ?_)
          refine lv_bipush (v := 64) hx hb d_M_group_282 (by decide) ?_
          refine lv_imul hx hb d_M_group_284 (tpi (y := nI ((t * 256) * 64)) (pk_mul (t * 256) (64)) ?_)
          refine lv_iload_n hx hb d_M_group_285 rfl (lv_at hl 0 rfl) ?_
          refine lv_iadd hx hb d_M_group_286 (tpi (y := nI (((t * 256) * 64) + q)) (nI_add ((t * 256) * 64) (q)) ?_)
          refine lv_iconst (v := 0) hx hb d_M_group_287 (by decide) ?_
          refine nzstB (v := false) hx hb hK hP hD hS 27 3 rfl rfl (((t * 256) * 64) + q) (by omega) (by decide) d_M_group_288 (fun H locs hP hD hS => ?_)
          have hP : va_P D vwCl (MW dA h ad (MS.s_hasBefore (MS.s_rowOf (MS.s_valueLength (MS.s_isCell (MS.s_cells (MS.s_rowSeries (MS.s_tableRows x (va_up x.tableRows t n9)) rs9) (filG x.cells (t * 256 * 64) 0 q)) (va_up (filG x.isCell (t * 256 * 64) false q) (((t * 256) * 64) + q) false)) v9) ro9) hb9)) H := hP
          have hD : va_D A (MW dA h ad (MS.s_hasBefore (MS.s_rowOf (MS.s_valueLength (MS.s_isCell (MS.s_cells (MS.s_rowSeries (MS.s_tableRows x (va_up x.tableRows t n9)) rs9) (filG x.cells (t * 256 * 64) 0 q)) (va_up (filG x.isCell (t * 256 * 64) false q) (((t * 256) * 64) + q) false)) v9) ro9) hb9)) := hD
          refine lv_aload_n hx hb d_M_group_289 rfl (lv_at hl 3 rfl) ?_
          refine gF (v := .ref (ad 53)) hx hb hown hE hK hP 0 rfl rfl layM 53 (by decide) w524 rfl d_M_group_290 ?_
          refine lv_iload_n hx hb d_M_group_293 rfl (lv_at hl 1 rfl) ?_
          refine lv_sipush (v := 256) hx hb d_M_group_294 (by decide) ?_
          refine lv_imul hx hb d_M_group_297 (tpi (y := nI (t * 256)) (pk_mul (t) (256)) ?_)
          refine lv_bipush (v := 64) hx hb d_M_group_298 (by decide) ?_
          refine lv_imul hx hb d_M_group_300 (tpi (y := nI ((t * 256) * 64)) (pk_mul (t * 256) (64)) ?_)
          refine lv_iload_n hx hb d_M_group_301 rfl (lv_at hl 0 rfl) ?_
          refine lv_iadd hx hb d_M_group_302 (tpi (y := nI (((t * 256) * 64) + q)) (nI_add ((t * 256) * 64) (q)) ?_)
          refine lv_lconst (v := 0) hx hb d_M_group_303 (by decide) ?_
          refine nlst hx hb hK hP hD hS 26 2 rfl rfl (((t * 256) * 64) + q) (by omega) (by decide) d_M_group_304 (fun H locs hP hD hS => ?_)
          have hP : va_P D vwCl (MW dA h ad (MS.s_hasBefore (MS.s_rowOf (MS.s_valueLength (MS.s_isCell (MS.s_cells (MS.s_rowSeries (MS.s_tableRows x (va_up x.tableRows t n9)) rs9) (va_up (filG x.cells (t * 256 * 64) 0 q) (((t * 256) * 64) + q) 0)) (va_up (filG x.isCell (t * 256 * 64) false q) (((t * 256) * 64) + q) false)) v9) ro9) hb9)) H := hP
          have hD : va_D A (MW dA h ad (MS.s_hasBefore (MS.s_rowOf (MS.s_valueLength (MS.s_isCell (MS.s_cells (MS.s_rowSeries (MS.s_tableRows x (va_up x.tableRows t n9)) rs9) (va_up (filG x.cells (t * 256 * 64) 0 q) (((t * 256) * 64) + q) 0)) (va_up (filG x.isCell (t * 256 * 64) false q) (((t * 256) * 64) + q) false)) v9) ro9) hb9)) := hD
          refine lv_iinc (k := 0) (v := nI (q + 1)) hx hb d_M_group_305 hl rfl (iincN (q) 1 1 (by decide)) (by decide) rfl (fun ls hl => ?_)
          have hl : lv_has ls 6 [(3, .int (nI (q + 1))), (1, .int (nI t)), (2, .int (nI p7)), (0, .ref h)] := hl
          refine lv_goto hx hb d_M_group_308 (tgt := 260) rfl ?_
          exact ih260 _ (by omega) (q + 1) (by omega) rfl H _ ls hP hD hS (lv_sub hl [0, 1, 2, 3] rfl)
    exact L260 _ 0 (Nat.zero_le _) rfl H _ ls hP hD hS (lv_sub hl [0, 1, 2, 3] rfl)
  refine lv_iconst (v := 0) hx hb d_M_group_7 (by decide) ?_
  refine lv_istore_n hx hb d_M_group_8 rfl hl (by decide) rfl (fun ls hl => ?_)
  have hl : lv_has ls 6 [(3, .int 0), (0, .ref h), (1, .int (nI t)), (2, .int (nI p7))] := hl
  have L9 : ∀ (k9 : Nat) (k : Nat) (n : Nat) (rs : Nat → Nat) (ro : Nat → Int32) (b7 : Nat → Bool) (v : Nat) (i1 : k ≤ x.seriesCount) (i2 : x.grG t p7 k = (n, rs, ro, b7, v)) (i3 : n ≤ k) (i4 : ∀ q : Nat, q < n → rs (256 * t + q) < k) (hk9 : x.seriesCount - k = k9), ∀ (H : Heap) (locs : List Loc) (ls : Array Slot) (hP : va_P D vwCl (MW dA h ad (MS.s_hasBefore (MS.s_rowOf (MS.s_valueLength (MS.s_rowSeries (MS.s_tableRows x (va_up x.tableRows t n)) rs) v) ro) b7)) H) (hD : va_D A (MW dA h ad (MS.s_hasBefore (MS.s_rowOf (MS.s_valueLength (MS.s_rowSeries (MS.s_tableRows x (va_up x.tableRows t n)) rs) v) ro) b7))) (hS : va_S A s.heap H locs) (hl : lv_has ls 6 [(3, .int (nI k)), (1, .int (nI t)), (2, .int (nI p7)), (0, .ref h)]), W p l e ({ frames := 3, cells := 0, slots := 0, locals := 61 } : Room) s m ([.ref h, .int (nI t), .int (nI p7)] : List Value).toArray below meth c H locs 0 0 (MQ below (va_Qv (fun (u9 : Unit) => True) (fun (u9 : Unit) t9 => bW D A (MW dA h ad (MS.s_hasBefore (MS.s_rowOf (MS.s_valueLength (MS.s_isCell (MS.s_cells (MS.s_rowSeries (MS.s_tableRows x (va_up x.tableRows t n9)) rs9) (filG x.cells (t * 256 * 64) 0 (n9 * 64))) (filG x.isCell (t * 256 * 64) false (n9 * 64))) v9) ro9) hb9)) t9) A) ([.ref h, .int (nI t), .int (nI p7)] : List Value).toArray s 0 0 A) (F0 m 9 ls []) := by
    intro k9
    induction k9 using Nat.strongRecOn with
    | ind k9 ih9 =>
      intro k n rs ro b7 v i1 i2 i3 i4 hk9 H locs ls hP hD hS hl
      refine lv_iload_n hx hb d_M_group_9 rfl (lv_at hl 0 rfl) ?_
      refine lv_aload_n hx hb d_M_group_10 rfl (lv_at hl 3 rfl) ?_
      refine gF (v := .int (nI x.seriesCount)) hx hb hown hE hK hP 0 rfl rfl layM 12 (by decide) w332 rfl d_M_group_11 ?_
      refine lv_icmp_ge hx hb d_M_group_14 (tgt := 258) rfl (fun g2 => ?_) (fun g2 => ?_)
      · have g2 := (nI_leI (a := x.seriesCount) (b := k) (by omega) (by omega)).mp g2
        have e9 : (MS.s_hasBefore (MS.s_rowOf (MS.s_valueLength (MS.s_rowSeries (MS.s_tableRows x (va_up x.tableRows t n)) rs) v) ro) b7 : MS) = MS.s_hasBefore (MS.s_rowOf (MS.s_valueLength (MS.s_rowSeries (MS.s_tableRows x (va_up x.tableRows t n9)) rs9) v9) ro9) hb9 := by rw [show (va_up x.tableRows t n9) = (va_up x.tableRows t n) from (by rw [show n9 = n from congrArg (fun z => z.1) (hgr.symm.trans ((congrArg (x.grG t p7) (show x.seriesCount = k by omega)).trans i2))]), show hb9 = b7 from (congrArg (fun z => z.2.2.2.1) (hgr.symm.trans ((congrArg (x.grG t p7) (show x.seriesCount = k by omega)).trans i2))), show ro9 = ro from (congrArg (fun z => z.2.2.1) (hgr.symm.trans ((congrArg (x.grG t p7) (show x.seriesCount = k by omega)).trans i2))), show rs9 = rs from (congrArg (fun z => z.2.1) (hgr.symm.trans ((congrArg (x.grG t p7) (show x.seriesCount = k by omega)).trans i2))), show v9 = v from (congrArg (fun z => z.2.2.2.2) (hgr.symm.trans ((congrArg (x.grG t p7) (show x.seriesCount = k by omega)).trans i2)))] <;> rfl
        exact J258  H _ ls (cvP e9 hP) (cvD e9 hD) hS (lv_sub hl [1, 2, 3] rfl)
      · have g2 := mt (nI_leI (a := x.seriesCount) (b := k) (by omega) (by omega)).mpr g2
        refine lv_aload_n hx hb d_M_group_17 rfl (lv_at hl 3 rfl) ?_
        refine gF (v := .ref (ad 61)) hx hb hown hE hK hP 0 rfl rfl layM 61 (by decide) w527 rfl d_M_group_18 ?_
        refine lv_iload_n hx hb d_M_group_21 rfl (lv_at hl 0 rfl) ?_
        refine lv_iconst (v := (-1)) hx hb d_M_group_22 (by decide) ?_
        refine nist hx hb hK hP hD hS 28 1 rfl rfl (k) (by omega) (by decide) d_M_group_23 (fun H locs hP hD hS => ?_)
        have hP : va_P D vwCl (MW dA h ad (MS.s_hasBefore (MS.s_rowOf (MS.s_valueLength (MS.s_rowSeries (MS.s_tableRows x (va_up x.tableRows t n)) rs) v) (va_up ro k (-1))) b7)) H := hP
        have hD : va_D A (MW dA h ad (MS.s_hasBefore (MS.s_rowOf (MS.s_valueLength (MS.s_rowSeries (MS.s_tableRows x (va_up x.tableRows t n)) rs) v) (va_up ro k (-1))) b7)) := hD
        refine lv_aload_n hx hb d_M_group_24 rfl (lv_at hl 3 rfl) ?_
        refine gF (v := .ref (ad 65)) hx hb hown hE hK hP 0 rfl rfl layM 65 (by decide) w531 rfl d_M_group_25 ?_
        refine lv_iload_n hx hb d_M_group_28 rfl (lv_at hl 0 rfl) ?_
        refine lv_iconst (v := 0) hx hb d_M_group_29 (by decide) ?_
        refine nzstB (v := false) hx hb hK hP hD hS 32 3 rfl rfl (k) (by omega) (by decide) d_M_group_30 (fun H locs hP hD hS => ?_)
        have hP : va_P D vwCl (MW dA h ad (MS.s_hasBefore (MS.s_rowOf (MS.s_valueLength (MS.s_rowSeries (MS.s_tableRows x (va_up x.tableRows t n)) rs) v) (va_up ro k (-1))) (va_up b7 k false))) H := hP
        have hD : va_D A (MW dA h ad (MS.s_hasBefore (MS.s_rowOf (MS.s_valueLength (MS.s_rowSeries (MS.s_tableRows x (va_up x.tableRows t n)) rs) v) (va_up ro k (-1))) (va_up b7 k false))) := hD
        have J43 : ∀ (v2 : Nat) (e1 : (MS.s_valueLength x v).mt k p7 = (true, v2)), ∀ (H : Heap) (locs : List Loc) (ls : Array Slot) (hP : va_P D vwCl (MW dA h ad (MS.s_hasBefore (MS.s_rowOf (MS.s_valueLength (MS.s_rowSeries (MS.s_tableRows x (va_up x.tableRows t n)) rs) v2) (va_up ro k (-1))) (va_up b7 k false))) H) (hD : va_D A (MW dA h ad (MS.s_hasBefore (MS.s_rowOf (MS.s_valueLength (MS.s_rowSeries (MS.s_tableRows x (va_up x.tableRows t n)) rs) v2) (va_up ro k (-1))) (va_up b7 k false)))) (hS : va_S A s.heap H locs) (hl : lv_has ls 6 [(3, .int (nI k)), (1, .int (nI t)), (2, .int (nI p7)), (0, .ref h)]), W p l e ({ frames := 3, cells := 0, slots := 0, locals := 61 } : Room) s m ([.ref h, .int (nI t), .int (nI p7)] : List Value).toArray below meth c H locs 0 0 (MQ below (va_Qv (fun (u9 : Unit) => True) (fun (u9 : Unit) t9 => bW D A (MW dA h ad (MS.s_hasBefore (MS.s_rowOf (MS.s_valueLength (MS.s_isCell (MS.s_cells (MS.s_rowSeries (MS.s_tableRows x (va_up x.tableRows t n9)) rs9) (filG x.cells (t * 256 * 64) 0 (n9 * 64))) (filG x.isCell (t * 256 * 64) false (n9 * 64))) v9) ro9) hb9)) t9) A) ([.ref h, .int (nI t), .int (nI p7)] : List Value).toArray s 0 0 A) (F0 m 43 ls []) := by
          intro v2 e1 H locs ls hP hD hS hl
          have J85 : ∀ (r : Nat) (v3 : Nat) (f1 : x.fr t k rs n (n + 1) 0 v2 = (r, v3)) (f2 : r ≤ n), ∀ (H : Heap) (locs : List Loc) (ls : Array Slot) (hP : va_P D vwCl (MW dA h ad (MS.s_hasBefore (MS.s_rowOf (MS.s_valueLength (MS.s_rowSeries (MS.s_tableRows x (va_up x.tableRows t n)) rs) v3) (va_up ro k (-1))) (va_up b7 k false))) H) (hD : va_D A (MW dA h ad (MS.s_hasBefore (MS.s_rowOf (MS.s_valueLength (MS.s_rowSeries (MS.s_tableRows x (va_up x.tableRows t n)) rs) v3) (va_up ro k (-1))) (va_up b7 k false)))) (hS : va_S A s.heap H locs) (hl : lv_has ls 6 [(4, .int (nI r)), (3, .int (nI k)), (1, .int (nI t)), (2, .int (nI p7)), (0, .ref h)]), W p l e ({ frames := 3, cells := 0, slots := 0, locals := 61 } : Room) s m ([.ref h, .int (nI t), .int (nI p7)] : List Value).toArray below meth c H locs 0 0 (MQ below (va_Qv (fun (u9 : Unit) => True) (fun (u9 : Unit) t9 => bW D A (MW dA h ad (MS.s_hasBefore (MS.s_rowOf (MS.s_valueLength (MS.s_isCell (MS.s_cells (MS.s_rowSeries (MS.s_tableRows x (va_up x.tableRows t n9)) rs9) (filG x.cells (t * 256 * 64) 0 (n9 * 64))) (filG x.isCell (t * 256 * 64) false (n9 * 64))) v9) ro9) hb9)) t9) A) ([.ref h, .int (nI t), .int (nI p7)] : List Value).toArray s 0 0 A) (F0 m 85 ls []) := by
            intro r v3 f1 f2 H locs ls hP hD hS hl
            have J118 : ∀ (v4 : Nat) (gi1 : x.gi t k rs n r v3 = (true, v4)), ∀ (H : Heap) (locs : List Loc) (ls : Array Slot) (hP : va_P D vwCl (MW dA h ad (MS.s_hasBefore (MS.s_rowOf (MS.s_valueLength (MS.s_rowSeries (MS.s_tableRows x (va_up x.tableRows t n)) rs) v4) (va_up ro k (-1))) (va_up b7 k false))) H) (hD : va_D A (MW dA h ad (MS.s_hasBefore (MS.s_rowOf (MS.s_valueLength (MS.s_rowSeries (MS.s_tableRows x (va_up x.tableRows t n)) rs) v4) (va_up ro k (-1))) (va_up b7 k false)))) (hS : va_S A s.heap H locs) (hl : lv_has ls 6 [(4, .int (nI r)), (3, .int (nI k)), (1, .int (nI t)), (2, .int (nI p7)), (0, .ref h)]), W p l e ({ frames := 3, cells := 0, slots := 0, locals := 61 } : Room) s m ([.ref h, .int (nI t), .int (nI p7)] : List Value).toArray below meth c H locs 0 0 (MQ below (va_Qv (fun (u9 : Unit) => True) (fun (u9 : Unit) t9 => bW D A (MW dA h ad (MS.s_hasBefore (MS.s_rowOf (MS.s_valueLength (MS.s_isCell (MS.s_cells (MS.s_rowSeries (MS.s_tableRows x (va_up x.tableRows t n9)) rs9) (filG x.cells (t * 256 * 64) 0 (n9 * 64))) (filG x.isCell (t * 256 * 64) false (n9 * 64))) v9) ro9) hb9)) t9) A) ([.ref h, .int (nI t), .int (nI p7)] : List Value).toArray s 0 0 A) (F0 m 118 ls []) := by
              intro v4 gi1 H locs ls hP hD hS hl
              have J167 : ∀ (H : Heap) (locs : List Loc) (ls : Array Slot) (hP : va_P D vwCl (MW dA h ad (MS.s_hasBefore (MS.s_rowOf (MS.s_valueLength (MS.s_rowSeries (MS.s_tableRows x (va_up x.tableRows t n)) (shR rs (256 * t) n (n - r))) v4) (va_up ro k (-1))) (va_up b7 k false))) H) (hD : va_D A (MW dA h ad (MS.s_hasBefore (MS.s_rowOf (MS.s_valueLength (MS.s_rowSeries (MS.s_tableRows x (va_up x.tableRows t n)) (shR rs (256 * t) n (n - r))) v4) (va_up ro k (-1))) (va_up b7 k false)))) (hS : va_S A s.heap H locs) (hl : lv_has ls 6 [(4, .int (nI r)), (3, .int (nI k)), (1, .int (nI t)), (2, .int (nI p7)), (0, .ref h)]), W p l e ({ frames := 3, cells := 0, slots := 0, locals := 61 } : Room) s m ([.ref h, .int (nI t), .int (nI p7)] : List Value).toArray below meth c H locs 0 0 (MQ below (va_Qv (fun (u9 : Unit) => True) (fun (u9 : Unit) t9 => bW D A (MW dA h ad (MS.s_hasBefore (MS.s_rowOf (MS.s_valueLength (MS.s_isCell (MS.s_cells (MS.s_rowSeries (MS.s_tableRows x (va_up x.tableRows t n9)) rs9) (filG x.cells (t * 256 * 64) 0 (n9 * 64))) (filG x.isCell (t * 256 * 64) false (n9 * 64))) v9) ro9) hb9)) t9) A) ([.ref h, .int (nI t), .int (nI p7)] : List Value).toArray s 0 0 A) (F0 m 167 ls []) := by
                intro  H locs ls hP hD hS hl
                refine lv_iconst (v := 0) hx hb d_M_group_167 (by decide) ?_
                refine lv_istore hx hb d_M_group_168 hl (by decide) rfl (fun ls hl => ?_)
                have hl : lv_has ls 6 [(5, .int 0), (4, .int (nI r)), (3, .int (nI k)), (1, .int (nI t)), (2, .int (nI p7)), (0, .ref h)] := hl
                have L170 : ∀ (k9 : Nat) (q : Nat) (q1 : q ≤ k) (hk9 : k - q = k9), ∀ (H : Heap) (locs : List Loc) (ls : Array Slot) (hP : va_P D vwCl (MW dA h ad (MS.s_hasBefore (MS.s_rowOf (MS.s_valueLength (MS.s_rowSeries (MS.s_tableRows x (va_up x.tableRows t n)) (shR rs (256 * t) n (n - r))) v4) (mapT q (bmF (va_up ro k (-1)) r) (bmG (va_up ro k (-1))) (va_up ro k (-1)))) (va_up b7 k false))) H) (hD : va_D A (MW dA h ad (MS.s_hasBefore (MS.s_rowOf (MS.s_valueLength (MS.s_rowSeries (MS.s_tableRows x (va_up x.tableRows t n)) (shR rs (256 * t) n (n - r))) v4) (mapT q (bmF (va_up ro k (-1)) r) (bmG (va_up ro k (-1))) (va_up ro k (-1)))) (va_up b7 k false)))) (hS : va_S A s.heap H locs) (hl : lv_has ls 6 [(5, .int (nI q)), (4, .int (nI r)), (3, .int (nI k)), (1, .int (nI t)), (2, .int (nI p7)), (0, .ref h)]), W p l e ({ frames := 3, cells := 0, slots := 0, locals := 61 } : Room) s m ([.ref h, .int (nI t), .int (nI p7)] : List Value).toArray below meth c H locs 0 0 (MQ below (va_Qv (fun (u9 : Unit) => True) (fun (u9 : Unit) t9 => bW D A (MW dA h ad (MS.s_hasBefore (MS.s_rowOf (MS.s_valueLength (MS.s_isCell (MS.s_cells (MS.s_rowSeries (MS.s_tableRows x (va_up x.tableRows t n9)) rs9) (filG x.cells (t * 256 * 64) 0 (n9 * 64))) (filG x.isCell (t * 256 * 64) false (n9 * 64))) v9) ro9) hb9)) t9) A) ([.ref h, .int (nI t), .int (nI p7)] : List Value).toArray s 0 0 A) (F0 m 170 ls []) := by
                  intro k9
                  induction k9 using Nat.strongRecOn with
                  | ind k9 ih170 =>
                    intro q q1 hk9 H locs ls hP hD hS hl
                    refine lv_iload hx hb d_M_group_170 (lv_at hl 0 rfl) ?_
                    refine lv_iload_n hx hb d_M_group_172 rfl (lv_at hl 2 rfl) ?_
                    refine lv_icmp_ge hx hb d_M_group_173 (tgt := 220) rfl (fun g3 => ?_) (fun g3 => ?_)
                    · have g3 := (nI_leI (a := k) (b := q) (by omega) (by omega)).mp g3
                      refine lv_aload_n hx hb d_M_group_220 rfl (lv_at hl 5 rfl) ?_
                      refine gF (v := .ref (ad 52)) hx hb hown hE hK hP 0 rfl rfl layM 52 (by decide) w522 rfl d_M_group_221 ?_
                      refine lv_sipush (v := 256) hx hb d_M_group_224 (by decide) ?_
                      refine lv_iload_n hx hb d_M_group_227 rfl (lv_at hl 3 rfl) ?_
                      refine lv_imul hx hb d_M_group_228 (tpi (y := nI (256 * t)) (pk_mul (256) (t)) ?_)
                      refine lv_iload hx hb d_M_group_229 (lv_at hl 1 rfl) ?_
                      refine lv_iadd hx hb d_M_group_231 (tpi (y := nI ((256 * t) + r)) (nI_add (256 * t) (r)) ?_)
                      refine lv_iload_n hx hb d_M_group_232 rfl (lv_at hl 2 rfl) ?_
                      refine nistN (v := k) hx hb hK hP hD hS 25 1 rfl rfl ((256 * t) + r) (by omega) (by decide) d_M_group_233 (fun H locs hP hD hS => ?_)
                      have hP : va_P D vwCl (MW dA h ad (MS.s_hasBefore (MS.s_rowOf (MS.s_valueLength (MS.s_rowSeries (MS.s_tableRows x (va_up x.tableRows t n)) (va_up (shR rs (256 * t) n (n - r)) ((256 * t) + r) k)) v4) (mapT q (bmF (va_up ro k (-1)) r) (bmG (va_up ro k (-1))) (va_up ro k (-1)))) (va_up b7 k false))) H := hP
                      have hD : va_D A (MW dA h ad (MS.s_hasBefore (MS.s_rowOf (MS.s_valueLength (MS.s_rowSeries (MS.s_tableRows x (va_up x.tableRows t n)) (va_up (shR rs (256 * t) n (n - r)) ((256 * t) + r) k)) v4) (mapT q (bmF (va_up ro k (-1)) r) (bmG (va_up ro k (-1))) (va_up ro k (-1)))) (va_up b7 k false))) := hD
                      refine lv_aload_n hx hb d_M_group_234 rfl (lv_at hl 5 rfl) ?_
                      refine gF (v := .ref (ad 51)) hx hb hown hE hK hP 0 rfl rfl layM 51 (by decide) w521 rfl d_M_group_235 ?_
                      refine lv_iload_n hx hb d_M_group_238 rfl (lv_at hl 3 rfl) ?_
                      refine lv_dup2_11 hx hb d_M_group_239 rfl rfl ?_
                      refine nild (f := (fun z9 => nI ((va_up x.tableRows t n) z9))) hx hb hK hP 24 1 rfl rfl (t) (by omega) (by decide) d_M_group_240 ?_
                      refine tpi (y := nI n) (congrArg nI (va_us _ _ _)) ?_
                      refine lv_iconst (v := 1) hx hb d_M_group_241 (by decide) ?_
                      refine lv_iadd hx hb d_M_group_242 (tpi (y := nI (n + 1)) (nI_add (n) (1)) ?_)
                      refine nistN (v := n + 1) hx hb hK hP hD hS 24 1 rfl rfl (t) (by omega) (by decide) d_M_group_243 (fun H locs hP hD hS => ?_)
                      have hP : va_P D vwCl (MW dA h ad (MS.s_hasBefore (MS.s_rowOf (MS.s_valueLength (MS.s_rowSeries (MS.s_tableRows x (va_up (va_up x.tableRows t n) t (n + 1))) (va_up (shR rs (256 * t) n (n - r)) ((256 * t) + r) k)) v4) (mapT q (bmF (va_up ro k (-1)) r) (bmG (va_up ro k (-1))) (va_up ro k (-1)))) (va_up b7 k false))) H := hP
                      have hD : va_D A (MW dA h ad (MS.s_hasBefore (MS.s_rowOf (MS.s_valueLength (MS.s_rowSeries (MS.s_tableRows x (va_up (va_up x.tableRows t n) t (n + 1))) (va_up (shR rs (256 * t) n (n - r)) ((256 * t) + r) k)) v4) (mapT q (bmF (va_up ro k (-1)) r) (bmG (va_up ro k (-1))) (va_up ro k (-1)))) (va_up b7 k false))) := hD
                      refine lv_aload_n hx hb d_M_group_244 rfl (lv_at hl 5 rfl) ?_
                      refine gF (v := .ref (ad 61)) hx hb hown hE hK hP 0 rfl rfl layM 61 (by decide) w527 rfl d_M_group_245 ?_
                      refine lv_iload_n hx hb d_M_group_248 rfl (lv_at hl 2 rfl) ?_
                      refine lv_iload hx hb d_M_group_249 (lv_at hl 1 rfl) ?_
                      refine nist hx hb hK hP hD hS 28 1 rfl rfl (k) (by omega) (by decide) d_M_group_251 (fun H locs hP hD hS => ?_)
                      have hP : va_P D vwCl (MW dA h ad (MS.s_hasBefore (MS.s_rowOf (MS.s_valueLength (MS.s_rowSeries (MS.s_tableRows x (va_up (va_up x.tableRows t n) t (n + 1))) (va_up (shR rs (256 * t) n (n - r)) ((256 * t) + r) k)) v4) (va_up (mapT q (bmF (va_up ro k (-1)) r) (bmG (va_up ro k (-1))) (va_up ro k (-1))) k (nI r))) (va_up b7 k false))) H := hP
                      have hD : va_D A (MW dA h ad (MS.s_hasBefore (MS.s_rowOf (MS.s_valueLength (MS.s_rowSeries (MS.s_tableRows x (va_up (va_up x.tableRows t n) t (n + 1))) (va_up (shR rs (256 * t) n (n - r)) ((256 * t) + r) k)) v4) (va_up (mapT q (bmF (va_up ro k (-1)) r) (bmG (va_up ro k (-1))) (va_up ro k (-1))) k (nI r))) (va_up b7 k false))) := hD
                      refine lv_iinc (k := 2) (v := nI (k + 1)) hx hb d_M_group_252 hl rfl (iincN (k) 1 1 (by decide)) (by decide) rfl (fun ls hl => ?_)
                      have hl : lv_has ls 6 [(3, .int (nI (k + 1))), (5, .int (nI q)), (4, .int (nI r)), (1, .int (nI t)), (2, .int (nI p7)), (0, .ref h)] := hl
                      refine lv_goto hx hb d_M_group_255 (tgt := 9) rfl ?_
                      have e9 : (MS.s_hasBefore (MS.s_rowOf (MS.s_valueLength (MS.s_rowSeries (MS.s_tableRows x (va_up (va_up x.tableRows t n) t (n + 1))) (va_up (shR rs (256 * t) n (n - r)) ((256 * t) + r) k)) v4) (va_up (mapT q (bmF (va_up ro k (-1)) r) (bmG (va_up ro k (-1))) (va_up ro k (-1))) k (nI r))) (va_up b7 k false) : MS) = MS.s_hasBefore (MS.s_rowOf (MS.s_valueLength (MS.s_rowSeries (MS.s_tableRows x (va_up x.tableRows t (n + 1))) (va_up (shR rs (256 * t) n (n - r)) ((256 * t) + r) k)) v4) (va_up (mapT q (bmF (va_up ro k (-1)) r) (bmG (va_up ro k (-1))) (va_up ro k (-1))) k (nI r))) (va_up b7 k false) := by rw [show (va_up x.tableRows t (n + 1)) = (va_up (va_up x.tableRows t n) t (n + 1)) from (by first | rfl | exact (va_uu _ _ _ _).symm)] <;> rfl
                      exact ih9 _ (by omega) (k + 1) (n + 1) (va_up (shR rs (256 * t) n (n - r)) ((256 * t) + r) k) (va_up (mapT q (bmF (va_up ro k (-1)) r) (bmG (va_up ro k (-1))) (va_up ro k (-1))) k (nI r)) (va_up b7 k false) v4 (by omega) (by rw [show q = k by omega]; exact (gr_y i2 e1 f1).trans (grN_new gi1)) (by omega) (sh_lt i4 f2) rfl H _ ls (cvP e9 hP) (cvD e9 hD) hS (lv_sub hl [0, 3, 4, 5] rfl)
                    · have g3 := mt (nI_leI (a := k) (b := q) (by omega) (by omega)).mpr g3
                      refine lv_aload_n hx hb d_M_group_176 rfl (lv_at hl 5 rfl) ?_
                      refine gF (v := .ref (ad 61)) hx hb hown hE hK hP 0 rfl rfl layM 61 (by decide) w527 rfl d_M_group_177 ?_
                      refine lv_iload hx hb d_M_group_180 (lv_at hl 0 rfl) ?_
                      refine lv_aload_n hx hb d_M_group_182 rfl (lv_at hl 5 rfl) ?_
                      refine gF (v := .ref (ad 61)) hx hb hown hE hK hP 0 rfl rfl layM 61 (by decide) w527 rfl d_M_group_183 ?_
                      refine lv_iload hx hb d_M_group_186 (lv_at hl 0 rfl) ?_
                      refine nild (f := (mapT q (bmF (va_up ro k (-1)) r) (bmG (va_up ro k (-1))) (va_up ro k (-1)))) hx hb hK hP 28 1 rfl rfl (q) (by omega) (by decide) d_M_group_188 ?_
                      refine tpi (y := ((va_up ro k (-1)) q)) (mapT_at _ _ _ (Nat.le_refl _)) ?_
                      refine lv_iload hx hb d_M_group_189 (lv_at hl 1 rfl) ?_
                      refine lv_icmp_lt hx hb d_M_group_191 (tgt := 206) rfl (fun g4 => ?_) (fun g4 => ?_)
                      · have g4 := g4
                        refine lv_aload_n hx hb d_M_group_206 rfl (lv_at hl 5 rfl) ?_
                        refine gF (v := .ref (ad 61)) hx hb hown hE hK hP 0 rfl rfl layM 61 (by decide) w527 rfl d_M_group_207 ?_
                        refine lv_iload hx hb d_M_group_210 (lv_at hl 0 rfl) ?_
                        refine nild (f := (mapT q (bmF (va_up ro k (-1)) r) (bmG (va_up ro k (-1))) (va_up ro k (-1)))) hx hb hK hP 28 1 rfl rfl (q) (by omega) (by decide) d_M_group_212 ?_
                        refine tpi (y := ((va_up ro k (-1)) q)) (mapT_at _ _ _ (Nat.le_refl _)) ?_
                        refine nist hx hb hK hP hD hS 28 1 rfl rfl (q) (by omega) (by decide) d_M_group_213 (fun H locs hP hD hS => ?_)
                        have hP : va_P D vwCl (MW dA h ad (MS.s_hasBefore (MS.s_rowOf (MS.s_valueLength (MS.s_rowSeries (MS.s_tableRows x (va_up x.tableRows t n)) (shR rs (256 * t) n (n - r))) v4) (va_up (mapT q (bmF (va_up ro k (-1)) r) (bmG (va_up ro k (-1))) (va_up ro k (-1))) q ((va_up ro k (-1)) q))) (va_up b7 k false))) H := hP
                        have hD : va_D A (MW dA h ad (MS.s_hasBefore (MS.s_rowOf (MS.s_valueLength (MS.s_rowSeries (MS.s_tableRows x (va_up x.tableRows t n)) (shR rs (256 * t) n (n - r))) v4) (va_up (mapT q (bmF (va_up ro k (-1)) r) (bmG (va_up ro k (-1))) (va_up ro k (-1))) q ((va_up ro k (-1)) q))) (va_up b7 k false))) := hD
                        refine lv_iinc (k := 0) (v := nI (q + 1)) hx hb d_M_group_214 hl rfl (iincN (q) 1 1 (by decide)) (by decide) rfl (fun ls hl => ?_)
                        have hl : lv_has ls 6 [(5, .int (nI (q + 1))), (4, .int (nI r)), (3, .int (nI k)), (1, .int (nI t)), (2, .int (nI p7)), (0, .ref h)] := hl
                        refine lv_goto hx hb d_M_group_217 (tgt := 170) rfl ?_
                        have e9 : (MS.s_hasBefore (MS.s_rowOf (MS.s_valueLength (MS.s_rowSeries (MS.s_tableRows x (va_up x.tableRows t n)) (shR rs (256 * t) n (n - r))) v4) (va_up (mapT q (bmF (va_up ro k (-1)) r) (bmG (va_up ro k (-1))) (va_up ro k (-1))) q ((va_up ro k (-1)) q))) (va_up b7 k false) : MS) = MS.s_hasBefore (MS.s_rowOf (MS.s_valueLength (MS.s_rowSeries (MS.s_tableRows x (va_up x.tableRows t n)) (shR rs (256 * t) n (n - r))) v4) (mapT (q + 1) (bmF (va_up ro k (-1)) r) (bmG (va_up ro k (-1))) (va_up ro k (-1)))) (va_up b7 k false) := by rw [show (mapT (q + 1) (bmF (va_up ro k (-1)) r) (bmG (va_up ro k (-1))) (va_up ro k (-1))) = (va_up (mapT q (bmF (va_up ro k (-1)) r) (bmG (va_up ro k (-1))) (va_up ro k (-1))) q ((va_up ro k (-1)) q)) from (mapT_u (by show (!decide _) = false; rw [decide_eq_true g4]; rfl) rfl)] <;> rfl
                        exact ih170 _ (by omega) (q + 1) (by omega) rfl H _ ls (cvP e9 hP) (cvD e9 hD) hS (lv_sub hl [0, 1, 2, 3, 4, 5] rfl)
                      · have g4 := g4
                        refine lv_aload_n hx hb d_M_group_194 rfl (lv_at hl 5 rfl) ?_
                        refine gF (v := .ref (ad 61)) hx hb hown hE hK hP 0 rfl rfl layM 61 (by decide) w527 rfl d_M_group_195 ?_
                        refine lv_iload hx hb d_M_group_198 (lv_at hl 0 rfl) ?_
                        refine nild (f := (mapT q (bmF (va_up ro k (-1)) r) (bmG (va_up ro k (-1))) (va_up ro k (-1)))) hx hb hK hP 28 1 rfl rfl (q) (by omega) (by decide) d_M_group_200 ?_
                        refine tpi (y := ((va_up ro k (-1)) q)) (mapT_at _ _ _ (Nat.le_refl _)) ?_
                        refine lv_iconst (v := 1) hx hb d_M_group_201 (by decide) ?_
                        refine lv_iadd hx hb d_M_group_202 ?_
                        refine lv_goto hx hb d_M_group_203 (tgt := 213) rfl ?_
                        refine nist hx hb hK hP hD hS 28 1 rfl rfl (q) (by omega) (by decide) d_M_group_213 (fun H locs hP hD hS => ?_)
                        have hP : va_P D vwCl (MW dA h ad (MS.s_hasBefore (MS.s_rowOf (MS.s_valueLength (MS.s_rowSeries (MS.s_tableRows x (va_up x.tableRows t n)) (shR rs (256 * t) n (n - r))) v4) (va_up (mapT q (bmF (va_up ro k (-1)) r) (bmG (va_up ro k (-1))) (va_up ro k (-1))) q (((va_up ro k (-1)) q) + 1))) (va_up b7 k false))) H := hP
                        have hD : va_D A (MW dA h ad (MS.s_hasBefore (MS.s_rowOf (MS.s_valueLength (MS.s_rowSeries (MS.s_tableRows x (va_up x.tableRows t n)) (shR rs (256 * t) n (n - r))) v4) (va_up (mapT q (bmF (va_up ro k (-1)) r) (bmG (va_up ro k (-1))) (va_up ro k (-1))) q (((va_up ro k (-1)) q) + 1))) (va_up b7 k false))) := hD
                        refine lv_iinc (k := 0) (v := nI (q + 1)) hx hb d_M_group_214 hl rfl (iincN (q) 1 1 (by decide)) (by decide) rfl (fun ls hl => ?_)
                        have hl : lv_has ls 6 [(5, .int (nI (q + 1))), (4, .int (nI r)), (3, .int (nI k)), (1, .int (nI t)), (2, .int (nI p7)), (0, .ref h)] := hl
                        refine lv_goto hx hb d_M_group_217 (tgt := 170) rfl ?_
                        have e9 : (MS.s_hasBefore (MS.s_rowOf (MS.s_valueLength (MS.s_rowSeries (MS.s_tableRows x (va_up x.tableRows t n)) (shR rs (256 * t) n (n - r))) v4) (va_up (mapT q (bmF (va_up ro k (-1)) r) (bmG (va_up ro k (-1))) (va_up ro k (-1))) q (((va_up ro k (-1)) q) + 1))) (va_up b7 k false) : MS) = MS.s_hasBefore (MS.s_rowOf (MS.s_valueLength (MS.s_rowSeries (MS.s_tableRows x (va_up x.tableRows t n)) (shR rs (256 * t) n (n - r))) v4) (mapT (q + 1) (bmF (va_up ro k (-1)) r) (bmG (va_up ro k (-1))) (va_up ro k (-1)))) (va_up b7 k false) := by rw [show (mapT (q + 1) (bmF (va_up ro k (-1)) r) (bmG (va_up ro k (-1))) (va_up ro k (-1))) = (va_up (mapT q (bmF (va_up ro k (-1)) r) (bmG (va_up ro k (-1))) (va_up ro k (-1))) q (((va_up ro k (-1)) q) + 1)) from (mapT_t (by show (!decide _) = true; rw [decide_eq_false g4]; rfl) rfl)] <;> rfl
                        exact ih170 _ (by omega) (q + 1) (by omega) rfl H _ ls (cvP e9 hP) (cvD e9 hD) hS (lv_sub hl [0, 1, 2, 3, 4, 5] rfl)
                have e9 : (MS.s_hasBefore (MS.s_rowOf (MS.s_valueLength (MS.s_rowSeries (MS.s_tableRows x (va_up x.tableRows t n)) (shR rs (256 * t) n (n - r))) v4) (va_up ro k (-1))) (va_up b7 k false) : MS) = MS.s_hasBefore (MS.s_rowOf (MS.s_valueLength (MS.s_rowSeries (MS.s_tableRows x (va_up x.tableRows t n)) (shR rs (256 * t) n (n - r))) v4) (mapT 0 (bmF (va_up ro k (-1)) r) (bmG (va_up ro k (-1))) (va_up ro k (-1)))) (va_up b7 k false) := by rw [show (mapT 0 (bmF (va_up ro k (-1)) r) (bmG (va_up ro k (-1))) (va_up ro k (-1))) = (va_up ro k (-1)) from (mapT_0 _ _ _)] <;> rfl
                exact L170 _ 0 (Nat.zero_le _) rfl H _ ls (cvP e9 hP) (cvD e9 hD) hS (lv_sub hl [0, 1, 2, 3, 4, 5] rfl)
              refine lv_aload_n hx hb d_M_group_118 rfl (lv_at hl 4 rfl) ?_
              refine gF (v := .ref (ad 51)) hx hb hown hE hK hP 0 rfl rfl layM 51 (by decide) w521 rfl d_M_group_119 ?_
              refine lv_iload_n hx hb d_M_group_122 rfl (lv_at hl 2 rfl) ?_
              refine nild (f := (fun z9 => nI ((va_up x.tableRows t n) z9))) hx hb hK hP 24 1 rfl rfl (t) (by omega) (by decide) d_M_group_123 ?_
              refine tpi (y := nI n) (congrArg nI (va_us _ _ _)) ?_
              refine lv_istore hx hb d_M_group_124 hl (by decide) rfl (fun ls hl => ?_)
              have hl : lv_has ls 6 [(5, .int (nI (n))), (4, .int (nI r)), (3, .int (nI k)), (1, .int (nI t)), (2, .int (nI p7)), (0, .ref h)] := hl
              have L126 : ∀ (k9 : Nat) (j : Nat) (s1 : j ≤ n - r) (hk9 : n - r - j = k9), ∀ (H : Heap) (locs : List Loc) (ls : Array Slot) (hP : va_P D vwCl (MW dA h ad (MS.s_hasBefore (MS.s_rowOf (MS.s_valueLength (MS.s_rowSeries (MS.s_tableRows x (va_up x.tableRows t n)) (shR rs (256 * t) n j)) v4) (va_up ro k (-1))) (va_up b7 k false))) H) (hD : va_D A (MW dA h ad (MS.s_hasBefore (MS.s_rowOf (MS.s_valueLength (MS.s_rowSeries (MS.s_tableRows x (va_up x.tableRows t n)) (shR rs (256 * t) n j)) v4) (va_up ro k (-1))) (va_up b7 k false)))) (hS : va_S A s.heap H locs) (hl : lv_has ls 6 [(5, .int (nI (n - j))), (4, .int (nI r)), (3, .int (nI k)), (1, .int (nI t)), (2, .int (nI p7)), (0, .ref h)]), W p l e ({ frames := 3, cells := 0, slots := 0, locals := 61 } : Room) s m ([.ref h, .int (nI t), .int (nI p7)] : List Value).toArray below meth c H locs 0 0 (MQ below (va_Qv (fun (u9 : Unit) => True) (fun (u9 : Unit) t9 => bW D A (MW dA h ad (MS.s_hasBefore (MS.s_rowOf (MS.s_valueLength (MS.s_isCell (MS.s_cells (MS.s_rowSeries (MS.s_tableRows x (va_up x.tableRows t n9)) rs9) (filG x.cells (t * 256 * 64) 0 (n9 * 64))) (filG x.isCell (t * 256 * 64) false (n9 * 64))) v9) ro9) hb9)) t9) A) ([.ref h, .int (nI t), .int (nI p7)] : List Value).toArray s 0 0 A) (F0 m 126 ls []) := by
                intro k9
                induction k9 using Nat.strongRecOn with
                | ind k9 ih126 =>
                  intro j s1 hk9 H locs ls hP hD hS hl
                  refine lv_iload hx hb d_M_group_126 (lv_at hl 0 rfl) ?_
                  refine lv_iload hx hb d_M_group_128 (lv_at hl 1 rfl) ?_
                  refine lv_icmp_le hx hb d_M_group_130 (tgt := 167) rfl (fun g5 => ?_) (fun g5 => ?_)
                  · have g5 := (nI_leI (a := n - j) (b := r) (by omega) (by omega)).mp g5
                    have e9 : (MS.s_hasBefore (MS.s_rowOf (MS.s_valueLength (MS.s_rowSeries (MS.s_tableRows x (va_up x.tableRows t n)) (shR rs (256 * t) n j)) v4) (va_up ro k (-1))) (va_up b7 k false) : MS) = MS.s_hasBefore (MS.s_rowOf (MS.s_valueLength (MS.s_rowSeries (MS.s_tableRows x (va_up x.tableRows t n)) (shR rs (256 * t) n (n - r))) v4) (va_up ro k (-1))) (va_up b7 k false) := by rw [show (shR rs (256 * t) n (n - r)) = (shR rs (256 * t) n j) from (by rw [show j = n - r by omega])] <;> rfl
                    exact J167  H _ ls (cvP e9 hP) (cvD e9 hD) hS (lv_sub hl [1, 2, 3, 4, 5] rfl)
                  · have g5 := mt (nI_leI (a := n - j) (b := r) (by omega) (by omega)).mpr g5
                    refine lv_aload_n hx hb d_M_group_133 rfl (lv_at hl 5 rfl) ?_
                    refine gF (v := .ref (ad 52)) hx hb hown hE hK hP 0 rfl rfl layM 52 (by decide) w522 rfl d_M_group_134 ?_
                    refine lv_sipush (v := 256) hx hb d_M_group_137 (by decide) ?_
                    refine lv_iload_n hx hb d_M_group_140 rfl (lv_at hl 3 rfl) ?_
                    refine lv_imul hx hb d_M_group_141 (tpi (y := nI (256 * t)) (pk_mul (256) (t)) ?_)
                    refine lv_iload hx hb d_M_group_142 (lv_at hl 0 rfl) ?_
                    refine lv_iadd hx hb d_M_group_144 (tpi (y := nI ((256 * t) + (n - j))) (nI_add (256 * t) (n - j)) ?_)
                    refine lv_aload_n hx hb d_M_group_145 rfl (lv_at hl 5 rfl) ?_
                    refine gF (v := .ref (ad 52)) hx hb hown hE hK hP 0 rfl rfl layM 52 (by decide) w522 rfl d_M_group_146 ?_
                    refine lv_sipush (v := 256) hx hb d_M_group_149 (by decide) ?_
                    refine lv_iload_n hx hb d_M_group_152 rfl (lv_at hl 3 rfl) ?_
                    refine lv_imul hx hb d_M_group_153 (tpi (y := nI (256 * t)) (pk_mul (256) (t)) ?_)
                    refine lv_iload hx hb d_M_group_154 (lv_at hl 0 rfl) ?_
                    refine lv_iadd hx hb d_M_group_156 (tpi (y := nI ((256 * t) + (n - j))) (nI_add (256 * t) (n - j)) ?_)
                    refine lv_iconst (v := 1) hx hb d_M_group_157 (by decide) ?_
                    refine lv_isub hx hb d_M_group_158 (tpi (y := nI (((256 * t) + (n - j)) - 1)) (pk_sub (a := (256 * t) + (n - j)) (b := 1) (by omega)) ?_)
                    refine nild (f := (fun z9 => nI ((shR rs (256 * t) n j) z9))) hx hb hK hP 25 1 rfl rfl (((256 * t) + (n - j)) - 1) (by omega) (by decide) d_M_group_159 ?_
                    refine nistN (v := (shR rs (256 * t) n j) (((256 * t) + (n - j)) - 1)) hx hb hK hP hD hS 25 1 rfl rfl ((256 * t) + (n - j)) (by omega) (by decide) d_M_group_160 (fun H locs hP hD hS => ?_)
                    have hP : va_P D vwCl (MW dA h ad (MS.s_hasBefore (MS.s_rowOf (MS.s_valueLength (MS.s_rowSeries (MS.s_tableRows x (va_up x.tableRows t n)) (va_up (shR rs (256 * t) n j) ((256 * t) + (n - j)) ((shR rs (256 * t) n j) (((256 * t) + (n - j)) - 1)))) v4) (va_up ro k (-1))) (va_up b7 k false))) H := hP
                    have hD : va_D A (MW dA h ad (MS.s_hasBefore (MS.s_rowOf (MS.s_valueLength (MS.s_rowSeries (MS.s_tableRows x (va_up x.tableRows t n)) (va_up (shR rs (256 * t) n j) ((256 * t) + (n - j)) ((shR rs (256 * t) n j) (((256 * t) + (n - j)) - 1)))) v4) (va_up ro k (-1))) (va_up b7 k false))) := hD
                    refine lv_iinc (k := 0) (v := nI (n - (j + 1))) hx hb d_M_group_161 hl rfl (iincM (by omega)) (by decide) rfl (fun ls hl => ?_)
                    have hl : lv_has ls 6 [(5, .int (nI (n - (j + 1)))), (4, .int (nI r)), (3, .int (nI k)), (1, .int (nI t)), (2, .int (nI p7)), (0, .ref h)] := hl
                    refine lv_goto hx hb d_M_group_164 (tgt := 126) rfl ?_
                    exact ih126 _ (by omega) (j + 1) (by omega) rfl H _ ls hP hD hS (lv_sub hl [0, 1, 2, 3, 4, 5] rfl)
              exact L126 _ 0 (Nat.zero_le _) rfl H _ ls hP hD hS (lv_sub hl [0, 1, 2, 3, 4, 5] rfl)
            refine lv_iload hx hb d_M_group_85 (lv_at hl 0 rfl) ?_
            refine lv_aload_n hx hb d_M_group_87 rfl (lv_at hl 4 rfl) ?_
            refine gF (v := .ref (ad 51)) hx hb hown hE hK hP 0 rfl rfl layM 51 (by decide) w521 rfl d_M_group_88 ?_
            refine lv_iload_n hx hb d_M_group_91 rfl (lv_at hl 2 rfl) ?_
            refine nild (f := (fun z9 => nI ((va_up x.tableRows t n) z9))) hx hb hK hP 24 1 rfl rfl (t) (by omega) (by decide) d_M_group_92 ?_
            refine tpi (y := nI n) (congrArg nI (va_us _ _ _)) ?_
            refine lv_icmp_eq hx hb d_M_group_93 (tgt := 118) rfl (fun g6 => ?_) (fun g6 => ?_)
            · have g6 := (nI_eq (a := r) (b := n) (by omega) (by omega)).mp g6
              exact J118 v3 (if_pos (by omega)) H _ ls hP hD hS (lv_sub hl [0, 1, 2, 3, 4] rfl)
            · have g6 := mt (nI_eq (a := r) (b := n) (by omega) (by omega)).mpr g6
              have b7y := i4 r (by omega)
              refine lv_aload_n hx hb d_M_group_96 rfl (lv_at hl 4 rfl) ?_
              refine lv_iload_n hx hb d_M_group_97 rfl (lv_at hl 2 rfl) ?_
              refine lv_aload_n hx hb d_M_group_98 rfl (lv_at hl 4 rfl) ?_
              refine gF (v := .ref (ad 52)) hx hb hown hE hK hP 0 rfl rfl layM 52 (by decide) w522 rfl d_M_group_99 ?_
              refine lv_sipush (v := 256) hx hb d_M_group_102 (by decide) ?_
              refine lv_iload_n hx hb d_M_group_105 rfl (lv_at hl 2 rfl) ?_
              refine lv_imul hx hb d_M_group_106 (tpi (y := nI (256 * t)) (pk_mul (256) (t)) ?_)
              refine lv_iload hx hb d_M_group_107 (lv_at hl 0 rfl) ?_
              refine lv_iadd hx hb d_M_group_109 (tpi (y := nI ((256 * t) + r)) (nI_add (256 * t) (r)) ?_)
              refine nild (f := (fun z9 => nI (rs z9))) hx hb hK hP 25 1 rfl rfl ((256 * t) + r) (by omega) (by decide) d_M_group_110 ?_
              refine lv_iload_n hx hb d_M_group_111 rfl (lv_at hl 1 rfl) ?_
              refine jfI (rnV (As := [.int (nI t), .int (nI (rs ((256 * t) + r))), .int (nI k)]) (rest := []) hx hb hml hown hE hK (hN _ _ hS) hP hD (k_compareRows l D dA H.size h ad (MS.s_hasBefore (MS.s_rowOf (MS.s_valueLength (MS.s_rowSeries (MS.s_tableRows x (va_up x.tableRows t n)) rs) v3) (va_up ro k (-1))) (va_up b7 k false)) t (rs ((256 * t) + r)) k hno (Or.inr (hts _ (Nat.lt_of_lt_of_le (i4 r (by omega)) (by omega)))) (Or.inr (hts k (by omega)))) (q0 := 0) rfl rfl w983 w982 w984 w985 w328 rfl rfl ⟨⟨by decide, by decide⟩, rfl⟩ ⟨(Nat.le_of_ble_eq_true rfl), (Nat.le_of_ble_eq_true rfl)⟩ rfl hl.1 rfl (Nat.le_of_ble_eq_true rfl) d_M_group_112 ⟨(Nat.le_of_ble_eq_true rfl), (Nat.le_of_ble_eq_true rfl)⟩) hP hD hS hA (fun r7 u8 H locs hp9 hP hD hS => ?_)
              have hP : va_P D vwCl (MW dA h ad (MS.s_hasBefore (MS.s_rowOf (MS.s_valueLength (MS.s_rowSeries (MS.s_tableRows x (va_up x.tableRows t n)) rs) (((MS.s_valueLength x v3).cr t (rs ((256 * t) + r)) k).2)) (va_up ro k (-1))) (va_up b7 k false))) H := hP
              have hD : va_D A (MW dA h ad (MS.s_hasBefore (MS.s_rowOf (MS.s_valueLength (MS.s_rowSeries (MS.s_tableRows x (va_up x.tableRows t n)) rs) (((MS.s_valueLength x v3).cr t (rs ((256 * t) + r)) k).2)) (va_up ro k (-1))) (va_up b7 k false))) := hD
              replace hp9 : ((MS.s_valueLength x v3).cr t (rs ((256 * t) + r)) k).1 = r7 := Eq.symm hp9
              subst hp9
              refine lv_if_le hx hb d_M_group_115 (tgt := 244) rfl (fun g9 => ?_) (fun g9 => ?_)
              · have g9 := g9
                have gi9 : x.gi t k rs n r v3 = (false, ((MS.s_valueLength x v3).cr t (rs ((256 * t) + r)) k).2) := (if_neg (by omega)).trans (Prod.ext (by show (!decide _) = false; rw [decide_eq_true g9]; rfl) rfl)
                refine lv_aload_n hx hb d_M_group_244 rfl (lv_at hl 4 rfl) ?_
                refine gF (v := .ref (ad 61)) hx hb hown hE hK hP 0 rfl rfl layM 61 (by decide) w527 rfl d_M_group_245 ?_
                refine lv_iload_n hx hb d_M_group_248 rfl (lv_at hl 1 rfl) ?_
                refine lv_iload hx hb d_M_group_249 (lv_at hl 0 rfl) ?_
                refine nist hx hb hK hP hD hS 28 1 rfl rfl (k) (by omega) (by decide) d_M_group_251 (fun H locs hP hD hS => ?_)
                have hP : va_P D vwCl (MW dA h ad (MS.s_hasBefore (MS.s_rowOf (MS.s_valueLength (MS.s_rowSeries (MS.s_tableRows x (va_up x.tableRows t n)) rs) (((MS.s_valueLength x v3).cr t (rs ((256 * t) + r)) k).2)) (va_up (va_up ro k (-1)) k (nI r))) (va_up b7 k false))) H := hP
                have hD : va_D A (MW dA h ad (MS.s_hasBefore (MS.s_rowOf (MS.s_valueLength (MS.s_rowSeries (MS.s_tableRows x (va_up x.tableRows t n)) rs) (((MS.s_valueLength x v3).cr t (rs ((256 * t) + r)) k).2)) (va_up (va_up ro k (-1)) k (nI r))) (va_up b7 k false))) := hD
                refine lv_iinc (k := 1) (v := nI (k + 1)) hx hb d_M_group_252 hl rfl (iincN (k) 1 1 (by decide)) (by decide) rfl (fun ls hl => ?_)
                have hl : lv_has ls 6 [(3, .int (nI (k + 1))), (4, .int (nI r)), (1, .int (nI t)), (2, .int (nI p7)), (0, .ref h)] := hl
                refine lv_goto hx hb d_M_group_255 (tgt := 9) rfl ?_
                exact ih9 _ (by omega) (k + 1) n rs (va_up (va_up ro k (-1)) k (nI r)) (va_up b7 k false) (((MS.s_valueLength x v3).cr t (rs ((256 * t) + r)) k).2) (by omega) ((gr_y i2 e1 f1).trans (gr_old gi9)) (by omega) (rs_sc i4) rfl H _ ls hP hD hS (lv_sub hl [0, 2, 3, 4] rfl)
              · have g9 := g9
                exact J118 (((MS.s_valueLength x v3).cr t (rs ((256 * t) + r)) k).2) ((if_neg (by omega)).trans (Prod.ext (by show (!decide _) = true; rw [decide_eq_false g9]; rfl) rfl)) H _ ls hP hD hS (lv_sub hl [0, 1, 2, 3, 4] rfl)
          refine lv_iconst (v := 0) hx hb d_M_group_43 (by decide) ?_
          refine lv_istore hx hb d_M_group_44 hl (by decide) rfl (fun ls hl => ?_)
          have hl : lv_has ls 6 [(4, .int 0), (3, .int (nI k)), (1, .int (nI t)), (2, .int (nI p7)), (0, .ref h)] := hl
          have L46 : ∀ (k9 : Nat) (r : Nat) (v3 : Nat) (j1 : x.fr t k rs n (n + 1 - r) r v3 = x.fr t k rs n (n + 1) 0 v2) (j2 : r ≤ n) (hk9 : n + 1 - r = k9), ∀ (H : Heap) (locs : List Loc) (ls : Array Slot) (hP : va_P D vwCl (MW dA h ad (MS.s_hasBefore (MS.s_rowOf (MS.s_valueLength (MS.s_rowSeries (MS.s_tableRows x (va_up x.tableRows t n)) rs) v3) (va_up ro k (-1))) (va_up b7 k false))) H) (hD : va_D A (MW dA h ad (MS.s_hasBefore (MS.s_rowOf (MS.s_valueLength (MS.s_rowSeries (MS.s_tableRows x (va_up x.tableRows t n)) rs) v3) (va_up ro k (-1))) (va_up b7 k false)))) (hS : va_S A s.heap H locs) (hl : lv_has ls 6 [(4, .int (nI r)), (3, .int (nI k)), (1, .int (nI t)), (2, .int (nI p7)), (0, .ref h)]), W p l e ({ frames := 3, cells := 0, slots := 0, locals := 61 } : Room) s m ([.ref h, .int (nI t), .int (nI p7)] : List Value).toArray below meth c H locs 0 0 (MQ below (va_Qv (fun (u9 : Unit) => True) (fun (u9 : Unit) t9 => bW D A (MW dA h ad (MS.s_hasBefore (MS.s_rowOf (MS.s_valueLength (MS.s_isCell (MS.s_cells (MS.s_rowSeries (MS.s_tableRows x (va_up x.tableRows t n9)) rs9) (filG x.cells (t * 256 * 64) 0 (n9 * 64))) (filG x.isCell (t * 256 * 64) false (n9 * 64))) v9) ro9) hb9)) t9) A) ([.ref h, .int (nI t), .int (nI p7)] : List Value).toArray s 0 0 A) (F0 m 46 ls []) := by
            intro k9
            induction k9 using Nat.strongRecOn with
            | ind k9 ih46 =>
              intro r v3 j1 j2 hk9 H locs ls hP hD hS hl
              refine lv_iload hx hb d_M_group_46 (lv_at hl 0 rfl) ?_
              refine lv_aload_n hx hb d_M_group_48 rfl (lv_at hl 4 rfl) ?_
              refine gF (v := .ref (ad 51)) hx hb hown hE hK hP 0 rfl rfl layM 51 (by decide) w521 rfl d_M_group_49 ?_
              refine lv_iload_n hx hb d_M_group_52 rfl (lv_at hl 2 rfl) ?_
              refine nild (f := (fun z9 => nI ((va_up x.tableRows t n) z9))) hx hb hK hP 24 1 rfl rfl (t) (by omega) (by decide) d_M_group_53 ?_
              refine tpi (y := nI n) (congrArg nI (va_us _ _ _)) ?_
              refine lv_icmp_ge hx hb d_M_group_54 (tgt := 85) rfl (fun g10 => ?_) (fun g10 => ?_)
              · have g10 := (nI_leI (a := n) (b := r) (by omega) (by omega)).mp g10
                exact J85 r v3 (j1.symm.trans (fr_e g10)) (by omega) H _ ls hP hD hS (lv_sub hl [0, 1, 2, 3, 4] rfl)
              · have g10 := mt (nI_leI (a := n) (b := r) (by omega) (by omega)).mpr g10
                have b7x := i4 r (by omega)
                refine lv_aload_n hx hb d_M_group_57 rfl (lv_at hl 4 rfl) ?_
                refine lv_iload_n hx hb d_M_group_58 rfl (lv_at hl 2 rfl) ?_
                refine lv_aload_n hx hb d_M_group_59 rfl (lv_at hl 4 rfl) ?_
                refine gF (v := .ref (ad 52)) hx hb hown hE hK hP 0 rfl rfl layM 52 (by decide) w522 rfl d_M_group_60 ?_
                refine lv_sipush (v := 256) hx hb d_M_group_63 (by decide) ?_
                refine lv_iload_n hx hb d_M_group_66 rfl (lv_at hl 2 rfl) ?_
                refine lv_imul hx hb d_M_group_67 (tpi (y := nI (256 * t)) (pk_mul (256) (t)) ?_)
                refine lv_iload hx hb d_M_group_68 (lv_at hl 0 rfl) ?_
                refine lv_iadd hx hb d_M_group_70 (tpi (y := nI ((256 * t) + r)) (nI_add (256 * t) (r)) ?_)
                refine nild (f := (fun z9 => nI (rs z9))) hx hb hK hP 25 1 rfl rfl ((256 * t) + r) (by omega) (by decide) d_M_group_71 ?_
                refine lv_iload_n hx hb d_M_group_72 rfl (lv_at hl 1 rfl) ?_
                refine jfI (rnV (As := [.int (nI t), .int (nI (rs ((256 * t) + r))), .int (nI k)]) (rest := []) hx hb hml hown hE hK (hN _ _ hS) hP hD (k_compareRows l D dA H.size h ad (MS.s_hasBefore (MS.s_rowOf (MS.s_valueLength (MS.s_rowSeries (MS.s_tableRows x (va_up x.tableRows t n)) rs) v3) (va_up ro k (-1))) (va_up b7 k false)) t (rs ((256 * t) + r)) k hno (Or.inr (hts _ (Nat.lt_of_lt_of_le (i4 r (by omega)) (by omega)))) (Or.inr (hts k (by omega)))) (q0 := 0) rfl rfl w983 w982 w984 w985 w328 rfl rfl ⟨⟨by decide, by decide⟩, rfl⟩ ⟨(Nat.le_of_ble_eq_true rfl), (Nat.le_of_ble_eq_true rfl)⟩ rfl hl.1 rfl (Nat.le_of_ble_eq_true rfl) d_M_group_73 ⟨(Nat.le_of_ble_eq_true rfl), (Nat.le_of_ble_eq_true rfl)⟩) hP hD hS hA (fun r11 u12 H locs hp9 hP hD hS => ?_)
                have hP : va_P D vwCl (MW dA h ad (MS.s_hasBefore (MS.s_rowOf (MS.s_valueLength (MS.s_rowSeries (MS.s_tableRows x (va_up x.tableRows t n)) rs) (((MS.s_valueLength x v3).cr t (rs ((256 * t) + r)) k).2)) (va_up ro k (-1))) (va_up b7 k false))) H := hP
                have hD : va_D A (MW dA h ad (MS.s_hasBefore (MS.s_rowOf (MS.s_valueLength (MS.s_rowSeries (MS.s_tableRows x (va_up x.tableRows t n)) rs) (((MS.s_valueLength x v3).cr t (rs ((256 * t) + r)) k).2)) (va_up ro k (-1))) (va_up b7 k false))) := hD
                replace hp9 : ((MS.s_valueLength x v3).cr t (rs ((256 * t) + r)) k).1 = r11 := Eq.symm hp9
                subst hp9
                refine lv_if_ge hx hb d_M_group_76 (tgt := 85) rfl (fun g13 => ?_) (fun g13 => ?_)
                · have g13 := g13
                  exact J85 r (((MS.s_valueLength x v3).cr t (rs ((256 * t) + r)) k).2) (j1.symm.trans (fr_g (by omega) g10 (Int32.not_lt.mpr g13))) (by omega) H _ ls hP hD hS (lv_sub hl [0, 1, 2, 3, 4] rfl)
                · have g13 := g13
                  refine lv_iinc (k := 0) (v := nI (r + 1)) hx hb d_M_group_79 hl rfl (iincN (r) 1 1 (by decide)) (by decide) rfl (fun ls hl => ?_)
                  have hl : lv_has ls 6 [(4, .int (nI (r + 1))), (3, .int (nI k)), (1, .int (nI t)), (2, .int (nI p7)), (0, .ref h)] := hl
                  refine lv_goto hx hb d_M_group_82 (tgt := 46) rfl ?_
                  exact ih46 _ (by omega) (r + 1) (((MS.s_valueLength x v3).cr t (rs ((256 * t) + r)) k).2) (by rw [← j1, fr_l (w := n + 1 - r) (by omega) g10 (Int32.not_le.mp g13), show n + 1 - r - 1 = n + 1 - (r + 1) by omega]) (by omega) rfl H _ ls hP hD hS (lv_sub hl [0, 1, 2, 3, 4] rfl)
          exact L46 _ 0 v2 rfl (Nat.zero_le _) rfl H _ ls hP hD hS (lv_sub hl [0, 1, 2, 3, 4] rfl)
        refine lv_aload_n hx hb d_M_group_31 rfl (lv_at hl 3 rfl) ?_
        refine lv_iload_n hx hb d_M_group_32 rfl (lv_at hl 0 rfl) ?_
        refine lv_iload_n hx hb d_M_group_33 rfl (lv_at hl 2 rfl) ?_
        refine jfI (rnV (As := [.int (nI k), .int (nI p7)]) (rest := []) hx hb hml hown hE hK (hN _ _ hS) hP hD (k_matches l D dA H.size h ad (MS.s_hasBefore (MS.s_rowOf (MS.s_valueLength (MS.s_rowSeries (MS.s_tableRows x (va_up x.tableRows t n)) rs) v) (va_up ro k (-1))) (va_up b7 k false)) k p7 (hts k (by omega)) hmo hl1) (q0 := 0) rfl rfl w987 w986 w988 w989 w328 rfl rfl ⟨⟨by decide, by decide⟩, rfl⟩ ⟨(Nat.le_of_ble_eq_true rfl), (Nat.le_of_ble_eq_true rfl)⟩ rfl hl.1 rfl (Nat.le_of_ble_eq_true rfl) d_M_group_34 ⟨(Nat.le_of_ble_eq_true rfl), (Nat.le_of_ble_eq_true rfl)⟩) hP hD hS hA (fun r14 u15 H locs hp9 hP hD hS => ?_)
        have hP : va_P D vwCl (MW dA h ad (MS.s_hasBefore (MS.s_rowOf (MS.s_valueLength (MS.s_rowSeries (MS.s_tableRows x (va_up x.tableRows t n)) rs) (((MS.s_valueLength x v).mt k p7).2)) (va_up ro k (-1))) (va_up b7 k false))) H := hP
        have hD : va_D A (MW dA h ad (MS.s_hasBefore (MS.s_rowOf (MS.s_valueLength (MS.s_rowSeries (MS.s_tableRows x (va_up x.tableRows t n)) rs) (((MS.s_valueLength x v).mt k p7).2)) (va_up ro k (-1))) (va_up b7 k false))) := hD
        replace hp9 : bI ((MS.s_valueLength x v).mt k p7).1 = r14 := Eq.symm hp9
        subst hp9
        refine lv_if_ne hx hb d_M_group_37 (tgt := 43) rfl (fun g16 => ?_) (fun g16 => ?_)
        · have g16 := bI_n0 g16
          exact J43 (((MS.s_valueLength x v).mt k p7).2) (Prod.ext g16 rfl) H _ ls hP hD hS (lv_sub hl [0, 1, 2, 3] rfl)
        · have g16 := bI_0 g16
          refine lv_goto hx hb d_M_group_40 (tgt := 252) rfl ?_
          refine lv_iinc (k := 0) (v := nI (k + 1)) hx hb d_M_group_252 hl rfl (iincN (k) 1 1 (by decide)) (by decide) rfl (fun ls hl => ?_)
          have hl : lv_has ls 6 [(3, .int (nI (k + 1))), (1, .int (nI t)), (2, .int (nI p7)), (0, .ref h)] := hl
          refine lv_goto hx hb d_M_group_255 (tgt := 9) rfl ?_
          exact ih9 _ (by omega) (k + 1) n rs (va_up ro k (-1)) (va_up b7 k false) (((MS.s_valueLength x v).mt k p7).2) (by omega) (gr_no i2 g16) (by omega) (rs_sc i4) rfl H _ ls hP hD hS (lv_sub hl [0, 1, 2, 3] rfl)
  exact L9 _ 0 0 x.rowSeries x.rowOf x.hasBefore x.valueLength (Nat.zero_le _) rfl (Nat.le_refl _) (fun q hq => absurd hq (Nat.not_lt_zero q)) rfl H _ ls hP hD hS (lv_sub hl [0, 2, 3, 1] rfl)
end
section
theorem metI {l : Launch} {y : MethodName} {ws : List Cond} {rm : Room} {Pc : Array Value → State → Prop} {mc ms : Nat} {fr : Addr → Prop} {D : va_G} {A : Nat → Prop} {S S' : Type} {post : Int32 → S → Prop} {post' : Int32 → S' → Prop} {w1 : S → va_W} {w1' : S' → va_W}
    (h : Met l y ws rm Pc (va_Qi post (fun u t => bW D A (w1 u) t) A) mc ms fr) (hp : ∀ r u, post r u → ∃ u', post' r u' ∧ w1 u = w1' u') : Met l y ws rm Pc (va_Qi post' (fun u t => bW D A (w1' u) t) A) mc ms fr := by
  intro p e ha hc hk s m args below hf happ hP hK
  obtain ⟨n, o, h1, h2, h3, ⟨⟨r, u, g1, g2, g3⟩, g4⟩, h5⟩ := h p e ha hc hk s m args below hf happ hP hK
  obtain ⟨u', k1, k2⟩ := hp r u g2
  refine ⟨n, o, h1, h2, h3, ⟨⟨r, u', g1, k1, ?_⟩, g4⟩, h5⟩
  show bW D A (w1' u') _
  rw [← k2]
  exact g3
theorem metV {l : Launch} {y : MethodName} {ws : List Cond} {rm : Room} {Pc : Array Value → State → Prop} {mc ms : Nat} {fr : Addr → Prop} {D : va_G} {A : Nat → Prop} {S S' : Type} {post : S → Prop} {post' : S' → Prop} {w1 : S → va_W} {w1' : S' → va_W}
    (h : Met l y ws rm Pc (va_Qv post (fun u t => bW D A (w1 u) t) A) mc ms fr) (hp : ∀ u, post u → ∃ u', post' u' ∧ w1 u = w1' u') : Met l y ws rm Pc (va_Qv post' (fun u t => bW D A (w1' u) t) A) mc ms fr := by
  intro p e ha hc hk s m args below hf happ hP hK
  obtain ⟨n, o, h1, h2, h3, ⟨⟨u, g1, g2, g3⟩, g4⟩, h5⟩ := h p e ha hc hk s m args below hf happ hP hK
  obtain ⟨u', k1, k2⟩ := hp u g2
  refine ⟨n, o, h1, h2, h3, ⟨⟨u', g1, k1, ?_⟩, g4⟩, h5⟩
  show bW D A (w1' u') _
  rw [← k2]
  exact g3
end
