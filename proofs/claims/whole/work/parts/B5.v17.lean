/-! A parcel made: places by series, the bits of its chunks. -/
def clzL (x : Int64) : Nat := clzN x.toBitVec.toNat
def ctzL (x : Int64) : Nat := ctzN x.toBitVec.toNat
theorem vx_un (x : Int64) : x = lN x.toBitVec.toNat := Int64.toBitVec_inj.mp (by show _ = BitVec.ofNat 64 _; simp)
theorem nlL_U (x : Int64) : nlL x = nI (clzL x) := by
  have h := nlL_N x.toBitVec.isLt
  rw [← vx_un x] at h
  exact h
theorem ntL_U (x : Int64) : ntL x = nI (ctzL x) := by
  have h := ntL_N x.toBitVec.isLt
  rw [← vx_un x] at h
  exact h
theorem clzL_le (x : Int64) : clzL x ≤ 64 := clzN_le _
theorem ctzL_le (x : Int64) : ctzL x ≤ 64 := ctzN_le _ x.toBitVec.isLt
def abL (x : Int64) : Nat := min 31 (clzL x)
theorem un_0 {x : Int64} (h : ¬ x = 0) : x.toBitVec.toNat ≠ 0 := fun z => h (Int64.toBitVec_inj.mp (BitVec.eq_of_toNat_eq (by rw [z]; rfl)))
theorem ab_be {x : Int64} (h : ¬ x = 0) : abL x + ctzL x ≤ 64 := by
  have h0 := un_0 h
  have h1 := (ctG_p 64 x.toBitVec.toNat (by omega) x.toBitVec.isLt)
  obtain ⟨a, q, hq⟩ := h1
  have h2 : ctG 64 x.toBitVec.toNat ≤ x.toBitVec.toNat.log2 := by
    refine (Nat.le_log2 h0).mpr ?_
    exact Nat.le_of_dvd (by omega) ⟨2 * q + 1, hq⟩
  have h3 : clzL x = 63 - x.toBitVec.toNat.log2 := if_neg h0
  have h4 : ctzL x = ctG 64 x.toBitVec.toNat := if_neg h0
  unfold abL
  have h5 : min 31 (clzL x) ≤ clzL x := Nat.min_le_right _ _
  have h6 := (Nat.log2_lt h0).mpr x.toBitVec.isLt
  omega
theorem abL_le (x : Int64) : abL x ≤ 31 := Nat.min_le_left _ _
/-- does a chunk begin here -/
def chB (o : Nat → Nat) (i : Nat) : Bool := decide (i = 0) || !decide (o i = o (i - 1))
def grG (t : Nat → Int64) : Nat → Int64
  | 0 => -1
  | i + 1 => maxL (grG t i) (t i)
abbrev bcT : Type := Nat × Int64 × Int32 × Nat
def bc2 (st x : Int64) (g : bcT) : bcT :=
  if x = 0 then (g.1 + tbN (st - g.2.1) + 1, st, g.2.2.1, g.2.2.2) else
  if g.2.2.1 = -1 ∨ nI (abL x) < g.2.2.1 ∨ nI (ctzL x) < 64 - g.2.2.1 - nI g.2.2.2 then (g.1 + tbN (st - g.2.1) + (13 + (64 - abL x - ctzL x)), st, nI (abL x), 64 - abL x - ctzL x) else (g.1 + tbN (st - g.2.1) + (2 + g.2.2.2), st, g.2.2.1, g.2.2.2)
def bcS (o : Nat → Nat) (t v : Nat → Int64) (i : Nat) (g : bcT) : bcT := if chB o i = true then (g.1 + 104, 0, -1, g.2.2.2) else bc2 (t i - t (i - 1)) (v i ^^^ v (i - 1)) g
def bcG (o : Nat → Nat) (t v : Nat → Int64) : Nat → bcT
  | 0 => (0, 0, -1, 0)
  | i + 1 => bcS o t v i (bcG o t v i)
section BC
variable {o : Nat → Nat} {t v : Nat → Int64} {i sm fl : Nat} {sp : Int64} {fa : Int32}
theorem bc_a (h : i = 0 ∨ ¬ o i = o (i - 1)) (h2 : bcG o t v i = (sm, sp, fa, fl)) : bcG o t v (i + 1) = (sm + 104, 0, -1, fl) := by
  show bcS o t v i (bcG o t v i) = _
  unfold bcS
  rw [h2, if_pos]
  unfold chB
  rcases h with h | h
  · rw [decide_eq_true h]; rfl
  · rw [decide_eq_false h]; simp
theorem bc_c (h : ¬ i = 0) (h1 : o i = o (i - 1)) (h2 : bcG o t v i = (sm, sp, fa, fl)) : bcG o t v (i + 1) = bc2 (t i - t (i - 1)) (v i ^^^ v (i - 1)) (sm, sp, fa, fl) := by
  show bcS o t v i (bcG o t v i) = _
  unfold bcS
  rw [h2, if_neg]
  unfold chB
  rw [decide_eq_false h, decide_eq_true h1]
  decide
theorem bc_z (h : ¬ i = 0) (h1 : o i = o (i - 1)) (hx : v i ^^^ v (i - 1) = 0) (h2 : bcG o t v i = (sm, sp, fa, fl)) : bcG o t v (i + 1) = (sm + tbN (t i - t (i - 1) - sp) + 1, t i - t (i - 1), fa, fl) := by
  rw [bc_c h h1 h2]
  exact if_pos hx
theorem bc_n (h : ¬ i = 0) (h1 : o i = o (i - 1)) (hx : ¬ v i ^^^ v (i - 1) = 0) (hc : fa = -1 ∨ nI (abL (v i ^^^ v (i - 1))) < fa ∨ nI (ctzL (v i ^^^ v (i - 1))) < 64 - fa - nI fl) (h2 : bcG o t v i = (sm, sp, fa, fl)) :
    bcG o t v (i + 1) = (sm + tbN (t i - t (i - 1) - sp) + (13 + (64 - abL (v i ^^^ v (i - 1)) - ctzL (v i ^^^ v (i - 1)))), t i - t (i - 1), nI (abL (v i ^^^ v (i - 1))), 64 - abL (v i ^^^ v (i - 1)) - ctzL (v i ^^^ v (i - 1))) := by
  rw [bc_c h h1 h2]
  exact (if_neg hx).trans (if_pos hc)
theorem bc_k (h : ¬ i = 0) (h1 : o i = o (i - 1)) (hx : ¬ v i ^^^ v (i - 1) = 0) (c1 : ¬ fa = -1) (c2 : ¬ nI (abL (v i ^^^ v (i - 1))) < fa) (c3 : ¬ nI (ctzL (v i ^^^ v (i - 1))) < 64 - fa - nI fl) (h2 : bcG o t v i = (sm, sp, fa, fl)) :
    bcG o t v (i + 1) = (sm + tbN (t i - t (i - 1) - sp) + (2 + fl), t i - t (i - 1), fa, fl) := by
  rw [bc_c h h1 h2]
  exact (if_neg hx).trans (if_neg (fun z => z.elim c1 (fun z => z.elim c2 c3)))
end BC
theorem bcG_le (o : Nat → Nat) (t v : Nat → Int64) : ∀ i, (bcG o t v i).1 ≤ 122 * i ∧ (bcG o t v i).2.2.2 ≤ 64
  | 0 => ⟨Nat.le_refl _, by show 0 ≤ 64; omega⟩
  | i + 1 => by
    obtain ⟨h1, h2⟩ := bcG_le o t v i
    show (bcS o t v i (bcG o t v i)).1 ≤ _ ∧ (bcS o t v i (bcG o t v i)).2.2.2 ≤ 64
    generalize bcG o t v i = g at h1 h2 ⊢
    unfold bcS bc2
    have h3 := tbN_le (t i - t (i - 1) - g.2.1)
    split
    · exact ⟨by show g.1 + 104 ≤ _; omega, h2⟩
    · split
      · exact ⟨by show g.1 + _ + 1 ≤ _; omega, h2⟩
      · split
        · exact ⟨by show g.1 + _ + (13 + (64 - _ - _)) ≤ _; omega, by show 64 - _ - _ ≤ 64; omega⟩
        · exact ⟨by show g.1 + _ + (2 + g.2.2.2) ≤ _; omega, h2⟩
/-- places by series -/
def cpE (o : Nat → Nat) (z j : Nat) : Bool := decide (o j + 1 = z)
def cpL (o : Nat → Nat) (z j : Nat) : Bool := decide (o j < z)
def cpQ (o : Nat → Nat) (s j : Nat) : Bool := decide (o j = s)
theorem cnt_add {f g k : Nat → Bool} : ∀ {n : Nat}, (∀ j, j < n → (f j = true ↔ g j = true ∨ k j = true) ∧ ¬ (g j = true ∧ k j = true)) → cnt n f = cnt n g + cnt n k
  | 0, _ => rfl
  | n + 1, h => by
    have ih := cnt_add (n := n) (fun j hj => h j (by omega))
    obtain ⟨h1, h2⟩ := h n (by omega)
    cases hg : g n <;> cases hk : k n
    · rw [cnt_f hg, cnt_f hk, cnt_f (show f n = false by cases hf : f n with | false => rfl | true => have := h1.mp hf; simp [hg, hk] at this), ih]
    · rw [cnt_f hg, cnt_t hk, cnt_t (h1.mpr (Or.inr hk)), ih]; omega
    · rw [cnt_t hg, cnt_f hk, cnt_t (h1.mpr (Or.inl hg)), ih]; omega
    · exact absurd ⟨hg, hk⟩ h2
theorem cp_s (o : Nat → Nat) (n k : Nat) : cnt n (cpL o (k + 1)) = cnt n (cpL o k) + cnt n (cpE o (k + 1)) := cnt_add (fun j _ => by
  unfold cpL cpE
  constructor
  · constructor
    · intro h; have := of_decide_eq_true h; by_cases g : o j < k
      · exact Or.inl (decide_eq_true g)
      · exact Or.inr (decide_eq_true (by omega))
    · rintro (h | h) <;> have := of_decide_eq_true h <;> exact decide_eq_true (by omega)
  · rintro ⟨h1, h2⟩
    have := of_decide_eq_true h1
    have := of_decide_eq_true h2
    omega)
theorem cnt_0 {f : Nat → Bool} : ∀ {n : Nat}, (∀ j, j < n → f j = false) → cnt n f = 0
  | 0, _ => rfl
  | n + 1, h => by rw [cnt_f (h n (by omega)), cnt_0 (fun j hj => h j (by omega))]
theorem cnt_lt {f : Nat → Bool} {j n : Nat} (h : j < n) (hf : f j = true) : cnt j f < cnt n f := by
  have h1 := cnt_mono (f := f) (n := j + 1) (m := n) h
  rw [cnt_t hf] at h1
  omega
def posN (o : Nat → Nat) (n j : Nat) : Nat := cnt n (cpL o (o j)) + cnt j (cpQ o (o j))
theorem cpE_Q (o : Nat → Nat) (s n : Nat) : cnt n (cpE o (s + 1)) = cnt n (cpQ o s) := cnt_ext (fun k _ => by unfold cpE cpQ; simp)
theorem posN_lt {o : Nat → Nat} {n j : Nat} (h : j < n) : posN o n j < cnt n (cpL o (o j + 1)) := by
  have h1 := cnt_lt (f := cpQ o (o j)) h (decide_eq_true rfl)
  rw [cp_s, cpE_Q]
  unfold posN
  omega
theorem cpL_mono (o : Nat → Nat) (n : Nat) {a b : Nat} (h : a ≤ b) : cnt n (cpL o a) ≤ cnt n (cpL o b) := by
  obtain ⟨d, rfl⟩ : ∃ d, b = a + d := ⟨b - a, by omega⟩
  induction d with
  | zero => exact Nat.le_refl _
  | succ d ih => rw [show a + (d + 1) = a + d + 1 by omega, cp_s]; have := ih (by omega); omega
theorem posN_n {o : Nat → Nat} {n j : Nat} (h : j < n) : posN o n j < n := Nat.lt_of_lt_of_le (posN_lt h) (cnt_le _ _)
theorem posN_inj {o : Nat → Nat} {n j k : Nat} (hj : j < n) (hk : k < n) (h : posN o n j = posN o n k) : j = k := by
  rcases Nat.lt_trichotomy (o j) (o k) with g | g | g
  · have h1 := posN_lt (o := o) hj
    have h2 := cpL_mono o n (show o j + 1 ≤ o k by omega)
    unfold posN at h h1
    omega
  · unfold posN at h
    rw [g] at h
    rcases Nat.lt_trichotomy j k with q | q | q
    · have := cnt_lt (f := cpQ o (o k)) q (decide_eq_true g)
      omega
    · exact q
    · have := cnt_lt (f := cpQ o (o k)) q (decide_eq_true rfl)
      omega
  · have h1 := posN_lt (o := o) hk
    have h2 := cpL_mono o n (show o k + 1 ≤ o j by omega)
    unfold posN at h h1
    omega
/-- points laid by series -/
def laid {α : Type} (o : Nat → Nat) (n i : Nat) (f : Nat → α) (F : Nat → α) : Prop := ∀ j, j < i → F (posN o n j) = f j
theorem laid_s {α : Type} {o : Nat → Nat} {n i q : Nat} {f F : Nat → α} {y : α} (hi : i < n) (h : laid o n i f F) (hq : q = posN o n i) (hy : y = f i) : laid o n (i + 1) f (va_up F q y) := by
  intro j hj
  subst hq
  unfold va_up
  by_cases e : posN o n j = posN o n i
  · rw [if_pos e, posN_inj (by omega) hi e]
    exact hy
  · rw [if_neg e]
    refine h j (Nat.lt_of_le_of_ne (by omega) (fun z => e (by rw [z])))
/-- the places as they stand behind i points -/
def plcs (o : Nat → Nat) (n i w : Nat) (f : Nat → Nat) : Prop := ∀ s, s < w → f s = cnt n (cpL o s) + cnt i (cpQ o s)
theorem plcs_s {o : Nat → Nat} {n i w : Nat} {f : Nat → Nat} (h : plcs o n i w f) (hw : o i < w) : plcs o n (i + 1) w (va_up f (o i) (f (o i) + 1)) := by
  intro s hs
  unfold va_up
  by_cases e : s = o i
  · subst e
    rw [if_pos rfl, h _ hs, cnt_t (show cpQ o (o i) i = true from decide_eq_true rfl)]
    omega
  · rw [if_neg e, h _ hs, cnt_f (show cpQ o s i = false from decide_eq_false (fun z => e z.symm))]
theorem d_Integer_numberOfLeadingZeros_0 : decode prog_23_method_47_code 0 = .ok (.iload_n 0, 1) := by decide +kernel
theorem d_Integer_numberOfLeadingZeros_1 : decode prog_23_method_47_code 1 = .ok (.ifCond .gt 14, 3) := by decide +kernel
theorem d_Integer_numberOfLeadingZeros_15 : decode prog_23_method_47_code 15 = .ok (.bipush 31, 2) := by decide +kernel
theorem d_Integer_numberOfLeadingZeros_17 : decode prog_23_method_47_code 17 = .ok (.istore_n 1, 1) := by decide +kernel
theorem d_Integer_numberOfLeadingZeros_73 : decode prog_23_method_47_code 73 = .ok (.iload_n 1, 1) := by decide +kernel
theorem d_Integer_numberOfLeadingZeros_74 : decode prog_23_method_47_code 74 = .ok (.iload_n 0, 1) := by decide +kernel
theorem d_Integer_numberOfLeadingZeros_75 : decode prog_23_method_47_code 75 = .ok (.iconst 1, 1) := by decide +kernel
theorem d_Integer_numberOfLeadingZeros_76 : decode prog_23_method_47_code 76 = .ok (.iushr, 1) := by decide +kernel
theorem d_Integer_numberOfLeadingZeros_77 : decode prog_23_method_47_code 77 = .ok (.isub, 1) := by decide +kernel
theorem d_Integer_numberOfLeadingZeros_78 : decode prog_23_method_47_code 78 = .ok (.ireturn, 1) := by decide +kernel
theorem d_Integer_numberOfLeadingZeros_61 : decode prog_23_method_47_code 61 = .ok (.iload_n 0, 1) := by decide +kernel
theorem d_Integer_numberOfLeadingZeros_62 : decode prog_23_method_47_code 62 = .ok (.iconst 4, 1) := by decide +kernel
theorem d_Integer_numberOfLeadingZeros_63 : decode prog_23_method_47_code 63 = .ok (.if_icmp .lt 10, 3) := by decide +kernel
theorem d_Integer_numberOfLeadingZeros_66 : decode prog_23_method_47_code 66 = .ok (.iinc 1 (-2), 3) := by decide +kernel
theorem d_Integer_numberOfLeadingZeros_69 : decode prog_23_method_47_code 69 = .ok (.iload_n 0, 1) := by decide +kernel
theorem d_Integer_numberOfLeadingZeros_70 : decode prog_23_method_47_code 70 = .ok (.iconst 2, 1) := by decide +kernel
theorem d_Integer_numberOfLeadingZeros_71 : decode prog_23_method_47_code 71 = .ok (.iushr, 1) := by decide +kernel
theorem d_Integer_numberOfLeadingZeros_72 : decode prog_23_method_47_code 72 = .ok (.istore_n 0, 1) := by decide +kernel
theorem d_Integer_numberOfLeadingZeros_48 : decode prog_23_method_47_code 48 = .ok (.iload_n 0, 1) := by decide +kernel
theorem d_Integer_numberOfLeadingZeros_49 : decode prog_23_method_47_code 49 = .ok (.bipush 16, 2) := by decide +kernel
theorem d_Integer_numberOfLeadingZeros_51 : decode prog_23_method_47_code 51 = .ok (.if_icmp .lt 10, 3) := by decide +kernel
theorem d_Integer_numberOfLeadingZeros_54 : decode prog_23_method_47_code 54 = .ok (.iinc 1 (-4), 3) := by decide +kernel
theorem d_Integer_numberOfLeadingZeros_57 : decode prog_23_method_47_code 57 = .ok (.iload_n 0, 1) := by decide +kernel
theorem d_Integer_numberOfLeadingZeros_58 : decode prog_23_method_47_code 58 = .ok (.iconst 4, 1) := by decide +kernel
theorem d_Integer_numberOfLeadingZeros_59 : decode prog_23_method_47_code 59 = .ok (.iushr, 1) := by decide +kernel
theorem d_Integer_numberOfLeadingZeros_60 : decode prog_23_method_47_code 60 = .ok (.istore_n 0, 1) := by decide +kernel
theorem d_Integer_numberOfLeadingZeros_33 : decode prog_23_method_47_code 33 = .ok (.iload_n 0, 1) := by decide +kernel
theorem d_Integer_numberOfLeadingZeros_34 : decode prog_23_method_47_code 34 = .ok (.sipush 256, 3) := by decide +kernel
theorem d_Integer_numberOfLeadingZeros_37 : decode prog_23_method_47_code 37 = .ok (.if_icmp .lt 11, 3) := by decide +kernel
theorem d_Integer_numberOfLeadingZeros_40 : decode prog_23_method_47_code 40 = .ok (.iinc 1 (-8), 3) := by decide +kernel
theorem d_Integer_numberOfLeadingZeros_43 : decode prog_23_method_47_code 43 = .ok (.iload_n 0, 1) := by decide +kernel
theorem d_Integer_numberOfLeadingZeros_44 : decode prog_23_method_47_code 44 = .ok (.bipush 8, 2) := by decide +kernel
theorem d_Integer_numberOfLeadingZeros_46 : decode prog_23_method_47_code 46 = .ok (.iushr, 1) := by decide +kernel
theorem d_Integer_numberOfLeadingZeros_47 : decode prog_23_method_47_code 47 = .ok (.istore_n 0, 1) := by decide +kernel
theorem d_Integer_numberOfLeadingZeros_18 : decode prog_23_method_47_code 18 = .ok (.iload_n 0, 1) := by decide +kernel
theorem d_Integer_numberOfLeadingZeros_19 : decode prog_23_method_47_code 19 = .ok (.ldc_w 264, 3) := by decide +kernel
theorem d_Integer_numberOfLeadingZeros_22 : decode prog_23_method_47_code 22 = .ok (.if_icmp .lt 11, 3) := by decide +kernel
theorem d_Integer_numberOfLeadingZeros_25 : decode prog_23_method_47_code 25 = .ok (.iinc 1 (-16), 3) := by decide +kernel
theorem d_Integer_numberOfLeadingZeros_28 : decode prog_23_method_47_code 28 = .ok (.iload_n 0, 1) := by decide +kernel
theorem d_Integer_numberOfLeadingZeros_29 : decode prog_23_method_47_code 29 = .ok (.bipush 16, 2) := by decide +kernel
theorem d_Integer_numberOfLeadingZeros_31 : decode prog_23_method_47_code 31 = .ok (.iushr, 1) := by decide +kernel
theorem d_Integer_numberOfLeadingZeros_32 : decode prog_23_method_47_code 32 = .ok (.istore_n 0, 1) := by decide +kernel
theorem d_Integer_numberOfLeadingZeros_4 : decode prog_23_method_47_code 4 = .ok (.iload_n 0, 1) := by decide +kernel
theorem d_Integer_numberOfLeadingZeros_5 : decode prog_23_method_47_code 5 = .ok (.ifCond .ne 8, 3) := by decide +kernel
theorem d_Integer_numberOfLeadingZeros_13 : decode prog_23_method_47_code 13 = .ok (.iconst 0, 1) := by decide +kernel
theorem d_Integer_numberOfLeadingZeros_14 : decode prog_23_method_47_code 14 = .ok (.ireturn, 1) := by decide +kernel
theorem d_Integer_numberOfLeadingZeros_8 : decode prog_23_method_47_code 8 = .ok (.bipush 32, 2) := by decide +kernel
theorem d_Integer_numberOfLeadingZeros_10 : decode prog_23_method_47_code 10 = .ok (.goto 4, 3) := by decide +kernel
theorem w1196 : Cond.constant "java/lang/Integer" 264 65536 ∈ aW := aw_of (tb_6 (List.mem_of_getElem? (i := 31) rfl)) rfl
set_option maxHeartbeats 4000000 in
set_option maxRecDepth 100000 in
theorem v_nlzI (l : Launch) (D : va_G) (dA : Nat → ClassId) (sz : Nat) (v : Int32) : Met l ⟨"java/lang/Integer", "numberOfLeadingZeros", "(I)I"⟩ [Cond.code ⟨"java/lang/Integer", "numberOfLeadingZeros", "(I)I"⟩ prog_23_method_47_code 2 (some FieldType.int)] { frames := 1, cells := 0, slots := 0, locals := 0 } (pC D dA [.int v] ([]) sz) (va_Qi (fun (r9 : Int32) (u9 : Unit) => r9 = nlI v) (fun (u9 : Unit) t9 => bW D (va_A ([]) sz) ([]) t9) (va_A ([]) sz)) 0 0 (va_A ([]) sz) := by
  refine mkC (y := ⟨"java/lang/Integer", "numberOfLeadingZeros", "(I)I"⟩) (cc := prog_23_method_47_code) (maxL := 2) (av := [.int v]) (ws := []) (sz := sz) (Qc := fun A => va_Qi (fun (r9 : Int32) (u9 : Unit) => r9 = nlI v) (fun (u9 : Unit) t9 => bW D A ([]) t9) A) (by decide) (Nat.le_of_ble_eq_true rfl) ?_
  intro A p e s m below meth c ls hsz hB
  obtain ⟨hx, hb, hr, hml, hown, hin, hlk, hE, hK, hP, hD, hS, hA, hN, hl⟩ := hB
  have hown : s.vm.findClass "java/lang/Integer" = some m.cls := hown
  have hl : lv_has ls 2 [(0, .int v)] := hl
  obtain ⟨H, hH⟩ : ∃ z, z = s.heap := ⟨_, rfl⟩
  have hP : va_P D vwCl ([]) H := by rw [hH]; exact hP
  have hS : va_S A s.heap H [] := by rw [hH]; exact hS
  rw [← hH]
  refine lv_iload_n hx hb d_Integer_numberOfLeadingZeros_0 rfl (lv_at hl 0 rfl) ?_
  refine lv_if_gt hx hb d_Integer_numberOfLeadingZeros_1 (tgt := 15) rfl (fun g1 => ?_) (fun g1 => ?_)
  · have g1 := g1
    refine lv_bipush (v := 31) hx hb d_Integer_numberOfLeadingZeros_15 (by decide) ?_
    refine lv_istore_n hx hb d_Integer_numberOfLeadingZeros_17 rfl hl (by decide) rfl (fun ls hl => ?_)
    have hl : lv_has ls 2 [(1, .int 31), (0, .int v)] := hl
    have J33 : ∀ (a0 : Int32) (n0 : Int32) (e0 : (a0, n0) = nlS 65536 16 (-16) (v, 31)), ∀ (H : Heap) (locs : List Loc) (ls : Array Slot) (hP : va_P D vwCl ([]) H) (hD : va_D A ([])) (hS : va_S A s.heap H locs) (hl : lv_has ls 2 [(0, .int a0), (1, .int n0)]), W p l e ({ frames := 1, cells := 0, slots := 0, locals := 0 } : Room) s m ([.int v] : List Value).toArray below meth c H locs 0 0 (MQ below (va_Qi (fun (r9 : Int32) (u9 : Unit) => r9 = nlI v) (fun (u9 : Unit) t9 => bW D A ([]) t9) A) ([.int v] : List Value).toArray s 0 0 A) (F0 m 33 ls []) := by
      intro a0 n0 e0 H locs ls hP hD hS hl
      have J48 : ∀ (a1 : Int32) (n1 : Int32) (e1 : (a1, n1) = nlS 256 8 (-8) (a0, n0)), ∀ (H : Heap) (locs : List Loc) (ls : Array Slot) (hP : va_P D vwCl ([]) H) (hD : va_D A ([])) (hS : va_S A s.heap H locs) (hl : lv_has ls 2 [(0, .int a1), (1, .int n1)]), W p l e ({ frames := 1, cells := 0, slots := 0, locals := 0 } : Room) s m ([.int v] : List Value).toArray below meth c H locs 0 0 (MQ below (va_Qi (fun (r9 : Int32) (u9 : Unit) => r9 = nlI v) (fun (u9 : Unit) t9 => bW D A ([]) t9) A) ([.int v] : List Value).toArray s 0 0 A) (F0 m 48 ls []) := by
        intro a1 n1 e1 H locs ls hP hD hS hl
        have J61 : ∀ (a2 : Int32) (n2 : Int32) (e2 : (a2, n2) = nlS 16 4 (-4) (a1, n1)), ∀ (H : Heap) (locs : List Loc) (ls : Array Slot) (hP : va_P D vwCl ([]) H) (hD : va_D A ([])) (hS : va_S A s.heap H locs) (hl : lv_has ls 2 [(0, .int a2), (1, .int n2)]), W p l e ({ frames := 1, cells := 0, slots := 0, locals := 0 } : Room) s m ([.int v] : List Value).toArray below meth c H locs 0 0 (MQ below (va_Qi (fun (r9 : Int32) (u9 : Unit) => r9 = nlI v) (fun (u9 : Unit) t9 => bW D A ([]) t9) A) ([.int v] : List Value).toArray s 0 0 A) (F0 m 61 ls []) := by
          intro a2 n2 e2 H locs ls hP hD hS hl
          have J73 : ∀ (a3 : Int32) (n3 : Int32) (e3 : (a3, n3) = nlS 4 2 (-2) (a2, n2)), ∀ (H : Heap) (locs : List Loc) (ls : Array Slot) (hP : va_P D vwCl ([]) H) (hD : va_D A ([])) (hS : va_S A s.heap H locs) (hl : lv_has ls 2 [(0, .int a3), (1, .int n3)]), W p l e ({ frames := 1, cells := 0, slots := 0, locals := 0 } : Room) s m ([.int v] : List Value).toArray below meth c H locs 0 0 (MQ below (va_Qi (fun (r9 : Int32) (u9 : Unit) => r9 = nlI v) (fun (u9 : Unit) t9 => bW D A ([]) t9) A) ([.int v] : List Value).toArray s 0 0 A) (F0 m 73 ls []) := by
            intro a3 n3 e3 H locs ls hP hD hS hl
            refine lv_iload_n hx hb d_Integer_numberOfLeadingZeros_73 rfl (lv_at hl 1 rfl) ?_
            refine lv_iload_n hx hb d_Integer_numberOfLeadingZeros_74 rfl (lv_at hl 0 rfl) ?_
            refine lv_iconst (v := 1) hx hb d_Integer_numberOfLeadingZeros_75 (by decide) ?_
            refine lv_iushr (v := ushI a3 1) hx hb d_Integer_numberOfLeadingZeros_76 rfl ?_
            refine lv_isub hx hb d_Integer_numberOfLeadingZeros_77 ?_
            exact rfI hx hb hr hlk hS () (by unfold nlI nl4; rw [if_pos g1, ← e0, ← e1, ← e2, ← e3]) hP hD (Nat.le_of_ble_eq_true rfl) (Nat.le_of_ble_eq_true rfl) d_Integer_numberOfLeadingZeros_78
          refine lv_iload_n hx hb d_Integer_numberOfLeadingZeros_61 rfl (lv_at hl 0 rfl) ?_
          refine lv_iconst (v := 4) hx hb d_Integer_numberOfLeadingZeros_62 (by decide) ?_
          refine lv_icmp_lt hx hb d_Integer_numberOfLeadingZeros_63 (tgt := 73) rfl (fun g2 => ?_) (fun g2 => ?_)
          · have g2 := g2
            exact J73 a2 n2 (by unfold nlS; rw [if_pos g2]) H _ ls hP hD hS (lv_sub hl [0, 1] rfl)
          · have g2 := g2
            refine lv_iinc (k := 1) (v := n2 + (-2)) hx hb d_Integer_numberOfLeadingZeros_66 hl rfl (by rfl) (by decide) rfl (fun ls hl => ?_)
            have hl : lv_has ls 2 [(1, .int (n2 + (-2))), (0, .int a2)] := hl
            refine lv_iload_n hx hb d_Integer_numberOfLeadingZeros_69 rfl (lv_at hl 1 rfl) ?_
            refine lv_iconst (v := 2) hx hb d_Integer_numberOfLeadingZeros_70 (by decide) ?_
            refine lv_iushr (v := ushI a2 2) hx hb d_Integer_numberOfLeadingZeros_71 rfl ?_
            refine lv_istore_n hx hb d_Integer_numberOfLeadingZeros_72 rfl hl (by decide) rfl (fun ls hl => ?_)
            have hl : lv_has ls 2 [(0, .int (ushI a2 2)), (1, .int (n2 + (-2)))] := hl
            exact J73 (ushI a2 2) (n2 + (-2)) (by unfold nlS; rw [if_neg g2]) H _ ls hP hD hS (lv_sub hl [0, 1] rfl)
        refine lv_iload_n hx hb d_Integer_numberOfLeadingZeros_48 rfl (lv_at hl 0 rfl) ?_
        refine lv_bipush (v := 16) hx hb d_Integer_numberOfLeadingZeros_49 (by decide) ?_
        refine lv_icmp_lt hx hb d_Integer_numberOfLeadingZeros_51 (tgt := 61) rfl (fun g3 => ?_) (fun g3 => ?_)
        · have g3 := g3
          exact J61 a1 n1 (by unfold nlS; rw [if_pos g3]) H _ ls hP hD hS (lv_sub hl [0, 1] rfl)
        · have g3 := g3
          refine lv_iinc (k := 1) (v := n1 + (-4)) hx hb d_Integer_numberOfLeadingZeros_54 hl rfl (by rfl) (by decide) rfl (fun ls hl => ?_)
          have hl : lv_has ls 2 [(1, .int (n1 + (-4))), (0, .int a1)] := hl
          refine lv_iload_n hx hb d_Integer_numberOfLeadingZeros_57 rfl (lv_at hl 1 rfl) ?_
          refine lv_iconst (v := 4) hx hb d_Integer_numberOfLeadingZeros_58 (by decide) ?_
          refine lv_iushr (v := ushI a1 4) hx hb d_Integer_numberOfLeadingZeros_59 rfl ?_
          refine lv_istore_n hx hb d_Integer_numberOfLeadingZeros_60 rfl hl (by decide) rfl (fun ls hl => ?_)
          have hl : lv_has ls 2 [(0, .int (ushI a1 4)), (1, .int (n1 + (-4)))] := hl
          exact J61 (ushI a1 4) (n1 + (-4)) (by unfold nlS; rw [if_neg g3]) H _ ls hP hD hS (lv_sub hl [0, 1] rfl)
      refine lv_iload_n hx hb d_Integer_numberOfLeadingZeros_33 rfl (lv_at hl 0 rfl) ?_
      refine lv_sipush (v := 256) hx hb d_Integer_numberOfLeadingZeros_34 (by decide) ?_
      refine lv_icmp_lt hx hb d_Integer_numberOfLeadingZeros_37 (tgt := 48) rfl (fun g4 => ?_) (fun g4 => ?_)
      · have g4 := g4
        exact J48 a0 n0 (by unfold nlS; rw [if_pos g4]) H _ ls hP hD hS (lv_sub hl [0, 1] rfl)
      · have g4 := g4
        refine lv_iinc (k := 1) (v := n0 + (-8)) hx hb d_Integer_numberOfLeadingZeros_40 hl rfl (by rfl) (by decide) rfl (fun ls hl => ?_)
        have hl : lv_has ls 2 [(1, .int (n0 + (-8))), (0, .int a0)] := hl
        refine lv_iload_n hx hb d_Integer_numberOfLeadingZeros_43 rfl (lv_at hl 1 rfl) ?_
        refine lv_bipush (v := 8) hx hb d_Integer_numberOfLeadingZeros_44 (by decide) ?_
        refine lv_iushr (v := ushI a0 8) hx hb d_Integer_numberOfLeadingZeros_46 rfl ?_
        refine lv_istore_n hx hb d_Integer_numberOfLeadingZeros_47 rfl hl (by decide) rfl (fun ls hl => ?_)
        have hl : lv_has ls 2 [(0, .int (ushI a0 8)), (1, .int (n0 + (-8)))] := hl
        exact J48 (ushI a0 8) (n0 + (-8)) (by unfold nlS; rw [if_neg g4]) H _ ls hP hD hS (lv_sub hl [0, 1] rfl)
    refine lv_iload_n hx hb d_Integer_numberOfLeadingZeros_18 rfl (lv_at hl 1 rfl) ?_
    refine lv_ldcw (v := 65536) hx hb hown (hE.t w1196 rfl) d_Integer_numberOfLeadingZeros_19 ?_
    refine lv_icmp_lt hx hb d_Integer_numberOfLeadingZeros_22 (tgt := 33) rfl (fun g5 => ?_) (fun g5 => ?_)
    · have g5 := g5
      exact J33 v 31 (by unfold nlS; rw [if_pos g5]) H _ ls hP hD hS (lv_sub hl [1, 0] rfl)
    · have g5 := g5
      refine lv_iinc (k := 0) (v := 15) hx hb d_Integer_numberOfLeadingZeros_25 hl rfl (by decide) (by decide) rfl (fun ls hl => ?_)
      have hl : lv_has ls 2 [(1, .int 15), (0, .int v)] := hl
      refine lv_iload_n hx hb d_Integer_numberOfLeadingZeros_28 rfl (lv_at hl 1 rfl) ?_
      refine lv_bipush (v := 16) hx hb d_Integer_numberOfLeadingZeros_29 (by decide) ?_
      refine lv_iushr (v := ushI v 16) hx hb d_Integer_numberOfLeadingZeros_31 rfl ?_
      refine lv_istore_n hx hb d_Integer_numberOfLeadingZeros_32 rfl hl (by decide) rfl (fun ls hl => ?_)
      have hl : lv_has ls 2 [(0, .int (ushI v 16)), (1, .int 15)] := hl
      exact J33 (ushI v 16) 15 (by unfold nlS; rw [if_neg g5]; exact congrArg (Prod.mk _) (show (15 : Int32) = 31 + (-16) by decide)) H _ ls hP hD hS (lv_sub hl [0, 1] rfl)
  · have g1 := g1
    refine lv_iload_n hx hb d_Integer_numberOfLeadingZeros_4 rfl (lv_at hl 0 rfl) ?_
    refine lv_if_ne hx hb d_Integer_numberOfLeadingZeros_5 (tgt := 13) rfl (fun g6 => ?_) (fun g6 => ?_)
    · have g6 := g6
      refine lv_iconst (v := 0) hx hb d_Integer_numberOfLeadingZeros_13 (by decide) ?_
      exact rfI hx hb hr hlk hS () (by unfold nlI; rw [if_neg g1, if_neg g6]) hP hD (Nat.le_of_ble_eq_true rfl) (Nat.le_of_ble_eq_true rfl) d_Integer_numberOfLeadingZeros_14
    · have g6 := g6
      refine lv_bipush (v := 32) hx hb d_Integer_numberOfLeadingZeros_8 (by decide) ?_
      refine lv_goto hx hb d_Integer_numberOfLeadingZeros_10 (tgt := 14) rfl ?_
      exact rfI hx hb hr hlk hS () (by unfold nlI; rw [if_neg g1, if_pos g6]) hP hD (Nat.le_of_ble_eq_true rfl) (Nat.le_of_ble_eq_true rfl) d_Integer_numberOfLeadingZeros_14
theorem d_Long_numberOfLeadingZeros_0 : decode prog_25_method_48_code 0 = .ok (.lload_n 0, 1) := by decide +kernel
theorem d_Long_numberOfLeadingZeros_1 : decode prog_25_method_48_code 1 = .ok (.bipush 32, 2) := by decide +kernel
theorem d_Long_numberOfLeadingZeros_3 : decode prog_25_method_48_code 3 = .ok (.lushr, 1) := by decide +kernel
theorem d_Long_numberOfLeadingZeros_4 : decode prog_25_method_48_code 4 = .ok (.l2i, 1) := by decide +kernel
theorem d_Long_numberOfLeadingZeros_5 : decode prog_25_method_48_code 5 = .ok (.istore_n 2, 1) := by decide +kernel
theorem d_Long_numberOfLeadingZeros_6 : decode prog_25_method_48_code 6 = .ok (.iload_n 2, 1) := by decide +kernel
theorem d_Long_numberOfLeadingZeros_7 : decode prog_25_method_48_code 7 = .ok (.ifCond .ne 14, 3) := by decide +kernel
theorem d_Long_numberOfLeadingZeros_21 : decode prog_25_method_48_code 21 = .ok (.iload_n 2, 1) := by decide +kernel
theorem d_Long_numberOfLeadingZeros_22 : decode prog_25_method_48_code 22 = .ok (.invokestatic 308, 3) := by decide +kernel
theorem d_Long_numberOfLeadingZeros_25 : decode prog_25_method_48_code 25 = .ok (.ireturn, 1) := by decide +kernel
theorem d_Long_numberOfLeadingZeros_10 : decode prog_25_method_48_code 10 = .ok (.bipush 32, 2) := by decide +kernel
theorem d_Long_numberOfLeadingZeros_12 : decode prog_25_method_48_code 12 = .ok (.lload_n 0, 1) := by decide +kernel
theorem d_Long_numberOfLeadingZeros_13 : decode prog_25_method_48_code 13 = .ok (.l2i, 1) := by decide +kernel
theorem d_Long_numberOfLeadingZeros_14 : decode prog_25_method_48_code 14 = .ok (.invokestatic 308, 3) := by decide +kernel
theorem d_Long_numberOfLeadingZeros_17 : decode prog_25_method_48_code 17 = .ok (.iadd, 1) := by decide +kernel
theorem d_Long_numberOfLeadingZeros_18 : decode prog_25_method_48_code 18 = .ok (.goto 7, 3) := by decide +kernel
theorem w1197 : Cond.methodLink "java/lang/Long" 308 ⟨"java/lang/Integer", "numberOfLeadingZeros", "(I)I"⟩ ∈ aW := aw_of (tb_6 (List.mem_of_getElem? (i := 28) rfl)) rfl
theorem w1198 : Cond.initialized "java/lang/Integer" ∈ aW := aw_of (tb_1 (List.mem_of_getElem? (i := 28) rfl)) rfl
theorem w1199 : Cond.code ⟨"java/lang/Integer", "numberOfLeadingZeros", "(I)I"⟩ prog_23_method_47_code 2 (some FieldType.int) ∈ aW := aw_of (tb_6 (List.mem_of_getElem? (i := 30) rfl)) rfl
theorem w1200 : Cond.static ⟨"java/lang/Integer", "numberOfLeadingZeros", "(I)I"⟩ ∈ aW := aw_of (tb_6 (List.mem_of_getElem? (i := 29) rfl)) rfl
set_option maxHeartbeats 4000000 in
set_option maxRecDepth 100000 in
theorem v_nlzL (l : Launch) (D : va_G) (dA : Nat → ClassId) (sz : Nat) (v : Int64) : Met l ⟨"java/lang/Long", "numberOfLeadingZeros", "(J)I"⟩ [Cond.code ⟨"java/lang/Long", "numberOfLeadingZeros", "(J)I"⟩ prog_25_method_48_code 3 (some FieldType.int)] { frames := 2, cells := 0, slots := 0, locals := 21 } (pC D dA [.long v] ([]) sz) (va_Qi (fun (r9 : Int32) (u9 : Unit) => r9 = nI (clzL v)) (fun (u9 : Unit) t9 => bW D (va_A ([]) sz) ([]) t9) (va_A ([]) sz)) 0 0 (va_A ([]) sz) := by
  refine mkC (y := ⟨"java/lang/Long", "numberOfLeadingZeros", "(J)I"⟩) (cc := prog_25_method_48_code) (maxL := 3) (av := [.long v]) (ws := []) (sz := sz) (Qc := fun A => va_Qi (fun (r9 : Int32) (u9 : Unit) => r9 = nI (clzL v)) (fun (u9 : Unit) t9 => bW D A ([]) t9) A) (by decide) (Nat.le_of_ble_eq_true rfl) ?_
  intro A p e s m below meth c ls hsz hB
  obtain ⟨hx, hb, hr, hml, hown, hin, hlk, hE, hK, hP, hD, hS, hA, hN, hl⟩ := hB
  have hown : s.vm.findClass "java/lang/Long" = some m.cls := hown
  have hl : lv_has ls 3 [(0, .long v)] := hl
  obtain ⟨H, hH⟩ : ∃ z, z = s.heap := ⟨_, rfl⟩
  have hP : va_P D vwCl ([]) H := by rw [hH]; exact hP
  have hS : va_S A s.heap H [] := by rw [hH]; exact hS
  rw [← hH]
  refine lv_lload_n hx hb d_Long_numberOfLeadingZeros_0 rfl (lv_at hl 0 rfl) ?_
  refine lv_bipush (v := 32) hx hb d_Long_numberOfLeadingZeros_1 (by decide) ?_
  refine lv_lushr (v := ushL v 32) hx hb d_Long_numberOfLeadingZeros_3 rfl ?_
  refine lv_l2i hx hb d_Long_numberOfLeadingZeros_4 rfl ?_
  refine lv_istore_n hx hb d_Long_numberOfLeadingZeros_5 rfl hl (by decide) rfl (fun ls hl => ?_)
  have hl : lv_has ls 3 [(2, .int ((ushL v 32).toInt32)), (0, .long v)] := hl
  refine lv_iload_n hx hb d_Long_numberOfLeadingZeros_6 rfl (lv_at hl 0 rfl) ?_
  refine lv_if_ne hx hb d_Long_numberOfLeadingZeros_7 (tgt := 21) rfl (fun g1 => ?_) (fun g1 => ?_)
  · have g1 := g1
    refine lv_iload_n hx hb d_Long_numberOfLeadingZeros_21 rfl (lv_at hl 0 rfl) ?_
    have hPc := hP.sub (ws' := []) [] rfl
    have hDc := hD.sub (ws' := []) [] (by decide) rfl
    refine jpI (rnS (As := [.int ((ushL v 32).toInt32)]) (rest := []) hx hb hml hown hE hK (hN _ _ hS) hPc hDc (v_nlzI l D dA H.size ((ushL v 32).toInt32)) w1199 w1197 w1200 w1198 rfl rfl ⟨⟨by decide, by decide⟩, rfl⟩ ⟨(Nat.le_of_ble_eq_true rfl), (Nat.le_of_ble_eq_true rfl)⟩ rfl hl.1 rfl (Nat.le_of_ble_eq_true rfl) d_Long_numberOfLeadingZeros_22 ⟨(Nat.le_of_ble_eq_true rfl), (Nat.le_of_ble_eq_true rfl)⟩) hP hD hS hA (fun r2 u9 H locs hp9 hP hD hS => ?_)
    have hP : va_P D vwCl ([]) H := hP
    have hD : va_D A ([]) := hD
    replace hp9 : nlI ((ushL v 32).toInt32) = r2 := Eq.symm hp9
    subst hp9
    exact rfI hx hb hr hlk hS () (by rw [← nlL_U]; unfold nlL; rw [if_neg g1]) hP hD (Nat.le_of_ble_eq_true rfl) (Nat.le_of_ble_eq_true rfl) d_Long_numberOfLeadingZeros_25
  · have g1 := g1
    refine lv_bipush (v := 32) hx hb d_Long_numberOfLeadingZeros_10 (by decide) ?_
    refine lv_lload_n hx hb d_Long_numberOfLeadingZeros_12 rfl (lv_at hl 1 rfl) ?_
    refine lv_l2i hx hb d_Long_numberOfLeadingZeros_13 rfl ?_
    have hPc := hP.sub (ws' := []) [] rfl
    have hDc := hD.sub (ws' := []) [] (by decide) rfl
    refine jpI (rnS (As := [.int v.toInt32]) (rest := [.int 32]) hx hb hml hown hE hK (hN _ _ hS) hPc hDc (v_nlzI l D dA H.size v.toInt32) w1199 w1197 w1200 w1198 rfl rfl ⟨⟨by decide, by decide⟩, rfl⟩ ⟨(Nat.le_of_ble_eq_true rfl), (Nat.le_of_ble_eq_true rfl)⟩ rfl hl.1 rfl (Nat.le_of_ble_eq_true rfl) d_Long_numberOfLeadingZeros_14 ⟨(Nat.le_of_ble_eq_true rfl), (Nat.le_of_ble_eq_true rfl)⟩) hP hD hS hA (fun r4 u9 H locs hp9 hP hD hS => ?_)
    have hP : va_P D vwCl ([]) H := hP
    have hD : va_D A ([]) := hD
    replace hp9 : nlI v.toInt32 = r4 := Eq.symm hp9
    subst hp9
    refine lv_iadd hx hb d_Long_numberOfLeadingZeros_17 ?_
    refine lv_goto hx hb d_Long_numberOfLeadingZeros_18 (tgt := 25) rfl ?_
    exact rfI hx hb hr hlk hS () (by rw [← nlL_U]; unfold nlL; rw [if_pos g1]) hP hD (Nat.le_of_ble_eq_true rfl) (Nat.le_of_ble_eq_true rfl) d_Long_numberOfLeadingZeros_25
theorem d_Integer_numberOfTrailingZeros_0 : decode prog_23_method_48_code 0 = .ok (.iload_n 0, 1) := by decide +kernel
theorem d_Integer_numberOfTrailingZeros_1 : decode prog_23_method_48_code 1 = .ok (.iconst (-1), 1) := by decide +kernel
theorem d_Integer_numberOfTrailingZeros_2 : decode prog_23_method_48_code 2 = .ok (.ixor, 1) := by decide +kernel
theorem d_Integer_numberOfTrailingZeros_3 : decode prog_23_method_48_code 3 = .ok (.iload_n 0, 1) := by decide +kernel
theorem d_Integer_numberOfTrailingZeros_4 : decode prog_23_method_48_code 4 = .ok (.iconst 1, 1) := by decide +kernel
theorem d_Integer_numberOfTrailingZeros_5 : decode prog_23_method_48_code 5 = .ok (.isub, 1) := by decide +kernel
theorem d_Integer_numberOfTrailingZeros_6 : decode prog_23_method_48_code 6 = .ok (.iand, 1) := by decide +kernel
theorem d_Integer_numberOfTrailingZeros_7 : decode prog_23_method_48_code 7 = .ok (.istore_n 0, 1) := by decide +kernel
theorem d_Integer_numberOfTrailingZeros_8 : decode prog_23_method_48_code 8 = .ok (.iload_n 0, 1) := by decide +kernel
theorem d_Integer_numberOfTrailingZeros_9 : decode prog_23_method_48_code 9 = .ok (.ifCond .gt 8, 3) := by decide +kernel
theorem d_Integer_numberOfTrailingZeros_17 : decode prog_23_method_48_code 17 = .ok (.iconst 1, 1) := by decide +kernel
theorem d_Integer_numberOfTrailingZeros_18 : decode prog_23_method_48_code 18 = .ok (.istore_n 1, 1) := by decide +kernel
theorem d_Integer_numberOfTrailingZeros_74 : decode prog_23_method_48_code 74 = .ok (.iload_n 1, 1) := by decide +kernel
theorem d_Integer_numberOfTrailingZeros_75 : decode prog_23_method_48_code 75 = .ok (.iload_n 0, 1) := by decide +kernel
theorem d_Integer_numberOfTrailingZeros_76 : decode prog_23_method_48_code 76 = .ok (.iconst 1, 1) := by decide +kernel
theorem d_Integer_numberOfTrailingZeros_77 : decode prog_23_method_48_code 77 = .ok (.iushr, 1) := by decide +kernel
theorem d_Integer_numberOfTrailingZeros_78 : decode prog_23_method_48_code 78 = .ok (.iadd, 1) := by decide +kernel
theorem d_Integer_numberOfTrailingZeros_79 : decode prog_23_method_48_code 79 = .ok (.ireturn, 1) := by decide +kernel
theorem d_Integer_numberOfTrailingZeros_62 : decode prog_23_method_48_code 62 = .ok (.iload_n 0, 1) := by decide +kernel
theorem d_Integer_numberOfTrailingZeros_63 : decode prog_23_method_48_code 63 = .ok (.iconst 4, 1) := by decide +kernel
theorem d_Integer_numberOfTrailingZeros_64 : decode prog_23_method_48_code 64 = .ok (.if_icmp .le 10, 3) := by decide +kernel
theorem d_Integer_numberOfTrailingZeros_67 : decode prog_23_method_48_code 67 = .ok (.iinc 1 2, 3) := by decide +kernel
theorem d_Integer_numberOfTrailingZeros_70 : decode prog_23_method_48_code 70 = .ok (.iload_n 0, 1) := by decide +kernel
theorem d_Integer_numberOfTrailingZeros_71 : decode prog_23_method_48_code 71 = .ok (.iconst 2, 1) := by decide +kernel
theorem d_Integer_numberOfTrailingZeros_72 : decode prog_23_method_48_code 72 = .ok (.iushr, 1) := by decide +kernel
theorem d_Integer_numberOfTrailingZeros_73 : decode prog_23_method_48_code 73 = .ok (.istore_n 0, 1) := by decide +kernel
theorem d_Integer_numberOfTrailingZeros_49 : decode prog_23_method_48_code 49 = .ok (.iload_n 0, 1) := by decide +kernel
theorem d_Integer_numberOfTrailingZeros_50 : decode prog_23_method_48_code 50 = .ok (.bipush 16, 2) := by decide +kernel
theorem d_Integer_numberOfTrailingZeros_52 : decode prog_23_method_48_code 52 = .ok (.if_icmp .le 10, 3) := by decide +kernel
theorem d_Integer_numberOfTrailingZeros_55 : decode prog_23_method_48_code 55 = .ok (.iinc 1 4, 3) := by decide +kernel
theorem d_Integer_numberOfTrailingZeros_58 : decode prog_23_method_48_code 58 = .ok (.iload_n 0, 1) := by decide +kernel
theorem d_Integer_numberOfTrailingZeros_59 : decode prog_23_method_48_code 59 = .ok (.iconst 4, 1) := by decide +kernel
theorem d_Integer_numberOfTrailingZeros_60 : decode prog_23_method_48_code 60 = .ok (.iushr, 1) := by decide +kernel
theorem d_Integer_numberOfTrailingZeros_61 : decode prog_23_method_48_code 61 = .ok (.istore_n 0, 1) := by decide +kernel
theorem d_Integer_numberOfTrailingZeros_34 : decode prog_23_method_48_code 34 = .ok (.iload_n 0, 1) := by decide +kernel
theorem d_Integer_numberOfTrailingZeros_35 : decode prog_23_method_48_code 35 = .ok (.sipush 256, 3) := by decide +kernel
theorem d_Integer_numberOfTrailingZeros_38 : decode prog_23_method_48_code 38 = .ok (.if_icmp .le 11, 3) := by decide +kernel
theorem d_Integer_numberOfTrailingZeros_41 : decode prog_23_method_48_code 41 = .ok (.iinc 1 8, 3) := by decide +kernel
theorem d_Integer_numberOfTrailingZeros_44 : decode prog_23_method_48_code 44 = .ok (.iload_n 0, 1) := by decide +kernel
theorem d_Integer_numberOfTrailingZeros_45 : decode prog_23_method_48_code 45 = .ok (.bipush 8, 2) := by decide +kernel
theorem d_Integer_numberOfTrailingZeros_47 : decode prog_23_method_48_code 47 = .ok (.iushr, 1) := by decide +kernel
theorem d_Integer_numberOfTrailingZeros_48 : decode prog_23_method_48_code 48 = .ok (.istore_n 0, 1) := by decide +kernel
theorem d_Integer_numberOfTrailingZeros_19 : decode prog_23_method_48_code 19 = .ok (.iload_n 0, 1) := by decide +kernel
theorem d_Integer_numberOfTrailingZeros_20 : decode prog_23_method_48_code 20 = .ok (.ldc_w 264, 3) := by decide +kernel
theorem d_Integer_numberOfTrailingZeros_23 : decode prog_23_method_48_code 23 = .ok (.if_icmp .le 11, 3) := by decide +kernel
theorem d_Integer_numberOfTrailingZeros_26 : decode prog_23_method_48_code 26 = .ok (.iinc 1 16, 3) := by decide +kernel
theorem d_Integer_numberOfTrailingZeros_29 : decode prog_23_method_48_code 29 = .ok (.iload_n 0, 1) := by decide +kernel
theorem d_Integer_numberOfTrailingZeros_30 : decode prog_23_method_48_code 30 = .ok (.bipush 16, 2) := by decide +kernel
theorem d_Integer_numberOfTrailingZeros_32 : decode prog_23_method_48_code 32 = .ok (.iushr, 1) := by decide +kernel
theorem d_Integer_numberOfTrailingZeros_33 : decode prog_23_method_48_code 33 = .ok (.istore_n 0, 1) := by decide +kernel
theorem d_Integer_numberOfTrailingZeros_12 : decode prog_23_method_48_code 12 = .ok (.iload_n 0, 1) := by decide +kernel
theorem d_Integer_numberOfTrailingZeros_13 : decode prog_23_method_48_code 13 = .ok (.bipush 32, 2) := by decide +kernel
theorem d_Integer_numberOfTrailingZeros_15 : decode prog_23_method_48_code 15 = .ok (.iand, 1) := by decide +kernel
theorem d_Integer_numberOfTrailingZeros_16 : decode prog_23_method_48_code 16 = .ok (.ireturn, 1) := by decide +kernel
set_option maxHeartbeats 4000000 in
set_option maxRecDepth 100000 in
theorem v_ntzI (l : Launch) (D : va_G) (dA : Nat → ClassId) (sz : Nat) (v : Int32) : Met l ⟨"java/lang/Integer", "numberOfTrailingZeros", "(I)I"⟩ [Cond.code ⟨"java/lang/Integer", "numberOfTrailingZeros", "(I)I"⟩ prog_23_method_48_code 2 (some FieldType.int)] { frames := 1, cells := 0, slots := 0, locals := 0 } (pC D dA [.int v] ([]) sz) (va_Qi (fun (r9 : Int32) (u9 : Unit) => r9 = ntI v) (fun (u9 : Unit) t9 => bW D (va_A ([]) sz) ([]) t9) (va_A ([]) sz)) 0 0 (va_A ([]) sz) := by
  refine mkC (y := ⟨"java/lang/Integer", "numberOfTrailingZeros", "(I)I"⟩) (cc := prog_23_method_48_code) (maxL := 2) (av := [.int v]) (ws := []) (sz := sz) (Qc := fun A => va_Qi (fun (r9 : Int32) (u9 : Unit) => r9 = ntI v) (fun (u9 : Unit) t9 => bW D A ([]) t9) A) (by decide) (Nat.le_of_ble_eq_true rfl) ?_
  intro A p e s m below meth c ls hsz hB
  obtain ⟨hx, hb, hr, hml, hown, hin, hlk, hE, hK, hP, hD, hS, hA, hN, hl⟩ := hB
  have hown : s.vm.findClass "java/lang/Integer" = some m.cls := hown
  have hl : lv_has ls 2 [(0, .int v)] := hl
  obtain ⟨H, hH⟩ : ∃ z, z = s.heap := ⟨_, rfl⟩
  have hP : va_P D vwCl ([]) H := by rw [hH]; exact hP
  have hS : va_S A s.heap H [] := by rw [hH]; exact hS
  rw [← hH]
  refine lv_iload_n hx hb d_Integer_numberOfTrailingZeros_0 rfl (lv_at hl 0 rfl) ?_
  refine lv_iconst (v := (-1)) hx hb d_Integer_numberOfTrailingZeros_1 (by decide) ?_
  refine lv_ixor hx hb d_Integer_numberOfTrailingZeros_2 ?_
  refine lv_iload_n hx hb d_Integer_numberOfTrailingZeros_3 rfl (lv_at hl 0 rfl) ?_
  refine lv_iconst (v := 1) hx hb d_Integer_numberOfTrailingZeros_4 (by decide) ?_
  refine lv_isub hx hb d_Integer_numberOfTrailingZeros_5 ?_
  refine lv_iand hx hb d_Integer_numberOfTrailingZeros_6 ?_
  refine lv_istore_n hx hb d_Integer_numberOfTrailingZeros_7 rfl hl (by decide) rfl (fun ls hl => ?_)
  have hl : lv_has ls 2 [(0, .int ((v ^^^ (-1)) &&& (v - 1)))] := hl
  have J8 : ∀ (j0 : Int32) (ej : j0 = (v ^^^ (-1)) &&& (v - 1)), ∀ (H : Heap) (locs : List Loc) (ls : Array Slot) (hP : va_P D vwCl ([]) H) (hD : va_D A ([])) (hS : va_S A s.heap H locs) (hl : lv_has ls 2 [(0, .int j0)]), W p l e ({ frames := 1, cells := 0, slots := 0, locals := 0 } : Room) s m ([.int v] : List Value).toArray below meth c H locs 0 0 (MQ below (va_Qi (fun (r9 : Int32) (u9 : Unit) => r9 = ntI v) (fun (u9 : Unit) t9 => bW D A ([]) t9) A) ([.int v] : List Value).toArray s 0 0 A) (F0 m 8 ls []) := by
    intro j0 ej H locs ls hP hD hS hl
    refine lv_iload_n hx hb d_Integer_numberOfTrailingZeros_8 rfl (lv_at hl 0 rfl) ?_
    refine lv_if_gt hx hb d_Integer_numberOfTrailingZeros_9 (tgt := 17) rfl (fun g1 => ?_) (fun g1 => ?_)
    · have g1 := g1
      refine lv_iconst (v := 1) hx hb d_Integer_numberOfTrailingZeros_17 (by decide) ?_
      refine lv_istore_n hx hb d_Integer_numberOfTrailingZeros_18 rfl hl (by decide) rfl (fun ls hl => ?_)
      have hl : lv_has ls 2 [(1, .int 1), (0, .int j0)] := hl
      have J34 : ∀ (a0 : Int32) (n0 : Int32) (e0 : (a0, n0) = ntS 65536 16 16 (j0, 1)), ∀ (H : Heap) (locs : List Loc) (ls : Array Slot) (hP : va_P D vwCl ([]) H) (hD : va_D A ([])) (hS : va_S A s.heap H locs) (hl : lv_has ls 2 [(0, .int a0), (1, .int n0)]), W p l e ({ frames := 1, cells := 0, slots := 0, locals := 0 } : Room) s m ([.int v] : List Value).toArray below meth c H locs 0 0 (MQ below (va_Qi (fun (r9 : Int32) (u9 : Unit) => r9 = ntI v) (fun (u9 : Unit) t9 => bW D A ([]) t9) A) ([.int v] : List Value).toArray s 0 0 A) (F0 m 34 ls []) := by
        intro a0 n0 e0 H locs ls hP hD hS hl
        have J49 : ∀ (a1 : Int32) (n1 : Int32) (e1 : (a1, n1) = ntS 256 8 8 (a0, n0)), ∀ (H : Heap) (locs : List Loc) (ls : Array Slot) (hP : va_P D vwCl ([]) H) (hD : va_D A ([])) (hS : va_S A s.heap H locs) (hl : lv_has ls 2 [(0, .int a1), (1, .int n1)]), W p l e ({ frames := 1, cells := 0, slots := 0, locals := 0 } : Room) s m ([.int v] : List Value).toArray below meth c H locs 0 0 (MQ below (va_Qi (fun (r9 : Int32) (u9 : Unit) => r9 = ntI v) (fun (u9 : Unit) t9 => bW D A ([]) t9) A) ([.int v] : List Value).toArray s 0 0 A) (F0 m 49 ls []) := by
          intro a1 n1 e1 H locs ls hP hD hS hl
          have J62 : ∀ (a2 : Int32) (n2 : Int32) (e2 : (a2, n2) = ntS 16 4 4 (a1, n1)), ∀ (H : Heap) (locs : List Loc) (ls : Array Slot) (hP : va_P D vwCl ([]) H) (hD : va_D A ([])) (hS : va_S A s.heap H locs) (hl : lv_has ls 2 [(0, .int a2), (1, .int n2)]), W p l e ({ frames := 1, cells := 0, slots := 0, locals := 0 } : Room) s m ([.int v] : List Value).toArray below meth c H locs 0 0 (MQ below (va_Qi (fun (r9 : Int32) (u9 : Unit) => r9 = ntI v) (fun (u9 : Unit) t9 => bW D A ([]) t9) A) ([.int v] : List Value).toArray s 0 0 A) (F0 m 62 ls []) := by
            intro a2 n2 e2 H locs ls hP hD hS hl
            have J74 : ∀ (a3 : Int32) (n3 : Int32) (e3 : (a3, n3) = ntS 4 2 2 (a2, n2)), ∀ (H : Heap) (locs : List Loc) (ls : Array Slot) (hP : va_P D vwCl ([]) H) (hD : va_D A ([])) (hS : va_S A s.heap H locs) (hl : lv_has ls 2 [(0, .int a3), (1, .int n3)]), W p l e ({ frames := 1, cells := 0, slots := 0, locals := 0 } : Room) s m ([.int v] : List Value).toArray below meth c H locs 0 0 (MQ below (va_Qi (fun (r9 : Int32) (u9 : Unit) => r9 = ntI v) (fun (u9 : Unit) t9 => bW D A ([]) t9) A) ([.int v] : List Value).toArray s 0 0 A) (F0 m 74 ls []) := by
              intro a3 n3 e3 H locs ls hP hD hS hl
              refine lv_iload_n hx hb d_Integer_numberOfTrailingZeros_74 rfl (lv_at hl 1 rfl) ?_
              refine lv_iload_n hx hb d_Integer_numberOfTrailingZeros_75 rfl (lv_at hl 0 rfl) ?_
              refine lv_iconst (v := 1) hx hb d_Integer_numberOfTrailingZeros_76 (by decide) ?_
              refine lv_iushr (v := ushI a3 1) hx hb d_Integer_numberOfTrailingZeros_77 rfl ?_
              refine lv_iadd hx hb d_Integer_numberOfTrailingZeros_78 ?_
              exact rfI hx hb hr hlk hS () (by unfold ntI ntB nt4; rw [← ej, if_neg (Int32.not_le.mpr g1), ← e0, ← e1, ← e2, ← e3]) hP hD (Nat.le_of_ble_eq_true rfl) (Nat.le_of_ble_eq_true rfl) d_Integer_numberOfTrailingZeros_79
            refine lv_iload_n hx hb d_Integer_numberOfTrailingZeros_62 rfl (lv_at hl 0 rfl) ?_
            refine lv_iconst (v := 4) hx hb d_Integer_numberOfTrailingZeros_63 (by decide) ?_
            refine lv_icmp_le hx hb d_Integer_numberOfTrailingZeros_64 (tgt := 74) rfl (fun g2 => ?_) (fun g2 => ?_)
            · have g2 := g2
              exact J74 a2 n2 (by unfold ntS; rw [if_pos g2]) H _ ls hP hD hS (lv_sub hl [0, 1] rfl)
            · have g2 := g2
              refine lv_iinc (k := 1) (v := n2 + 2) hx hb d_Integer_numberOfTrailingZeros_67 hl rfl (by rfl) (by decide) rfl (fun ls hl => ?_)
              have hl : lv_has ls 2 [(1, .int (n2 + 2)), (0, .int a2)] := hl
              refine lv_iload_n hx hb d_Integer_numberOfTrailingZeros_70 rfl (lv_at hl 1 rfl) ?_
              refine lv_iconst (v := 2) hx hb d_Integer_numberOfTrailingZeros_71 (by decide) ?_
              refine lv_iushr (v := ushI a2 2) hx hb d_Integer_numberOfTrailingZeros_72 rfl ?_
              refine lv_istore_n hx hb d_Integer_numberOfTrailingZeros_73 rfl hl (by decide) rfl (fun ls hl => ?_)
              have hl : lv_has ls 2 [(0, .int (ushI a2 2)), (1, .int (n2 + 2))] := hl
              exact J74 (ushI a2 2) (n2 + 2) (by unfold ntS; rw [if_neg g2]) H _ ls hP hD hS (lv_sub hl [0, 1] rfl)
          refine lv_iload_n hx hb d_Integer_numberOfTrailingZeros_49 rfl (lv_at hl 0 rfl) ?_
          refine lv_bipush (v := 16) hx hb d_Integer_numberOfTrailingZeros_50 (by decide) ?_
          refine lv_icmp_le hx hb d_Integer_numberOfTrailingZeros_52 (tgt := 62) rfl (fun g3 => ?_) (fun g3 => ?_)
          · have g3 := g3
            exact J62 a1 n1 (by unfold ntS; rw [if_pos g3]) H _ ls hP hD hS (lv_sub hl [0, 1] rfl)
          · have g3 := g3
            refine lv_iinc (k := 1) (v := n1 + 4) hx hb d_Integer_numberOfTrailingZeros_55 hl rfl (by rfl) (by decide) rfl (fun ls hl => ?_)
            have hl : lv_has ls 2 [(1, .int (n1 + 4)), (0, .int a1)] := hl
            refine lv_iload_n hx hb d_Integer_numberOfTrailingZeros_58 rfl (lv_at hl 1 rfl) ?_
            refine lv_iconst (v := 4) hx hb d_Integer_numberOfTrailingZeros_59 (by decide) ?_
            refine lv_iushr (v := ushI a1 4) hx hb d_Integer_numberOfTrailingZeros_60 rfl ?_
            refine lv_istore_n hx hb d_Integer_numberOfTrailingZeros_61 rfl hl (by decide) rfl (fun ls hl => ?_)
            have hl : lv_has ls 2 [(0, .int (ushI a1 4)), (1, .int (n1 + 4))] := hl
            exact J62 (ushI a1 4) (n1 + 4) (by unfold ntS; rw [if_neg g3]) H _ ls hP hD hS (lv_sub hl [0, 1] rfl)
        refine lv_iload_n hx hb d_Integer_numberOfTrailingZeros_34 rfl (lv_at hl 0 rfl) ?_
        refine lv_sipush (v := 256) hx hb d_Integer_numberOfTrailingZeros_35 (by decide) ?_
        refine lv_icmp_le hx hb d_Integer_numberOfTrailingZeros_38 (tgt := 49) rfl (fun g4 => ?_) (fun g4 => ?_)
        · have g4 := g4
          exact J49 a0 n0 (by unfold ntS; rw [if_pos g4]) H _ ls hP hD hS (lv_sub hl [0, 1] rfl)
        · have g4 := g4
          refine lv_iinc (k := 1) (v := n0 + 8) hx hb d_Integer_numberOfTrailingZeros_41 hl rfl (by rfl) (by decide) rfl (fun ls hl => ?_)
          have hl : lv_has ls 2 [(1, .int (n0 + 8)), (0, .int a0)] := hl
          refine lv_iload_n hx hb d_Integer_numberOfTrailingZeros_44 rfl (lv_at hl 1 rfl) ?_
          refine lv_bipush (v := 8) hx hb d_Integer_numberOfTrailingZeros_45 (by decide) ?_
          refine lv_iushr (v := ushI a0 8) hx hb d_Integer_numberOfTrailingZeros_47 rfl ?_
          refine lv_istore_n hx hb d_Integer_numberOfTrailingZeros_48 rfl hl (by decide) rfl (fun ls hl => ?_)
          have hl : lv_has ls 2 [(0, .int (ushI a0 8)), (1, .int (n0 + 8))] := hl
          exact J49 (ushI a0 8) (n0 + 8) (by unfold ntS; rw [if_neg g4]) H _ ls hP hD hS (lv_sub hl [0, 1] rfl)
      refine lv_iload_n hx hb d_Integer_numberOfTrailingZeros_19 rfl (lv_at hl 1 rfl) ?_
      refine lv_ldcw (v := 65536) hx hb hown (hE.t w1196 rfl) d_Integer_numberOfTrailingZeros_20 ?_
      refine lv_icmp_le hx hb d_Integer_numberOfTrailingZeros_23 (tgt := 34) rfl (fun g5 => ?_) (fun g5 => ?_)
      · have g5 := g5
        exact J34 j0 1 (by unfold ntS; rw [if_pos g5]) H _ ls hP hD hS (lv_sub hl [1, 0] rfl)
      · have g5 := g5
        refine lv_iinc (k := 0) (v := 17) hx hb d_Integer_numberOfTrailingZeros_26 hl rfl (by decide) (by decide) rfl (fun ls hl => ?_)
        have hl : lv_has ls 2 [(1, .int 17), (0, .int j0)] := hl
        refine lv_iload_n hx hb d_Integer_numberOfTrailingZeros_29 rfl (lv_at hl 1 rfl) ?_
        refine lv_bipush (v := 16) hx hb d_Integer_numberOfTrailingZeros_30 (by decide) ?_
        refine lv_iushr (v := ushI j0 16) hx hb d_Integer_numberOfTrailingZeros_32 rfl ?_
        refine lv_istore_n hx hb d_Integer_numberOfTrailingZeros_33 rfl hl (by decide) rfl (fun ls hl => ?_)
        have hl : lv_has ls 2 [(0, .int (ushI j0 16)), (1, .int 17)] := hl
        exact J34 (ushI j0 16) 17 (by unfold ntS; rw [if_neg g5]; exact congrArg (Prod.mk _) (show (17 : Int32) = 1 + 16 by decide)) H _ ls hP hD hS (lv_sub hl [0, 1] rfl)
    · have g1 := g1
      refine lv_iload_n hx hb d_Integer_numberOfTrailingZeros_12 rfl (lv_at hl 0 rfl) ?_
      refine lv_bipush (v := 32) hx hb d_Integer_numberOfTrailingZeros_13 (by decide) ?_
      refine lv_iand hx hb d_Integer_numberOfTrailingZeros_15 ?_
      exact rfI hx hb hr hlk hS () (by unfold ntI ntB; rw [← ej, if_pos (Int32.not_lt.mp g1)]) hP hD (Nat.le_of_ble_eq_true rfl) (Nat.le_of_ble_eq_true rfl) d_Integer_numberOfTrailingZeros_16
  exact J8 ((v ^^^ (-1)) &&& (v - 1)) rfl H _ ls hP hD hS (lv_sub hl [0] rfl)
theorem d_Long_numberOfTrailingZeros_0 : decode prog_25_method_49_code 0 = .ok (.lload_n 0, 1) := by decide +kernel
theorem d_Long_numberOfTrailingZeros_1 : decode prog_25_method_49_code 1 = .ok (.l2i, 1) := by decide +kernel
theorem d_Long_numberOfTrailingZeros_2 : decode prog_25_method_49_code 2 = .ok (.istore_n 2, 1) := by decide +kernel
theorem d_Long_numberOfTrailingZeros_3 : decode prog_25_method_49_code 3 = .ok (.iload_n 2, 1) := by decide +kernel
theorem d_Long_numberOfTrailingZeros_4 : decode prog_25_method_49_code 4 = .ok (.ifCond .ne 17, 3) := by decide +kernel
theorem d_Long_numberOfTrailingZeros_21 : decode prog_25_method_49_code 21 = .ok (.iload_n 2, 1) := by decide +kernel
theorem d_Long_numberOfTrailingZeros_22 : decode prog_25_method_49_code 22 = .ok (.invokestatic 311, 3) := by decide +kernel
theorem d_Long_numberOfTrailingZeros_25 : decode prog_25_method_49_code 25 = .ok (.ireturn, 1) := by decide +kernel
theorem d_Long_numberOfTrailingZeros_7 : decode prog_25_method_49_code 7 = .ok (.bipush 32, 2) := by decide +kernel
theorem d_Long_numberOfTrailingZeros_9 : decode prog_25_method_49_code 9 = .ok (.lload_n 0, 1) := by decide +kernel
theorem d_Long_numberOfTrailingZeros_10 : decode prog_25_method_49_code 10 = .ok (.bipush 32, 2) := by decide +kernel
theorem d_Long_numberOfTrailingZeros_12 : decode prog_25_method_49_code 12 = .ok (.lushr, 1) := by decide +kernel
theorem d_Long_numberOfTrailingZeros_13 : decode prog_25_method_49_code 13 = .ok (.l2i, 1) := by decide +kernel
theorem d_Long_numberOfTrailingZeros_14 : decode prog_25_method_49_code 14 = .ok (.invokestatic 311, 3) := by decide +kernel
theorem d_Long_numberOfTrailingZeros_17 : decode prog_25_method_49_code 17 = .ok (.iadd, 1) := by decide +kernel
theorem d_Long_numberOfTrailingZeros_18 : decode prog_25_method_49_code 18 = .ok (.goto 7, 3) := by decide +kernel
theorem w1201 : Cond.methodLink "java/lang/Long" 311 ⟨"java/lang/Integer", "numberOfTrailingZeros", "(I)I"⟩ ∈ aW := aw_of (tb_6 (List.mem_of_getElem? (i := 36) rfl)) rfl
theorem w1202 : Cond.code ⟨"java/lang/Integer", "numberOfTrailingZeros", "(I)I"⟩ prog_23_method_48_code 2 (some FieldType.int) ∈ aW := aw_of (tb_6 (List.mem_of_getElem? (i := 38) rfl)) rfl
theorem w1203 : Cond.static ⟨"java/lang/Integer", "numberOfTrailingZeros", "(I)I"⟩ ∈ aW := aw_of (tb_6 (List.mem_of_getElem? (i := 37) rfl)) rfl
set_option maxHeartbeats 4000000 in
set_option maxRecDepth 100000 in
theorem v_ntzL (l : Launch) (D : va_G) (dA : Nat → ClassId) (sz : Nat) (v : Int64) : Met l ⟨"java/lang/Long", "numberOfTrailingZeros", "(J)I"⟩ [Cond.code ⟨"java/lang/Long", "numberOfTrailingZeros", "(J)I"⟩ prog_25_method_49_code 3 (some FieldType.int)] { frames := 2, cells := 0, slots := 0, locals := 21 } (pC D dA [.long v] ([]) sz) (va_Qi (fun (r9 : Int32) (u9 : Unit) => r9 = nI (ctzL v)) (fun (u9 : Unit) t9 => bW D (va_A ([]) sz) ([]) t9) (va_A ([]) sz)) 0 0 (va_A ([]) sz) := by
  refine mkC (y := ⟨"java/lang/Long", "numberOfTrailingZeros", "(J)I"⟩) (cc := prog_25_method_49_code) (maxL := 3) (av := [.long v]) (ws := []) (sz := sz) (Qc := fun A => va_Qi (fun (r9 : Int32) (u9 : Unit) => r9 = nI (ctzL v)) (fun (u9 : Unit) t9 => bW D A ([]) t9) A) (by decide) (Nat.le_of_ble_eq_true rfl) ?_
  intro A p e s m below meth c ls hsz hB
  obtain ⟨hx, hb, hr, hml, hown, hin, hlk, hE, hK, hP, hD, hS, hA, hN, hl⟩ := hB
  have hown : s.vm.findClass "java/lang/Long" = some m.cls := hown
  have hl : lv_has ls 3 [(0, .long v)] := hl
  obtain ⟨H, hH⟩ : ∃ z, z = s.heap := ⟨_, rfl⟩
  have hP : va_P D vwCl ([]) H := by rw [hH]; exact hP
  have hS : va_S A s.heap H [] := by rw [hH]; exact hS
  rw [← hH]
  refine lv_lload_n hx hb d_Long_numberOfTrailingZeros_0 rfl (lv_at hl 0 rfl) ?_
  refine lv_l2i hx hb d_Long_numberOfTrailingZeros_1 rfl ?_
  refine lv_istore_n hx hb d_Long_numberOfTrailingZeros_2 rfl hl (by decide) rfl (fun ls hl => ?_)
  have hl : lv_has ls 3 [(2, .int v.toInt32), (0, .long v)] := hl
  refine lv_iload_n hx hb d_Long_numberOfTrailingZeros_3 rfl (lv_at hl 0 rfl) ?_
  refine lv_if_ne hx hb d_Long_numberOfTrailingZeros_4 (tgt := 21) rfl (fun g1 => ?_) (fun g1 => ?_)
  · have g1 := g1
    refine lv_iload_n hx hb d_Long_numberOfTrailingZeros_21 rfl (lv_at hl 0 rfl) ?_
    have hPc := hP.sub (ws' := []) [] rfl
    have hDc := hD.sub (ws' := []) [] (by decide) rfl
    refine jpI (rnS (As := [.int v.toInt32]) (rest := []) hx hb hml hown hE hK (hN _ _ hS) hPc hDc (v_ntzI l D dA H.size v.toInt32) w1202 w1201 w1203 w1198 rfl rfl ⟨⟨by decide, by decide⟩, rfl⟩ ⟨(Nat.le_of_ble_eq_true rfl), (Nat.le_of_ble_eq_true rfl)⟩ rfl hl.1 rfl (Nat.le_of_ble_eq_true rfl) d_Long_numberOfTrailingZeros_22 ⟨(Nat.le_of_ble_eq_true rfl), (Nat.le_of_ble_eq_true rfl)⟩) hP hD hS hA (fun r2 u9 H locs hp9 hP hD hS => ?_)
    have hP : va_P D vwCl ([]) H := hP
    have hD : va_D A ([]) := hD
    replace hp9 : ntI v.toInt32 = r2 := Eq.symm hp9
    subst hp9
    exact rfI hx hb hr hlk hS () (by rw [← ntL_U]; unfold ntL; rw [if_neg g1]) hP hD (Nat.le_of_ble_eq_true rfl) (Nat.le_of_ble_eq_true rfl) d_Long_numberOfTrailingZeros_25
  · have g1 := g1
    refine lv_bipush (v := 32) hx hb d_Long_numberOfTrailingZeros_7 (by decide) ?_
    refine lv_lload_n hx hb d_Long_numberOfTrailingZeros_9 rfl (lv_at hl 1 rfl) ?_
    refine lv_bipush (v := 32) hx hb d_Long_numberOfTrailingZeros_10 (by decide) ?_
    refine lv_lushr (v := ushL v 32) hx hb d_Long_numberOfTrailingZeros_12 rfl ?_
    refine lv_l2i hx hb d_Long_numberOfTrailingZeros_13 rfl ?_
    have hPc := hP.sub (ws' := []) [] rfl
    have hDc := hD.sub (ws' := []) [] (by decide) rfl
    refine jpI (rnS (As := [.int ((ushL v 32).toInt32)]) (rest := [.int 32]) hx hb hml hown hE hK (hN _ _ hS) hPc hDc (v_ntzI l D dA H.size ((ushL v 32).toInt32)) w1202 w1201 w1203 w1198 rfl rfl ⟨⟨by decide, by decide⟩, rfl⟩ ⟨(Nat.le_of_ble_eq_true rfl), (Nat.le_of_ble_eq_true rfl)⟩ rfl hl.1 rfl (Nat.le_of_ble_eq_true rfl) d_Long_numberOfTrailingZeros_14 ⟨(Nat.le_of_ble_eq_true rfl), (Nat.le_of_ble_eq_true rfl)⟩) hP hD hS hA (fun r4 u9 H locs hp9 hP hD hS => ?_)
    have hP : va_P D vwCl ([]) H := hP
    have hD : va_D A ([]) := hD
    replace hp9 : ntI ((ushL v 32).toInt32) = r4 := Eq.symm hp9
    subst hp9
    refine lv_iadd hx hb d_Long_numberOfTrailingZeros_17 ?_
    refine lv_goto hx hb d_Long_numberOfTrailingZeros_18 (tgt := 25) rfl ?_
    exact rfI hx hb hr hlk hS () (by rw [← ntL_U]; unfold ntL; rw [if_pos g1]) hP hD (Nat.le_of_ble_eq_true rfl) (Nat.le_of_ble_eq_true rfl) d_Long_numberOfTrailingZeros_25
theorem d_C_turnBits_0 : decode prog_4_method_6_code 0 = .ok (.lload_n 0, 1) := by decide +kernel
theorem d_C_turnBits_1 : decode prog_4_method_6_code 1 = .ok (.lconst 0, 1) := by decide +kernel
theorem d_C_turnBits_2 : decode prog_4_method_6_code 2 = .ok (.lcmp, 1) := by decide +kernel
theorem d_C_turnBits_3 : decode prog_4_method_6_code 3 = .ok (.ifCond .ne 5, 3) := by decide +kernel
theorem d_C_turnBits_8 : decode prog_4_method_6_code 8 = .ok (.lload_n 0, 1) := by decide +kernel
theorem d_C_turnBits_9 : decode prog_4_method_6_code 9 = .ok (.ldc2_w 85, 3) := by decide +kernel
theorem d_C_turnBits_12 : decode prog_4_method_6_code 12 = .ok (.lcmp, 1) := by decide +kernel
theorem d_C_turnBits_13 : decode prog_4_method_6_code 13 = .ok (.ifCond .lt 14, 3) := by decide +kernel
theorem d_C_turnBits_27 : decode prog_4_method_6_code 27 = .ok (.lload_n 0, 1) := by decide +kernel
theorem d_C_turnBits_28 : decode prog_4_method_6_code 28 = .ok (.ldc2_w 89, 3) := by decide +kernel
theorem d_C_turnBits_31 : decode prog_4_method_6_code 31 = .ok (.lcmp, 1) := by decide +kernel
theorem d_C_turnBits_32 : decode prog_4_method_6_code 32 = .ok (.ifCond .lt 14, 3) := by decide +kernel
theorem d_C_turnBits_46 : decode prog_4_method_6_code 46 = .ok (.lload_n 0, 1) := by decide +kernel
theorem d_C_turnBits_47 : decode prog_4_method_6_code 47 = .ok (.ldc2_w 93, 3) := by decide +kernel
theorem d_C_turnBits_50 : decode prog_4_method_6_code 50 = .ok (.lcmp, 1) := by decide +kernel
theorem d_C_turnBits_51 : decode prog_4_method_6_code 51 = .ok (.ifCond .lt 16, 3) := by decide +kernel
theorem d_C_turnBits_67 : decode prog_4_method_6_code 67 = .ok (.bipush 45, 2) := by decide +kernel
theorem d_C_turnBits_69 : decode prog_4_method_6_code 69 = .ok (.ireturn, 1) := by decide +kernel
theorem d_C_turnBits_54 : decode prog_4_method_6_code 54 = .ok (.lload_n 0, 1) := by decide +kernel
theorem d_C_turnBits_55 : decode prog_4_method_6_code 55 = .ok (.ldc2_w 95, 3) := by decide +kernel
theorem d_C_turnBits_58 : decode prog_4_method_6_code 58 = .ok (.lcmp, 1) := by decide +kernel
theorem d_C_turnBits_59 : decode prog_4_method_6_code 59 = .ok (.ifCond .gt 8, 3) := by decide +kernel
theorem d_C_turnBits_62 : decode prog_4_method_6_code 62 = .ok (.bipush 17, 2) := by decide +kernel
theorem d_C_turnBits_64 : decode prog_4_method_6_code 64 = .ok (.goto 5, 3) := by decide +kernel
theorem d_C_turnBits_35 : decode prog_4_method_6_code 35 = .ok (.lload_n 0, 1) := by decide +kernel
theorem d_C_turnBits_36 : decode prog_4_method_6_code 36 = .ok (.ldc2_w 91, 3) := by decide +kernel
theorem d_C_turnBits_39 : decode prog_4_method_6_code 39 = .ok (.lcmp, 1) := by decide +kernel
theorem d_C_turnBits_40 : decode prog_4_method_6_code 40 = .ok (.ifCond .gt 6, 3) := by decide +kernel
theorem d_C_turnBits_43 : decode prog_4_method_6_code 43 = .ok (.bipush 13, 2) := by decide +kernel
theorem d_C_turnBits_45 : decode prog_4_method_6_code 45 = .ok (.ireturn, 1) := by decide +kernel
theorem d_C_turnBits_16 : decode prog_4_method_6_code 16 = .ok (.lload_n 0, 1) := by decide +kernel
theorem d_C_turnBits_17 : decode prog_4_method_6_code 17 = .ok (.ldc2_w 87, 3) := by decide +kernel
theorem d_C_turnBits_20 : decode prog_4_method_6_code 20 = .ok (.lcmp, 1) := by decide +kernel
theorem d_C_turnBits_21 : decode prog_4_method_6_code 21 = .ok (.ifCond .gt 6, 3) := by decide +kernel
theorem d_C_turnBits_24 : decode prog_4_method_6_code 24 = .ok (.bipush 9, 2) := by decide +kernel
theorem d_C_turnBits_26 : decode prog_4_method_6_code 26 = .ok (.ireturn, 1) := by decide +kernel
theorem d_C_turnBits_6 : decode prog_4_method_6_code 6 = .ok (.iconst 1, 1) := by decide +kernel
theorem d_C_turnBits_7 : decode prog_4_method_6_code 7 = .ok (.ireturn, 1) := by decide +kernel
theorem w1204 : Cond.constantLong "SeriesVault$Parcel" 85 (-64) ∈ aW := aw_of (tb_6 (List.mem_of_getElem? (i := 19) rfl)) rfl
theorem w1205 : Cond.constantLong "SeriesVault$Parcel" 89 (-512) ∈ aW := aw_of (tb_6 (List.mem_of_getElem? (i := 21) rfl)) rfl
theorem w1206 : Cond.constantLong "SeriesVault$Parcel" 93 (-4096) ∈ aW := aw_of (tb_6 (List.mem_of_getElem? (i := 23) rfl)) rfl
theorem w1207 : Cond.constantLong "SeriesVault$Parcel" 95 4095 ∈ aW := aw_of (tb_6 (List.mem_of_getElem? (i := 24) rfl)) rfl
theorem w1208 : Cond.constantLong "SeriesVault$Parcel" 91 511 ∈ aW := aw_of (tb_6 (List.mem_of_getElem? (i := 22) rfl)) rfl
theorem w1209 : Cond.constantLong "SeriesVault$Parcel" 87 63 ∈ aW := aw_of (tb_6 (List.mem_of_getElem? (i := 20) rfl)) rfl
set_option maxHeartbeats 4000000 in
set_option maxRecDepth 100000 in
theorem v_turnBits (l : Launch) (D : va_G) (dA : Nat → ClassId) (sz : Nat) (v : Int64) : Met l ⟨"SeriesVault$Parcel", "turnBits", "(J)I"⟩ [Cond.code ⟨"SeriesVault$Parcel", "turnBits", "(J)I"⟩ prog_4_method_6_code 2 (some FieldType.int)] { frames := 1, cells := 0, slots := 0, locals := 0 } (pC D dA [.long v] ([]) sz) (va_Qi (fun (r9 : Int32) (u9 : Unit) => r9 = nI (tbN v)) (fun (u9 : Unit) t9 => bW D (va_A ([]) sz) ([]) t9) (va_A ([]) sz)) 0 0 (va_A ([]) sz) := by
  refine mkC (y := ⟨"SeriesVault$Parcel", "turnBits", "(J)I"⟩) (cc := prog_4_method_6_code) (maxL := 2) (av := [.long v]) (ws := []) (sz := sz) (Qc := fun A => va_Qi (fun (r9 : Int32) (u9 : Unit) => r9 = nI (tbN v)) (fun (u9 : Unit) t9 => bW D A ([]) t9) A) (by decide) (Nat.le_of_ble_eq_true rfl) ?_
  intro A p e s m below meth c ls hsz hB
  obtain ⟨hx, hb, hr, hml, hown, hin, hlk, hE, hK, hP, hD, hS, hA, hN, hl⟩ := hB
  have hown : s.vm.findClass "SeriesVault$Parcel" = some m.cls := hown
  have hl : lv_has ls 2 [(0, .long v)] := hl
  obtain ⟨H, hH⟩ : ∃ z, z = s.heap := ⟨_, rfl⟩
  have hP : va_P D vwCl ([]) H := by rw [hH]; exact hP
  have hS : va_S A s.heap H [] := by rw [hH]; exact hS
  rw [← hH]
  refine lv_lload_n hx hb d_C_turnBits_0 rfl (lv_at hl 0 rfl) ?_
  refine lv_lconst (v := 0) hx hb d_C_turnBits_1 (by decide) ?_
  refine W.lcmp hx hb d_C_turnBits_2 ?_
  refine lv_if_ne hx hb d_C_turnBits_3 (tgt := 8) rfl (fun g1 => ?_) (fun g1 => ?_)
  · have g1 := mt (lg_cmp_eq _ _).mpr g1
    refine lv_lload_n hx hb d_C_turnBits_8 rfl (lv_at hl 0 rfl) ?_
    refine lv_ldc2 (v := (-64)) hx hb hown (hE.t w1204 rfl) d_C_turnBits_9 ?_
    refine W.lcmp hx hb d_C_turnBits_12 ?_
    refine lv_if_lt hx hb d_C_turnBits_13 (tgt := 27) rfl (fun g2 => ?_) (fun g2 => ?_)
    · have g2 := (lg_cmp_lt _ _).mp g2
      refine lv_lload_n hx hb d_C_turnBits_27 rfl (lv_at hl 0 rfl) ?_
      refine lv_ldc2 (v := (-512)) hx hb hown (hE.t w1205 rfl) d_C_turnBits_28 ?_
      refine W.lcmp hx hb d_C_turnBits_31 ?_
      refine lv_if_lt hx hb d_C_turnBits_32 (tgt := 46) rfl (fun g3 => ?_) (fun g3 => ?_)
      · have g3 := (lg_cmp_lt _ _).mp g3
        refine lv_lload_n hx hb d_C_turnBits_46 rfl (lv_at hl 0 rfl) ?_
        refine lv_ldc2 (v := (-4096)) hx hb hown (hE.t w1206 rfl) d_C_turnBits_47 ?_
        refine W.lcmp hx hb d_C_turnBits_50 ?_
        refine lv_if_lt hx hb d_C_turnBits_51 (tgt := 67) rfl (fun g4 => ?_) (fun g4 => ?_)
        · have g4 := (lg_cmp_lt _ _).mp g4
          refine lv_bipush (v := 45) hx hb d_C_turnBits_67 (by decide) ?_
          exact rfI hx hb hr hlk hS () (by rw [← tbI_N]; simp [tbI, *]) hP hD (Nat.le_of_ble_eq_true rfl) (Nat.le_of_ble_eq_true rfl) d_C_turnBits_69
        · have g4 := mt (lg_cmp_lt _ _).mpr g4
          refine lv_lload_n hx hb d_C_turnBits_54 rfl (lv_at hl 0 rfl) ?_
          refine lv_ldc2 (v := 4095) hx hb hown (hE.t w1207 rfl) d_C_turnBits_55 ?_
          refine W.lcmp hx hb d_C_turnBits_58 ?_
          refine lv_if_gt hx hb d_C_turnBits_59 (tgt := 67) rfl (fun g5 => ?_) (fun g5 => ?_)
          · have g5 := (lg_cmp_gt _ _).mp g5
            refine lv_bipush (v := 45) hx hb d_C_turnBits_67 (by decide) ?_
            exact rfI hx hb hr hlk hS () (by rw [← tbI_N]; simp [tbI, *]) hP hD (Nat.le_of_ble_eq_true rfl) (Nat.le_of_ble_eq_true rfl) d_C_turnBits_69
          · have g5 := mt (lg_cmp_gt _ _).mpr g5
            refine lv_bipush (v := 17) hx hb d_C_turnBits_62 (by decide) ?_
            refine lv_goto hx hb d_C_turnBits_64 (tgt := 69) rfl ?_
            exact rfI hx hb hr hlk hS () (by rw [← tbI_N]; simp [tbI, *]) hP hD (Nat.le_of_ble_eq_true rfl) (Nat.le_of_ble_eq_true rfl) d_C_turnBits_69
      · have g3 := mt (lg_cmp_lt _ _).mpr g3
        refine lv_lload_n hx hb d_C_turnBits_35 rfl (lv_at hl 0 rfl) ?_
        refine lv_ldc2 (v := 511) hx hb hown (hE.t w1208 rfl) d_C_turnBits_36 ?_
        refine W.lcmp hx hb d_C_turnBits_39 ?_
        refine lv_if_gt hx hb d_C_turnBits_40 (tgt := 46) rfl (fun g6 => ?_) (fun g6 => ?_)
        · have g6 := (lg_cmp_gt _ _).mp g6
          refine lv_lload_n hx hb d_C_turnBits_46 rfl (lv_at hl 0 rfl) ?_
          refine lv_ldc2 (v := (-4096)) hx hb hown (hE.t w1206 rfl) d_C_turnBits_47 ?_
          refine W.lcmp hx hb d_C_turnBits_50 ?_
          refine lv_if_lt hx hb d_C_turnBits_51 (tgt := 67) rfl (fun g7 => ?_) (fun g7 => ?_)
          · have g7 := (lg_cmp_lt _ _).mp g7
            refine lv_bipush (v := 45) hx hb d_C_turnBits_67 (by decide) ?_
            exact rfI hx hb hr hlk hS () (by rw [← tbI_N]; simp [tbI, *]) hP hD (Nat.le_of_ble_eq_true rfl) (Nat.le_of_ble_eq_true rfl) d_C_turnBits_69
          · have g7 := mt (lg_cmp_lt _ _).mpr g7
            refine lv_lload_n hx hb d_C_turnBits_54 rfl (lv_at hl 0 rfl) ?_
            refine lv_ldc2 (v := 4095) hx hb hown (hE.t w1207 rfl) d_C_turnBits_55 ?_
            refine W.lcmp hx hb d_C_turnBits_58 ?_
            refine lv_if_gt hx hb d_C_turnBits_59 (tgt := 67) rfl (fun g8 => ?_) (fun g8 => ?_)
            · have g8 := (lg_cmp_gt _ _).mp g8
              refine lv_bipush (v := 45) hx hb d_C_turnBits_67 (by decide) ?_
              exact rfI hx hb hr hlk hS () (by rw [← tbI_N]; simp [tbI, *]) hP hD (Nat.le_of_ble_eq_true rfl) (Nat.le_of_ble_eq_true rfl) d_C_turnBits_69
            · have g8 := mt (lg_cmp_gt _ _).mpr g8
              refine lv_bipush (v := 17) hx hb d_C_turnBits_62 (by decide) ?_
              refine lv_goto hx hb d_C_turnBits_64 (tgt := 69) rfl ?_
              exact rfI hx hb hr hlk hS () (by rw [← tbI_N]; simp [tbI, *]) hP hD (Nat.le_of_ble_eq_true rfl) (Nat.le_of_ble_eq_true rfl) d_C_turnBits_69
        · have g6 := mt (lg_cmp_gt _ _).mpr g6
          refine lv_bipush (v := 13) hx hb d_C_turnBits_43 (by decide) ?_
          exact rfI hx hb hr hlk hS () (by rw [← tbI_N]; simp [tbI, *]) hP hD (Nat.le_of_ble_eq_true rfl) (Nat.le_of_ble_eq_true rfl) d_C_turnBits_45
    · have g2 := mt (lg_cmp_lt _ _).mpr g2
      refine lv_lload_n hx hb d_C_turnBits_16 rfl (lv_at hl 0 rfl) ?_
      refine lv_ldc2 (v := 63) hx hb hown (hE.t w1209 rfl) d_C_turnBits_17 ?_
      refine W.lcmp hx hb d_C_turnBits_20 ?_
      refine lv_if_gt hx hb d_C_turnBits_21 (tgt := 27) rfl (fun g9 => ?_) (fun g9 => ?_)
      · have g9 := (lg_cmp_gt _ _).mp g9
        refine lv_lload_n hx hb d_C_turnBits_27 rfl (lv_at hl 0 rfl) ?_
        refine lv_ldc2 (v := (-512)) hx hb hown (hE.t w1205 rfl) d_C_turnBits_28 ?_
        refine W.lcmp hx hb d_C_turnBits_31 ?_
        refine lv_if_lt hx hb d_C_turnBits_32 (tgt := 46) rfl (fun g10 => ?_) (fun g10 => ?_)
        · have g10 := (lg_cmp_lt _ _).mp g10
          refine lv_lload_n hx hb d_C_turnBits_46 rfl (lv_at hl 0 rfl) ?_
          refine lv_ldc2 (v := (-4096)) hx hb hown (hE.t w1206 rfl) d_C_turnBits_47 ?_
          refine W.lcmp hx hb d_C_turnBits_50 ?_
          refine lv_if_lt hx hb d_C_turnBits_51 (tgt := 67) rfl (fun g11 => ?_) (fun g11 => ?_)
          · have g11 := (lg_cmp_lt _ _).mp g11
            refine lv_bipush (v := 45) hx hb d_C_turnBits_67 (by decide) ?_
            exact rfI hx hb hr hlk hS () (by rw [← tbI_N]; simp [tbI, *]) hP hD (Nat.le_of_ble_eq_true rfl) (Nat.le_of_ble_eq_true rfl) d_C_turnBits_69
          · have g11 := mt (lg_cmp_lt _ _).mpr g11
            refine lv_lload_n hx hb d_C_turnBits_54 rfl (lv_at hl 0 rfl) ?_
            refine lv_ldc2 (v := 4095) hx hb hown (hE.t w1207 rfl) d_C_turnBits_55 ?_
            refine W.lcmp hx hb d_C_turnBits_58 ?_
            refine lv_if_gt hx hb d_C_turnBits_59 (tgt := 67) rfl (fun g12 => ?_) (fun g12 => ?_)
            · have g12 := (lg_cmp_gt _ _).mp g12
              refine lv_bipush (v := 45) hx hb d_C_turnBits_67 (by decide) ?_
              exact rfI hx hb hr hlk hS () (by rw [← tbI_N]; simp [tbI, *]) hP hD (Nat.le_of_ble_eq_true rfl) (Nat.le_of_ble_eq_true rfl) d_C_turnBits_69
            · have g12 := mt (lg_cmp_gt _ _).mpr g12
              refine lv_bipush (v := 17) hx hb d_C_turnBits_62 (by decide) ?_
              refine lv_goto hx hb d_C_turnBits_64 (tgt := 69) rfl ?_
              exact rfI hx hb hr hlk hS () (by rw [← tbI_N]; simp [tbI, *]) hP hD (Nat.le_of_ble_eq_true rfl) (Nat.le_of_ble_eq_true rfl) d_C_turnBits_69
        · have g10 := mt (lg_cmp_lt _ _).mpr g10
          refine lv_lload_n hx hb d_C_turnBits_35 rfl (lv_at hl 0 rfl) ?_
          refine lv_ldc2 (v := 511) hx hb hown (hE.t w1208 rfl) d_C_turnBits_36 ?_
          refine W.lcmp hx hb d_C_turnBits_39 ?_
          refine lv_if_gt hx hb d_C_turnBits_40 (tgt := 46) rfl (fun g13 => ?_) (fun g13 => ?_)
          · have g13 := (lg_cmp_gt _ _).mp g13
            refine lv_lload_n hx hb d_C_turnBits_46 rfl (lv_at hl 0 rfl) ?_
            refine lv_ldc2 (v := (-4096)) hx hb hown (hE.t w1206 rfl) d_C_turnBits_47 ?_
            refine W.lcmp hx hb d_C_turnBits_50 ?_
            refine lv_if_lt hx hb d_C_turnBits_51 (tgt := 67) rfl (fun g14 => ?_) (fun g14 => ?_)
            · have g14 := (lg_cmp_lt _ _).mp g14
              refine lv_bipush (v := 45) hx hb d_C_turnBits_67 (by decide) ?_
              exact rfI hx hb hr hlk hS () (by rw [← tbI_N]; simp [tbI, *]) hP hD (Nat.le_of_ble_eq_true rfl) (Nat.le_of_ble_eq_true rfl) d_C_turnBits_69
            · have g14 := mt (lg_cmp_lt _ _).mpr g14
              refine lv_lload_n hx hb d_C_turnBits_54 rfl (lv_at hl 0 rfl) ?_
              refine lv_ldc2 (v := 4095) hx hb hown (hE.t w1207 rfl) d_C_turnBits_55 ?_
              refine W.lcmp hx hb d_C_turnBits_58 ?_
              refine lv_if_gt hx hb d_C_turnBits_59 (tgt := 67) rfl (fun g15 => ?_) (fun g15 => ?_)
              · have g15 := (lg_cmp_gt _ _).mp g15
                refine lv_bipush (v := 45) hx hb d_C_turnBits_67 (by decide) ?_
                exact rfI hx hb hr hlk hS () (by rw [← tbI_N]; simp [tbI, *]) hP hD (Nat.le_of_ble_eq_true rfl) (Nat.le_of_ble_eq_true rfl) d_C_turnBits_69
              · have g15 := mt (lg_cmp_gt _ _).mpr g15
                refine lv_bipush (v := 17) hx hb d_C_turnBits_62 (by decide) ?_
                refine lv_goto hx hb d_C_turnBits_64 (tgt := 69) rfl ?_
                exact rfI hx hb hr hlk hS () (by rw [← tbI_N]; simp [tbI, *]) hP hD (Nat.le_of_ble_eq_true rfl) (Nat.le_of_ble_eq_true rfl) d_C_turnBits_69
          · have g13 := mt (lg_cmp_gt _ _).mpr g13
            refine lv_bipush (v := 13) hx hb d_C_turnBits_43 (by decide) ?_
            exact rfI hx hb hr hlk hS () (by rw [← tbI_N]; simp [tbI, *]) hP hD (Nat.le_of_ble_eq_true rfl) (Nat.le_of_ble_eq_true rfl) d_C_turnBits_45
      · have g9 := mt (lg_cmp_gt _ _).mpr g9
        refine lv_bipush (v := 9) hx hb d_C_turnBits_24 (by decide) ?_
        exact rfI hx hb hr hlk hS () (by rw [← tbI_N]; simp [tbI, *]) hP hD (Nat.le_of_ble_eq_true rfl) (Nat.le_of_ble_eq_true rfl) d_C_turnBits_26
  · have g1 := (lg_cmp_eq _ _).mp g1
    refine lv_iconst (v := 1) hx hb d_C_turnBits_6 (by decide) ?_
    exact rfI hx hb hr hlk hS () (by rw [← tbI_N]; simp [tbI, *]) hP hD (Nat.le_of_ble_eq_true rfl) (Nat.le_of_ble_eq_true rfl) d_C_turnBits_7
theorem d_C_countChunks_0 : decode prog_4_method_3_code 0 = .ok (.iconst 0, 1) := by decide +kernel
theorem d_C_countChunks_1 : decode prog_4_method_3_code 1 = .ok (.istore_n 1, 1) := by decide +kernel
theorem d_C_countChunks_2 : decode prog_4_method_3_code 2 = .ok (.iconst 0, 1) := by decide +kernel
theorem d_C_countChunks_3 : decode prog_4_method_3_code 3 = .ok (.istore_n 2, 1) := by decide +kernel
theorem d_C_countChunks_4 : decode prog_4_method_3_code 4 = .ok (.iload_n 2, 1) := by decide +kernel
theorem d_C_countChunks_5 : decode prog_4_method_3_code 5 = .ok (.aload_n 0, 1) := by decide +kernel
theorem d_C_countChunks_6 : decode prog_4_method_3_code 6 = .ok (.arraylength, 1) := by decide +kernel
theorem d_C_countChunks_7 : decode prog_4_method_3_code 7 = .ok (.if_icmp .ge 27, 3) := by decide +kernel
theorem d_C_countChunks_34 : decode prog_4_method_3_code 34 = .ok (.iload_n 1, 1) := by decide +kernel
theorem d_C_countChunks_35 : decode prog_4_method_3_code 35 = .ok (.ireturn, 1) := by decide +kernel
theorem d_C_countChunks_10 : decode prog_4_method_3_code 10 = .ok (.iload_n 2, 1) := by decide +kernel
theorem d_C_countChunks_11 : decode prog_4_method_3_code 11 = .ok (.ifCond .eq 14, 3) := by decide +kernel
theorem d_C_countChunks_25 : decode prog_4_method_3_code 25 = .ok (.iinc 1 1, 3) := by decide +kernel
theorem d_C_countChunks_28 : decode prog_4_method_3_code 28 = .ok (.iinc 2 1, 3) := by decide +kernel
theorem d_C_countChunks_31 : decode prog_4_method_3_code 31 = .ok (.goto (-27), 3) := by decide +kernel
theorem d_C_countChunks_14 : decode prog_4_method_3_code 14 = .ok (.aload_n 0, 1) := by decide +kernel
theorem d_C_countChunks_15 : decode prog_4_method_3_code 15 = .ok (.iload_n 2, 1) := by decide +kernel
theorem d_C_countChunks_16 : decode prog_4_method_3_code 16 = .ok (.iaload, 1) := by decide +kernel
theorem d_C_countChunks_17 : decode prog_4_method_3_code 17 = .ok (.aload_n 0, 1) := by decide +kernel
theorem d_C_countChunks_18 : decode prog_4_method_3_code 18 = .ok (.iload_n 2, 1) := by decide +kernel
theorem d_C_countChunks_19 : decode prog_4_method_3_code 19 = .ok (.iconst 1, 1) := by decide +kernel
theorem d_C_countChunks_20 : decode prog_4_method_3_code 20 = .ok (.isub, 1) := by decide +kernel
theorem d_C_countChunks_21 : decode prog_4_method_3_code 21 = .ok (.iaload, 1) := by decide +kernel
theorem d_C_countChunks_22 : decode prog_4_method_3_code 22 = .ok (.if_icmp .eq 6, 3) := by decide +kernel
set_option maxHeartbeats 4000000 in
set_option maxRecDepth 100000 in
theorem v_countChunks (l : Launch) (D : va_G) (dA : Nat → ClassId) (sz : Nat) (ws : va_W) (a : Nat) (n : Nat) (o : Nat → Nat) (m_a : (a, .inl (dA 1, n, .inl (fun z9 => nI (o z9)))) ∈ ws) (hn : n ≤ 12000) (ho : ∀ i : Nat, i < n → o i < 256) : Met l ⟨"SeriesVault$Parcel", "countChunks", "([I)I"⟩ [Cond.code ⟨"SeriesVault$Parcel", "countChunks", "([I)I"⟩ prog_4_method_3_code 3 (some FieldType.int)] { frames := 1, cells := 0, slots := 0, locals := 0 } (pC D dA [.ref a] (ws) sz) (va_Qi (fun (r9 : Int32) (u9 : Unit) => r9 = nI (cnt n (chB o))) (fun (u9 : Unit) t9 => bW D (va_A (ws) sz) (ws) t9) (va_A (ws) sz)) 0 0 (va_A (ws) sz) := by
  refine mkC (y := ⟨"SeriesVault$Parcel", "countChunks", "([I)I"⟩) (cc := prog_4_method_3_code) (maxL := 3) (av := [.ref a]) (ws := ws) (sz := sz) (Qc := fun A => va_Qi (fun (r9 : Int32) (u9 : Unit) => r9 = nI (cnt n (chB o))) (fun (u9 : Unit) t9 => bW D A (ws) t9) A) (by decide) (Nat.le_of_ble_eq_true rfl) ?_
  intro A p e s m below meth c ls hsz hB
  obtain ⟨hx, hb, hr, hml, hown, hin, hlk, hE, hK, hP, hD, hS, hA, hN, hl⟩ := hB
  have hown : s.vm.findClass "SeriesVault$Parcel" = some m.cls := hown
  have hl : lv_has ls 3 [(0, .ref a)] := hl
  obtain ⟨H, hH⟩ : ∃ z, z = s.heap := ⟨_, rfl⟩
  have hP : va_P D vwCl (ws) H := by rw [hH]; exact hP
  have hS : va_S A s.heap H [] := by rw [hH]; exact hS
  rw [← hH]
  refine lv_iconst (v := 0) hx hb d_C_countChunks_0 (by decide) ?_
  refine lv_istore_n hx hb d_C_countChunks_1 rfl hl (by decide) rfl (fun ls hl => ?_)
  have hl : lv_has ls 3 [(1, .int 0), (0, .ref a)] := hl
  refine lv_iconst (v := 0) hx hb d_C_countChunks_2 (by decide) ?_
  refine lv_istore_n hx hb d_C_countChunks_3 rfl hl (by decide) rfl (fun ls hl => ?_)
  have hl : lv_has ls 3 [(2, .int 0), (1, .int 0), (0, .ref a)] := hl
  have L4 : ∀ (k9 : Nat) (i : Nat) (k : Nat) (i1 : i ≤ n) (i2 : k = cnt i (chB o)) (hk9 : n - i = k9), ∀ (H : Heap) (locs : List Loc) (ls : Array Slot) (hP : va_P D vwCl (ws) H) (hD : va_D A (ws)) (hS : va_S A s.heap H locs) (hl : lv_has ls 3 [(1, .int (nI k)), (2, .int (nI i)), (0, .ref a)]), W p l e ({ frames := 1, cells := 0, slots := 0, locals := 0 } : Room) s m ([.ref a] : List Value).toArray below meth c H locs 0 0 (MQ below (va_Qi (fun (r9 : Int32) (u9 : Unit) => r9 = nI (cnt n (chB o))) (fun (u9 : Unit) t9 => bW D A (ws) t9) A) ([.ref a] : List Value).toArray s 0 0 A) (F0 m 4 ls []) := by
    intro k9
    induction k9 using Nat.strongRecOn with
    | ind k9 ih4 =>
      intro i k i1 i2 hk9 H locs ls hP hD hS hl
      refine lv_iload_n hx hb d_C_countChunks_4 rfl (lv_at hl 1 rfl) ?_
      refine lv_aload_n hx hb d_C_countChunks_5 rfl (lv_at hl 2 rfl) ?_
      obtain ⟨qp1, ep2⟩ := List.getElem?_of_mem (show ((a, .inl (dA 1, n, .inl (fun z9 => nI (o z9)))) : Nat × va_E) ∈ ws from m_a)
      refine va_alen (v := nI n) hx hb hK hP (qp1) 1 ep2 rfl rfl d_C_countChunks_6 ?_
      refine lv_icmp_ge hx hb d_C_countChunks_7 (tgt := 34) rfl (fun g3 => ?_) (fun g3 => ?_)
      · have g3 := (nI_leI (a := n) (b := i) (by omega) (by omega)).mp g3
        refine lv_iload_n hx hb d_C_countChunks_34 rfl (lv_at hl 0 rfl) ?_
        exact rfI hx hb hr hlk hS () (by rw [i2, show i = n by omega]) hP hD (Nat.le_of_ble_eq_true rfl) (Nat.le_of_ble_eq_true rfl) d_C_countChunks_35
      · have g3 := mt (nI_leI (a := n) (b := i) (by omega) (by omega)).mpr g3
        refine lv_iload_n hx hb d_C_countChunks_10 rfl (lv_at hl 1 rfl) ?_
        refine lv_if_eq hx hb d_C_countChunks_11 (tgt := 25) rfl (fun g4 => ?_) (fun g4 => ?_)
        · have g4 := (nI_eq (a := i) (b := 0) (by omega) (by decide)).mp g4
          refine lv_iinc (k := 0) (v := nI (k + 1)) hx hb d_C_countChunks_25 hl rfl (iincN (k) 1 1 (by decide)) (by decide) rfl (fun ls hl => ?_)
          have hl : lv_has ls 3 [(1, .int (nI (k + 1))), (2, .int (nI i)), (0, .ref a)] := hl
          refine lv_iinc (k := 1) (v := nI (i + 1)) hx hb d_C_countChunks_28 hl rfl (iincN (i) 1 1 (by decide)) (by decide) rfl (fun ls hl => ?_)
          have hl : lv_has ls 3 [(2, .int (nI (i + 1))), (1, .int (nI (k + 1))), (0, .ref a)] := hl
          refine lv_goto hx hb d_C_countChunks_31 (tgt := 4) rfl ?_
          exact ih4 _ (by omega) (i + 1) (k + 1) (by omega) (by rw [cnt_t (show chB o i = true by unfold chB; rw [decide_eq_true g4]; rfl), i2]) rfl H _ ls hP hD hS (lv_sub hl [1, 0, 2] rfl)
        · have g4 := mt (nI_eq (a := i) (b := 0) (by omega) (by decide)).mpr g4
          have c7 := ho i (by omega)
          have c8 := ho (i - 1) (by omega)
          refine lv_aload_n hx hb d_C_countChunks_14 rfl (lv_at hl 2 rfl) ?_
          refine lv_iload_n hx hb d_C_countChunks_15 rfl (lv_at hl 1 rfl) ?_
          obtain ⟨qp5, ep6⟩ := List.getElem?_of_mem (show ((a, .inl (dA 1, n, .inl (fun z9 => nI (o z9)))) : Nat × va_E) ∈ ws from m_a)
          refine nild (f := (fun z9 => nI (o z9))) (n := n) hx hb hK hP (qp5) 1 ep6 rfl (i) (by omega) (by omega) d_C_countChunks_16 ?_
          refine lv_aload_n hx hb d_C_countChunks_17 rfl (lv_at hl 2 rfl) ?_
          refine lv_iload_n hx hb d_C_countChunks_18 rfl (lv_at hl 1 rfl) ?_
          refine lv_iconst (v := 1) hx hb d_C_countChunks_19 (by decide) ?_
          refine lv_isub hx hb d_C_countChunks_20 (tpi (y := nI (i - 1)) (pk_sub (a := i) (b := 1) (by omega)) ?_)
          obtain ⟨qp7, ep8⟩ := List.getElem?_of_mem (show ((a, .inl (dA 1, n, .inl (fun z9 => nI (o z9)))) : Nat × va_E) ∈ ws from m_a)
          refine nild (f := (fun z9 => nI (o z9))) (n := n) hx hb hK hP (qp7) 1 ep8 rfl (i - 1) (by omega) (by omega) d_C_countChunks_21 ?_
          refine lv_icmp_eq hx hb d_C_countChunks_22 (tgt := 28) rfl (fun g9 => ?_) (fun g9 => ?_)
          · have g9 := (nI_eq (a := o i) (b := o (i - 1)) (by omega) (by omega)).mp g9
            refine lv_iinc (k := 1) (v := nI (i + 1)) hx hb d_C_countChunks_28 hl rfl (iincN (i) 1 1 (by decide)) (by decide) rfl (fun ls hl => ?_)
            have hl : lv_has ls 3 [(2, .int (nI (i + 1))), (1, .int (nI k)), (0, .ref a)] := hl
            refine lv_goto hx hb d_C_countChunks_31 (tgt := 4) rfl ?_
            exact ih4 _ (by omega) (i + 1) k (by omega) (by rw [cnt_f (show chB o i = false by unfold chB; rw [decide_eq_false g4, decide_eq_true g9]; rfl), i2]) rfl H _ ls hP hD hS (lv_sub hl [1, 0, 2] rfl)
          · have g9 := mt (nI_eq (a := o i) (b := o (i - 1)) (by omega) (by omega)).mpr g9
            refine lv_iinc (k := 0) (v := nI (k + 1)) hx hb d_C_countChunks_25 hl rfl (iincN (k) 1 1 (by decide)) (by decide) rfl (fun ls hl => ?_)
            have hl : lv_has ls 3 [(1, .int (nI (k + 1))), (2, .int (nI i)), (0, .ref a)] := hl
            refine lv_iinc (k := 1) (v := nI (i + 1)) hx hb d_C_countChunks_28 hl rfl (iincN (i) 1 1 (by decide)) (by decide) rfl (fun ls hl => ?_)
            have hl : lv_has ls 3 [(2, .int (nI (i + 1))), (1, .int (nI (k + 1))), (0, .ref a)] := hl
            refine lv_goto hx hb d_C_countChunks_31 (tgt := 4) rfl ?_
            exact ih4 _ (by omega) (i + 1) (k + 1) (by omega) (by rw [cnt_t (show chB o i = true by unfold chB; rw [decide_eq_false g9]; exact Bool.or_true _), i2]) rfl H _ ls hP hD hS (lv_sub hl [1, 0, 2] rfl)
  exact L4 _ 0 0 (Nat.zero_le _) rfl rfl H _ ls hP hD hS (lv_sub hl [1, 0, 2] rfl)
theorem d_C_greatest_0 : decode prog_4_method_4_code 0 = .ok (.ldc2_w 61, 3) := by decide +kernel
theorem d_C_greatest_3 : decode prog_4_method_4_code 3 = .ok (.lstore_n 1, 1) := by decide +kernel
theorem d_C_greatest_4 : decode prog_4_method_4_code 4 = .ok (.iconst 0, 1) := by decide +kernel
theorem d_C_greatest_5 : decode prog_4_method_4_code 5 = .ok (.istore_n 3, 1) := by decide +kernel
theorem d_C_greatest_6 : decode prog_4_method_4_code 6 = .ok (.iload_n 3, 1) := by decide +kernel
theorem d_C_greatest_7 : decode prog_4_method_4_code 7 = .ok (.aload_n 0, 1) := by decide +kernel
theorem d_C_greatest_8 : decode prog_4_method_4_code 8 = .ok (.arraylength, 1) := by decide +kernel
theorem d_C_greatest_9 : decode prog_4_method_4_code 9 = .ok (.if_icmp .ge 17, 3) := by decide +kernel
theorem d_C_greatest_26 : decode prog_4_method_4_code 26 = .ok (.lload_n 1, 1) := by decide +kernel
theorem d_C_greatest_27 : decode prog_4_method_4_code 27 = .ok (.lreturn, 1) := by decide +kernel
theorem d_C_greatest_12 : decode prog_4_method_4_code 12 = .ok (.lload_n 1, 1) := by decide +kernel
theorem d_C_greatest_13 : decode prog_4_method_4_code 13 = .ok (.aload_n 0, 1) := by decide +kernel
theorem d_C_greatest_14 : decode prog_4_method_4_code 14 = .ok (.iload_n 3, 1) := by decide +kernel
theorem d_C_greatest_15 : decode prog_4_method_4_code 15 = .ok (.laload, 1) := by decide +kernel
theorem d_C_greatest_16 : decode prog_4_method_4_code 16 = .ok (.invokestatic 63, 3) := by decide +kernel
theorem d_C_greatest_19 : decode prog_4_method_4_code 19 = .ok (.lstore_n 1, 1) := by decide +kernel
theorem d_C_greatest_20 : decode prog_4_method_4_code 20 = .ok (.iinc 3 1, 3) := by decide +kernel
theorem d_C_greatest_23 : decode prog_4_method_4_code 23 = .ok (.goto (-17), 3) := by decide +kernel
theorem w1210 : Cond.constantLong "SeriesVault$Parcel" 61 (-1) ∈ aW := aw_of (tb_6 (List.mem_of_getElem? (i := 42) rfl)) rfl
theorem w1211 : Cond.methodLink "SeriesVault$Parcel" 63 ⟨"java/lang/Math", "max", "(JJ)J"⟩ ∈ aW := aw_of (tb_6 (List.mem_of_getElem? (i := 43) rfl)) rfl
set_option maxHeartbeats 4000000 in
set_option maxRecDepth 100000 in
theorem v_greatest (l : Launch) (D : va_G) (dA : Nat → ClassId) (sz : Nat) (ws : va_W) (a : Nat) (n : Nat) (t : Nat → Int64) (m_a : (a, .inl (dA 2, n, .inr (.inl t))) ∈ ws) (hn : n ≤ 12000) : Met l ⟨"SeriesVault$Parcel", "greatest", "([J)J"⟩ [Cond.code ⟨"SeriesVault$Parcel", "greatest", "([J)J"⟩ prog_4_method_4_code 4 (some FieldType.long)] { frames := 1, cells := 0, slots := 0, locals := 15 } (pC D dA [.ref a] (ws) sz) (va_Ql (fun (r9 : Int64) (u9 : Unit) => r9 = grG t n) (fun (u9 : Unit) t9 => bW D (va_A (ws) sz) (ws) t9) (va_A (ws) sz)) 0 0 (va_A (ws) sz) := by
  refine mkC (y := ⟨"SeriesVault$Parcel", "greatest", "([J)J"⟩) (cc := prog_4_method_4_code) (maxL := 4) (av := [.ref a]) (ws := ws) (sz := sz) (Qc := fun A => va_Ql (fun (r9 : Int64) (u9 : Unit) => r9 = grG t n) (fun (u9 : Unit) t9 => bW D A (ws) t9) A) (by decide) (Nat.le_of_ble_eq_true rfl) ?_
  intro A p e s m below meth c ls hsz hB
  obtain ⟨hx, hb, hr, hml, hown, hin, hlk, hE, hK, hP, hD, hS, hA, hN, hl⟩ := hB
  have hown : s.vm.findClass "SeriesVault$Parcel" = some m.cls := hown
  have hl : lv_has ls 4 [(0, .ref a)] := hl
  obtain ⟨H, hH⟩ : ∃ z, z = s.heap := ⟨_, rfl⟩
  have hP : va_P D vwCl (ws) H := by rw [hH]; exact hP
  have hS : va_S A s.heap H [] := by rw [hH]; exact hS
  rw [← hH]
  refine lv_ldc2 (v := (-1)) hx hb hown (hE.t w1210 rfl) d_C_greatest_0 ?_
  refine lv_lstore_n hx hb d_C_greatest_3 rfl hl (by decide) rfl (fun ls hl => ?_)
  have hl : lv_has ls 4 [(1, .long (-1)), (0, .ref a)] := hl
  refine lv_iconst (v := 0) hx hb d_C_greatest_4 (by decide) ?_
  refine lv_istore_n hx hb d_C_greatest_5 rfl hl (by decide) rfl (fun ls hl => ?_)
  have hl : lv_has ls 4 [(3, .int 0), (1, .long (-1)), (0, .ref a)] := hl
  have L6 : ∀ (k9 : Nat) (i : Nat) (g : Int64) (i1 : i ≤ n) (i2 : g = grG t i) (hk9 : n - i = k9), ∀ (H : Heap) (locs : List Loc) (ls : Array Slot) (hP : va_P D vwCl (ws) H) (hD : va_D A (ws)) (hS : va_S A s.heap H locs) (hl : lv_has ls 4 [(1, .long g), (3, .int (nI i)), (0, .ref a)]), W p l e ({ frames := 1, cells := 0, slots := 0, locals := 15 } : Room) s m ([.ref a] : List Value).toArray below meth c H locs 0 0 (MQ below (va_Ql (fun (r9 : Int64) (u9 : Unit) => r9 = grG t n) (fun (u9 : Unit) t9 => bW D A (ws) t9) A) ([.ref a] : List Value).toArray s 0 0 A) (F0 m 6 ls []) := by
    intro k9
    induction k9 using Nat.strongRecOn with
    | ind k9 ih6 =>
      intro i g i1 i2 hk9 H locs ls hP hD hS hl
      refine lv_iload_n hx hb d_C_greatest_6 rfl (lv_at hl 1 rfl) ?_
      refine lv_aload_n hx hb d_C_greatest_7 rfl (lv_at hl 2 rfl) ?_
      obtain ⟨qp1, ep2⟩ := List.getElem?_of_mem (show ((a, .inl (dA 2, n, .inr (.inl t))) : Nat × va_E) ∈ ws from m_a)
      refine va_alen (v := nI n) hx hb hK hP (qp1) 2 ep2 rfl rfl d_C_greatest_8 ?_
      refine lv_icmp_ge hx hb d_C_greatest_9 (tgt := 26) rfl (fun g3 => ?_) (fun g3 => ?_)
      · have g3 := (nI_leI (a := n) (b := i) (by omega) (by omega)).mp g3
        refine lv_lload_n hx hb d_C_greatest_26 rfl (lv_at hl 0 rfl) ?_
        exact rfL hx hb hr hlk hS () (by rw [i2, show i = n by omega]) hP hD (Nat.le_of_ble_eq_true rfl) (Nat.le_of_ble_eq_true rfl) d_C_greatest_27
      · have g3 := mt (nI_leI (a := n) (b := i) (by omega) (by omega)).mpr g3
        refine lv_lload_n hx hb d_C_greatest_12 rfl (lv_at hl 0 rfl) ?_
        refine lv_aload_n hx hb d_C_greatest_13 rfl (lv_at hl 2 rfl) ?_
        refine lv_iload_n hx hb d_C_greatest_14 rfl (lv_at hl 1 rfl) ?_
        obtain ⟨qp4, ep5⟩ := List.getElem?_of_mem (show ((a, .inl (dA 2, n, .inr (.inl t))) : Nat × va_E) ∈ ws from m_a)
        refine nlld (f := t) (n := n) hx hb hK hP (qp4) 2 ep5 rfl (i) (by omega) (by omega) d_C_greatest_15 ?_
        refine va_mmax_long hx hb (hml.trans hl.1.symm) hown (hE.t w1211 rfl) (hE.t w1095 rfl) (hE.t w549 rfl) (hE.t w1096 rfl) (Nat.le_of_ble_eq_true rfl) (Nat.le_of_ble_eq_true rfl) (Nat.le_of_ble_eq_true rfl) (Nat.le_of_ble_eq_true rfl) d_C_greatest_16 (tpl (y := maxL g (t i)) rfl ?_)
        refine lv_lstore_n hx hb d_C_greatest_19 rfl hl (by decide) rfl (fun ls hl => ?_)
        have hl : lv_has ls 4 [(1, .long (maxL g (t i))), (3, .int (nI i)), (0, .ref a)] := hl
        refine lv_iinc (k := 1) (v := nI (i + 1)) hx hb d_C_greatest_20 hl rfl (iincN (i) 1 1 (by decide)) (by decide) rfl (fun ls hl => ?_)
        have hl : lv_has ls 4 [(3, .int (nI (i + 1))), (1, .long (maxL g (t i))), (0, .ref a)] := hl
        refine lv_goto hx hb d_C_greatest_23 (tgt := 6) rfl ?_
        exact ih6 _ (by omega) (i + 1) (maxL g (t i)) (by omega) (by rw [i2]; rfl) rfl H _ ls hP hD hS (lv_sub hl [1, 0, 2] rfl)
  exact L6 _ 0 (-1) (Nat.zero_le _) rfl rfl H _ ls hP hD hS (lv_sub hl [1, 0, 2] rfl)
theorem d_C_bitsOfChunks_0 : decode prog_4_method_5_code 0 = .ok (.iconst 0, 1) := by decide +kernel
theorem d_C_bitsOfChunks_1 : decode prog_4_method_5_code 1 = .ok (.istore_n 3, 1) := by decide +kernel
theorem d_C_bitsOfChunks_2 : decode prog_4_method_5_code 2 = .ok (.lconst 0, 1) := by decide +kernel
theorem d_C_bitsOfChunks_3 : decode prog_4_method_5_code 3 = .ok (.lstore 4, 2) := by decide +kernel
theorem d_C_bitsOfChunks_5 : decode prog_4_method_5_code 5 = .ok (.iconst (-1), 1) := by decide +kernel
theorem d_C_bitsOfChunks_6 : decode prog_4_method_5_code 6 = .ok (.istore 6, 2) := by decide +kernel
theorem d_C_bitsOfChunks_8 : decode prog_4_method_5_code 8 = .ok (.iconst 0, 1) := by decide +kernel
theorem d_C_bitsOfChunks_9 : decode prog_4_method_5_code 9 = .ok (.istore 7, 2) := by decide +kernel
theorem d_C_bitsOfChunks_11 : decode prog_4_method_5_code 11 = .ok (.iconst 0, 1) := by decide +kernel
theorem d_C_bitsOfChunks_12 : decode prog_4_method_5_code 12 = .ok (.istore 8, 2) := by decide +kernel
theorem d_C_bitsOfChunks_14 : decode prog_4_method_5_code 14 = .ok (.iload 8, 2) := by decide +kernel
theorem d_C_bitsOfChunks_16 : decode prog_4_method_5_code 16 = .ok (.aload_n 0, 1) := by decide +kernel
theorem d_C_bitsOfChunks_17 : decode prog_4_method_5_code 17 = .ok (.arraylength, 1) := by decide +kernel
theorem d_C_bitsOfChunks_18 : decode prog_4_method_5_code 18 = .ok (.if_icmp .ge 170, 3) := by decide +kernel
theorem d_C_bitsOfChunks_188 : decode prog_4_method_5_code 188 = .ok (.iload_n 3, 1) := by decide +kernel
theorem d_C_bitsOfChunks_189 : decode prog_4_method_5_code 189 = .ok (.ireturn, 1) := by decide +kernel
theorem d_C_bitsOfChunks_21 : decode prog_4_method_5_code 21 = .ok (.iload 8, 2) := by decide +kernel
theorem d_C_bitsOfChunks_23 : decode prog_4_method_5_code 23 = .ok (.ifCond .eq 16, 3) := by decide +kernel
theorem d_C_bitsOfChunks_39 : decode prog_4_method_5_code 39 = .ok (.iinc 3 104, 3) := by decide +kernel
theorem d_C_bitsOfChunks_42 : decode prog_4_method_5_code 42 = .ok (.lconst 0, 1) := by decide +kernel
theorem d_C_bitsOfChunks_43 : decode prog_4_method_5_code 43 = .ok (.lstore 4, 2) := by decide +kernel
theorem d_C_bitsOfChunks_45 : decode prog_4_method_5_code 45 = .ok (.iconst (-1), 1) := by decide +kernel
theorem d_C_bitsOfChunks_46 : decode prog_4_method_5_code 46 = .ok (.istore 6, 2) := by decide +kernel
theorem d_C_bitsOfChunks_48 : decode prog_4_method_5_code 48 = .ok (.goto 134, 3) := by decide +kernel
theorem d_C_bitsOfChunks_182 : decode prog_4_method_5_code 182 = .ok (.iinc 8 1, 3) := by decide +kernel
theorem d_C_bitsOfChunks_185 : decode prog_4_method_5_code 185 = .ok (.goto (-171), 3) := by decide +kernel
theorem d_C_bitsOfChunks_26 : decode prog_4_method_5_code 26 = .ok (.aload_n 0, 1) := by decide +kernel
theorem d_C_bitsOfChunks_27 : decode prog_4_method_5_code 27 = .ok (.iload 8, 2) := by decide +kernel
theorem d_C_bitsOfChunks_29 : decode prog_4_method_5_code 29 = .ok (.iaload, 1) := by decide +kernel
theorem d_C_bitsOfChunks_30 : decode prog_4_method_5_code 30 = .ok (.aload_n 0, 1) := by decide +kernel
theorem d_C_bitsOfChunks_31 : decode prog_4_method_5_code 31 = .ok (.iload 8, 2) := by decide +kernel
theorem d_C_bitsOfChunks_33 : decode prog_4_method_5_code 33 = .ok (.iconst 1, 1) := by decide +kernel
theorem d_C_bitsOfChunks_34 : decode prog_4_method_5_code 34 = .ok (.isub, 1) := by decide +kernel
theorem d_C_bitsOfChunks_35 : decode prog_4_method_5_code 35 = .ok (.iaload, 1) := by decide +kernel
theorem d_C_bitsOfChunks_36 : decode prog_4_method_5_code 36 = .ok (.if_icmp .eq 15, 3) := by decide +kernel
theorem d_C_bitsOfChunks_51 : decode prog_4_method_5_code 51 = .ok (.lload 4, 2) := by decide +kernel
theorem d_C_bitsOfChunks_53 : decode prog_4_method_5_code 53 = .ok (.lstore 9, 2) := by decide +kernel
theorem d_C_bitsOfChunks_55 : decode prog_4_method_5_code 55 = .ok (.aload_n 1, 1) := by decide +kernel
theorem d_C_bitsOfChunks_56 : decode prog_4_method_5_code 56 = .ok (.iload 8, 2) := by decide +kernel
theorem d_C_bitsOfChunks_58 : decode prog_4_method_5_code 58 = .ok (.laload, 1) := by decide +kernel
theorem d_C_bitsOfChunks_59 : decode prog_4_method_5_code 59 = .ok (.aload_n 1, 1) := by decide +kernel
theorem d_C_bitsOfChunks_60 : decode prog_4_method_5_code 60 = .ok (.iload 8, 2) := by decide +kernel
theorem d_C_bitsOfChunks_62 : decode prog_4_method_5_code 62 = .ok (.iconst 1, 1) := by decide +kernel
theorem d_C_bitsOfChunks_63 : decode prog_4_method_5_code 63 = .ok (.isub, 1) := by decide +kernel
theorem d_C_bitsOfChunks_64 : decode prog_4_method_5_code 64 = .ok (.laload, 1) := by decide +kernel
theorem d_C_bitsOfChunks_65 : decode prog_4_method_5_code 65 = .ok (.lsub, 1) := by decide +kernel
theorem d_C_bitsOfChunks_66 : decode prog_4_method_5_code 66 = .ok (.lstore 4, 2) := by decide +kernel
theorem d_C_bitsOfChunks_68 : decode prog_4_method_5_code 68 = .ok (.iload_n 3, 1) := by decide +kernel
theorem d_C_bitsOfChunks_69 : decode prog_4_method_5_code 69 = .ok (.lload 4, 2) := by decide +kernel
theorem d_C_bitsOfChunks_71 : decode prog_4_method_5_code 71 = .ok (.lload 9, 2) := by decide +kernel
theorem d_C_bitsOfChunks_73 : decode prog_4_method_5_code 73 = .ok (.lsub, 1) := by decide +kernel
theorem d_C_bitsOfChunks_74 : decode prog_4_method_5_code 74 = .ok (.invokestatic 69, 3) := by decide +kernel
theorem d_C_bitsOfChunks_77 : decode prog_4_method_5_code 77 = .ok (.iadd, 1) := by decide +kernel
theorem d_C_bitsOfChunks_78 : decode prog_4_method_5_code 78 = .ok (.istore_n 3, 1) := by decide +kernel
theorem d_C_bitsOfChunks_79 : decode prog_4_method_5_code 79 = .ok (.aload_n 2, 1) := by decide +kernel
theorem d_C_bitsOfChunks_80 : decode prog_4_method_5_code 80 = .ok (.iload 8, 2) := by decide +kernel
theorem d_C_bitsOfChunks_82 : decode prog_4_method_5_code 82 = .ok (.laload, 1) := by decide +kernel
theorem d_C_bitsOfChunks_83 : decode prog_4_method_5_code 83 = .ok (.aload_n 2, 1) := by decide +kernel
theorem d_C_bitsOfChunks_84 : decode prog_4_method_5_code 84 = .ok (.iload 8, 2) := by decide +kernel
theorem d_C_bitsOfChunks_86 : decode prog_4_method_5_code 86 = .ok (.iconst 1, 1) := by decide +kernel
theorem d_C_bitsOfChunks_87 : decode prog_4_method_5_code 87 = .ok (.isub, 1) := by decide +kernel
theorem d_C_bitsOfChunks_88 : decode prog_4_method_5_code 88 = .ok (.laload, 1) := by decide +kernel
theorem d_C_bitsOfChunks_89 : decode prog_4_method_5_code 89 = .ok (.lxor, 1) := by decide +kernel
theorem d_C_bitsOfChunks_90 : decode prog_4_method_5_code 90 = .ok (.lstore 11, 2) := by decide +kernel
theorem d_C_bitsOfChunks_92 : decode prog_4_method_5_code 92 = .ok (.bipush 31, 2) := by decide +kernel
theorem d_C_bitsOfChunks_94 : decode prog_4_method_5_code 94 = .ok (.lload 11, 2) := by decide +kernel
theorem d_C_bitsOfChunks_96 : decode prog_4_method_5_code 96 = .ok (.invokestatic 73, 3) := by decide +kernel
theorem d_C_bitsOfChunks_99 : decode prog_4_method_5_code 99 = .ok (.invokestatic 78, 3) := by decide +kernel
theorem d_C_bitsOfChunks_102 : decode prog_4_method_5_code 102 = .ok (.istore 13, 2) := by decide +kernel
theorem d_C_bitsOfChunks_104 : decode prog_4_method_5_code 104 = .ok (.lload 11, 2) := by decide +kernel
theorem d_C_bitsOfChunks_106 : decode prog_4_method_5_code 106 = .ok (.invokestatic 82, 3) := by decide +kernel
theorem d_C_bitsOfChunks_109 : decode prog_4_method_5_code 109 = .ok (.istore 14, 2) := by decide +kernel
theorem d_C_bitsOfChunks_111 : decode prog_4_method_5_code 111 = .ok (.lload 11, 2) := by decide +kernel
theorem d_C_bitsOfChunks_113 : decode prog_4_method_5_code 113 = .ok (.lconst 0, 1) := by decide +kernel
theorem d_C_bitsOfChunks_114 : decode prog_4_method_5_code 114 = .ok (.lcmp, 1) := by decide +kernel
theorem d_C_bitsOfChunks_115 : decode prog_4_method_5_code 115 = .ok (.ifCond .ne 9, 3) := by decide +kernel
theorem d_C_bitsOfChunks_160 : decode prog_4_method_5_code 160 = .ok (.iload 13, 2) := by decide +kernel
theorem d_C_bitsOfChunks_162 : decode prog_4_method_5_code 162 = .ok (.istore 6, 2) := by decide +kernel
theorem d_C_bitsOfChunks_164 : decode prog_4_method_5_code 164 = .ok (.bipush 64, 2) := by decide +kernel
theorem d_C_bitsOfChunks_166 : decode prog_4_method_5_code 166 = .ok (.iload 13, 2) := by decide +kernel
theorem d_C_bitsOfChunks_168 : decode prog_4_method_5_code 168 = .ok (.isub, 1) := by decide +kernel
theorem d_C_bitsOfChunks_169 : decode prog_4_method_5_code 169 = .ok (.iload 14, 2) := by decide +kernel
theorem d_C_bitsOfChunks_171 : decode prog_4_method_5_code 171 = .ok (.isub, 1) := by decide +kernel
theorem d_C_bitsOfChunks_172 : decode prog_4_method_5_code 172 = .ok (.istore 7, 2) := by decide +kernel
theorem d_C_bitsOfChunks_174 : decode prog_4_method_5_code 174 = .ok (.iload_n 3, 1) := by decide +kernel
theorem d_C_bitsOfChunks_175 : decode prog_4_method_5_code 175 = .ok (.bipush 13, 2) := by decide +kernel
theorem d_C_bitsOfChunks_177 : decode prog_4_method_5_code 177 = .ok (.iload 7, 2) := by decide +kernel
theorem d_C_bitsOfChunks_179 : decode prog_4_method_5_code 179 = .ok (.iadd, 1) := by decide +kernel
theorem d_C_bitsOfChunks_180 : decode prog_4_method_5_code 180 = .ok (.iadd, 1) := by decide +kernel
theorem d_C_bitsOfChunks_181 : decode prog_4_method_5_code 181 = .ok (.istore_n 3, 1) := by decide +kernel
theorem d_C_bitsOfChunks_124 : decode prog_4_method_5_code 124 = .ok (.iload 6, 2) := by decide +kernel
theorem d_C_bitsOfChunks_126 : decode prog_4_method_5_code 126 = .ok (.iconst (-1), 1) := by decide +kernel
theorem d_C_bitsOfChunks_127 : decode prog_4_method_5_code 127 = .ok (.if_icmp .eq 33, 3) := by decide +kernel
theorem d_C_bitsOfChunks_130 : decode prog_4_method_5_code 130 = .ok (.iload 13, 2) := by decide +kernel
theorem d_C_bitsOfChunks_132 : decode prog_4_method_5_code 132 = .ok (.iload 6, 2) := by decide +kernel
theorem d_C_bitsOfChunks_134 : decode prog_4_method_5_code 134 = .ok (.if_icmp .lt 26, 3) := by decide +kernel
theorem d_C_bitsOfChunks_137 : decode prog_4_method_5_code 137 = .ok (.iload 14, 2) := by decide +kernel
theorem d_C_bitsOfChunks_139 : decode prog_4_method_5_code 139 = .ok (.bipush 64, 2) := by decide +kernel
theorem d_C_bitsOfChunks_141 : decode prog_4_method_5_code 141 = .ok (.iload 6, 2) := by decide +kernel
theorem d_C_bitsOfChunks_143 : decode prog_4_method_5_code 143 = .ok (.isub, 1) := by decide +kernel
theorem d_C_bitsOfChunks_144 : decode prog_4_method_5_code 144 = .ok (.iload 7, 2) := by decide +kernel
theorem d_C_bitsOfChunks_146 : decode prog_4_method_5_code 146 = .ok (.isub, 1) := by decide +kernel
theorem d_C_bitsOfChunks_147 : decode prog_4_method_5_code 147 = .ok (.if_icmp .lt 13, 3) := by decide +kernel
theorem d_C_bitsOfChunks_150 : decode prog_4_method_5_code 150 = .ok (.iload_n 3, 1) := by decide +kernel
theorem d_C_bitsOfChunks_151 : decode prog_4_method_5_code 151 = .ok (.iconst 2, 1) := by decide +kernel
theorem d_C_bitsOfChunks_152 : decode prog_4_method_5_code 152 = .ok (.iload 7, 2) := by decide +kernel
theorem d_C_bitsOfChunks_154 : decode prog_4_method_5_code 154 = .ok (.iadd, 1) := by decide +kernel
theorem d_C_bitsOfChunks_155 : decode prog_4_method_5_code 155 = .ok (.iadd, 1) := by decide +kernel
theorem d_C_bitsOfChunks_156 : decode prog_4_method_5_code 156 = .ok (.istore_n 3, 1) := by decide +kernel
theorem d_C_bitsOfChunks_157 : decode prog_4_method_5_code 157 = .ok (.goto 25, 3) := by decide +kernel
theorem d_C_bitsOfChunks_118 : decode prog_4_method_5_code 118 = .ok (.iinc 3 1, 3) := by decide +kernel
theorem d_C_bitsOfChunks_121 : decode prog_4_method_5_code 121 = .ok (.goto 61, 3) := by decide +kernel
theorem w1212 : Cond.methodLink "SeriesVault$Parcel" 69 ⟨"SeriesVault$Parcel", "turnBits", "(J)I"⟩ ∈ aW := aw_of (tb_6 (List.mem_of_getElem? (i := 16) rfl)) rfl
theorem w1213 : Cond.initialized "SeriesVault$Parcel" ∈ aW := aw_of (tb_1 (List.mem_of_getElem? (i := 33) rfl)) rfl
theorem w1214 : Cond.code ⟨"SeriesVault$Parcel", "turnBits", "(J)I"⟩ prog_4_method_6_code 2 (some FieldType.int) ∈ aW := aw_of (tb_6 (List.mem_of_getElem? (i := 18) rfl)) rfl
theorem w1215 : Cond.static ⟨"SeriesVault$Parcel", "turnBits", "(J)I"⟩ ∈ aW := aw_of (tb_6 (List.mem_of_getElem? (i := 17) rfl)) rfl
theorem w1216 : Cond.methodLink "SeriesVault$Parcel" 73 ⟨"java/lang/Long", "numberOfLeadingZeros", "(J)I"⟩ ∈ aW := aw_of (tb_6 (List.mem_of_getElem? (i := 25) rfl)) rfl
theorem w1217 : Cond.initialized "java/lang/Long" ∈ aW := aw_of (tb_1 (List.mem_of_getElem? (i := 34) rfl)) rfl
theorem w1218 : Cond.code ⟨"java/lang/Long", "numberOfLeadingZeros", "(J)I"⟩ prog_25_method_48_code 3 (some FieldType.int) ∈ aW := aw_of (tb_6 (List.mem_of_getElem? (i := 27) rfl)) rfl
theorem w1219 : Cond.static ⟨"java/lang/Long", "numberOfLeadingZeros", "(J)I"⟩ ∈ aW := aw_of (tb_6 (List.mem_of_getElem? (i := 26) rfl)) rfl
theorem w1220 : Cond.methodLink "SeriesVault$Parcel" 78 ⟨"java/lang/Math", "min", "(II)I"⟩ ∈ aW := aw_of (tb_6 (List.mem_of_getElem? (i := 32) rfl)) rfl
theorem w1221 : Cond.methodLink "SeriesVault$Parcel" 82 ⟨"java/lang/Long", "numberOfTrailingZeros", "(J)I"⟩ ∈ aW := aw_of (tb_6 (List.mem_of_getElem? (i := 33) rfl)) rfl
theorem w1222 : Cond.code ⟨"java/lang/Long", "numberOfTrailingZeros", "(J)I"⟩ prog_25_method_49_code 3 (some FieldType.int) ∈ aW := aw_of (tb_6 (List.mem_of_getElem? (i := 35) rfl)) rfl
theorem w1223 : Cond.static ⟨"java/lang/Long", "numberOfTrailingZeros", "(J)I"⟩ ∈ aW := aw_of (tb_6 (List.mem_of_getElem? (i := 34) rfl)) rfl
set_option maxHeartbeats 4000000 in
set_option maxRecDepth 100000 in
theorem v_bitsOfChunks (l : Launch) (D : va_G) (dA : Nat → ClassId) (sz : Nat) (ws : va_W) (a : Nat) (b : Nat) (c0 : Nat) (n : Nat) (o : Nat → Nat) (t : Nat → Int64) (v : Nat → Int64) (m_a : (a, .inl (dA 1, n, .inl (fun z9 => nI (o z9)))) ∈ ws) (m_b : (b, .inl (dA 2, n, .inr (.inl t))) ∈ ws) (m_c0 : (c0, .inl (dA 2, n, .inr (.inl v))) ∈ ws) (hn : n ≤ 12000) (ho : ∀ i : Nat, i < n → o i < 256) : Met l ⟨"SeriesVault$Parcel", "bitsOfChunks", "([I[J[J)I"⟩ [Cond.code ⟨"SeriesVault$Parcel", "bitsOfChunks", "([I[J[J)I"⟩ prog_4_method_5_code 15 (some FieldType.int)] { frames := 3, cells := 0, slots := 0, locals := 43 } (pC D dA [.ref a, .ref b, .ref c0] (ws) sz) (va_Qi (fun (r9 : Int32) (u9 : Unit) => r9 = nI (bcG o t v n).1) (fun (u9 : Unit) t9 => bW D (va_A (ws) sz) (ws) t9) (va_A (ws) sz)) 0 0 (va_A (ws) sz) := by
  refine mkC (y := ⟨"SeriesVault$Parcel", "bitsOfChunks", "([I[J[J)I"⟩) (cc := prog_4_method_5_code) (maxL := 15) (av := [.ref a, .ref b, .ref c0]) (ws := ws) (sz := sz) (Qc := fun A => va_Qi (fun (r9 : Int32) (u9 : Unit) => r9 = nI (bcG o t v n).1) (fun (u9 : Unit) t9 => bW D A (ws) t9) A) (by decide) (Nat.le_of_ble_eq_true rfl) ?_
  intro A p e s m below meth c ls hsz hB
  obtain ⟨hx, hb, hr, hml, hown, hin, hlk, hE, hK, hP, hD, hS, hA, hN, hl⟩ := hB
  have hown : s.vm.findClass "SeriesVault$Parcel" = some m.cls := hown
  have hl : lv_has ls 15 [(0, .ref a), (1, .ref b), (2, .ref c0)] := hl
  obtain ⟨H, hH⟩ : ∃ z, z = s.heap := ⟨_, rfl⟩
  have hP : va_P D vwCl (ws) H := by rw [hH]; exact hP
  have hS : va_S A s.heap H [] := by rw [hH]; exact hS
  rw [← hH]
  refine lv_iconst (v := 0) hx hb d_C_bitsOfChunks_0 (by decide) ?_
  refine lv_istore_n hx hb d_C_bitsOfChunks_1 rfl hl (by decide) rfl (fun ls hl => ?_)
  have hl : lv_has ls 15 [(3, .int 0), (0, .ref a), (1, .ref b), (2, .ref c0)] := hl
  refine lv_lconst (v := 0) hx hb d_C_bitsOfChunks_2 (by decide) ?_
  refine lv_lstore hx hb d_C_bitsOfChunks_3 hl (by decide) rfl (fun ls hl => ?_)
  have hl : lv_has ls 15 [(4, .long 0), (3, .int 0), (0, .ref a), (1, .ref b), (2, .ref c0)] := hl
  refine lv_iconst (v := (-1)) hx hb d_C_bitsOfChunks_5 (by decide) ?_
  refine lv_istore hx hb d_C_bitsOfChunks_6 hl (by decide) rfl (fun ls hl => ?_)
  have hl : lv_has ls 15 [(6, .int (-1)), (4, .long 0), (3, .int 0), (0, .ref a), (1, .ref b), (2, .ref c0)] := hl
  refine lv_iconst (v := 0) hx hb d_C_bitsOfChunks_8 (by decide) ?_
  refine lv_istore hx hb d_C_bitsOfChunks_9 hl (by decide) rfl (fun ls hl => ?_)
  have hl : lv_has ls 15 [(7, .int 0), (6, .int (-1)), (4, .long 0), (3, .int 0), (0, .ref a), (1, .ref b), (2, .ref c0)] := hl
  refine lv_iconst (v := 0) hx hb d_C_bitsOfChunks_11 (by decide) ?_
  refine lv_istore hx hb d_C_bitsOfChunks_12 hl (by decide) rfl (fun ls hl => ?_)
  have hl : lv_has ls 15 [(8, .int 0), (7, .int 0), (6, .int (-1)), (4, .long 0), (3, .int 0), (0, .ref a), (1, .ref b), (2, .ref c0)] := hl
  have L14 : ∀ (k9 : Nat) (i : Nat) (sm : Nat) (sp : Int64) (fa : Int32) (fl : Nat) (i1 : i ≤ n) (i2 : bcG o t v i = (sm, sp, fa, fl)) (hk9 : n - i = k9), ∀ (H : Heap) (locs : List Loc) (ls : Array Slot) (hP : va_P D vwCl (ws) H) (hD : va_D A (ws)) (hS : va_S A s.heap H locs) (hl : lv_has ls 15 [(3, .int (nI sm)), (4, .long sp), (6, .int fa), (7, .int (nI fl)), (8, .int (nI i)), (0, .ref a), (1, .ref b), (2, .ref c0)]), W p l e ({ frames := 3, cells := 0, slots := 0, locals := 43 } : Room) s m ([.ref a, .ref b, .ref c0] : List Value).toArray below meth c H locs 0 0 (MQ below (va_Qi (fun (r9 : Int32) (u9 : Unit) => r9 = nI (bcG o t v n).1) (fun (u9 : Unit) t9 => bW D A (ws) t9) A) ([.ref a, .ref b, .ref c0] : List Value).toArray s 0 0 A) (F0 m 14 ls []) := by
    intro k9
    induction k9 using Nat.strongRecOn with
    | ind k9 ih14 =>
      intro i sm sp fa fl i1 i2 hk9 H locs ls hP hD hS hl
      refine lv_iload hx hb d_C_bitsOfChunks_14 (lv_at hl 4 rfl) ?_
      refine lv_aload_n hx hb d_C_bitsOfChunks_16 rfl (lv_at hl 5 rfl) ?_
      obtain ⟨qp1, ep2⟩ := List.getElem?_of_mem (show ((a, .inl (dA 1, n, .inl (fun z9 => nI (o z9)))) : Nat × va_E) ∈ ws from m_a)
      refine va_alen (v := nI n) hx hb hK hP (qp1) 1 ep2 rfl rfl d_C_bitsOfChunks_17 ?_
      refine lv_icmp_ge hx hb d_C_bitsOfChunks_18 (tgt := 188) rfl (fun g3 => ?_) (fun g3 => ?_)
      · have g3 := (nI_leI (a := n) (b := i) (by omega) (by omega)).mp g3
        refine lv_iload_n hx hb d_C_bitsOfChunks_188 rfl (lv_at hl 0 rfl) ?_
        exact rfI hx hb hr hlk hS () (by rw [← show i = n by omega, i2]) hP hD (Nat.le_of_ble_eq_true rfl) (Nat.le_of_ble_eq_true rfl) d_C_bitsOfChunks_189
      · have g3 := mt (nI_leI (a := n) (b := i) (by omega) (by omega)).mpr g3
        refine lv_iload hx hb d_C_bitsOfChunks_21 (lv_at hl 4 rfl) ?_
        refine lv_if_eq hx hb d_C_bitsOfChunks_23 (tgt := 39) rfl (fun g4 => ?_) (fun g4 => ?_)
        · have g4 := (nI_eq (a := i) (b := 0) (by omega) (by decide)).mp g4
          refine lv_iinc (k := 0) (v := nI (sm + 104)) hx hb d_C_bitsOfChunks_39 hl rfl (iincN (sm) 104 104 (by decide)) (by decide) rfl (fun ls hl => ?_)
          have hl : lv_has ls 15 [(3, .int (nI (sm + 104))), (4, .long sp), (6, .int fa), (7, .int (nI fl)), (8, .int (nI i)), (0, .ref a), (1, .ref b), (2, .ref c0)] := hl
          refine lv_lconst (v := 0) hx hb d_C_bitsOfChunks_42 (by decide) ?_
          refine lv_lstore hx hb d_C_bitsOfChunks_43 hl (by decide) rfl (fun ls hl => ?_)
          have hl : lv_has ls 15 [(4, .long 0), (3, .int (nI (sm + 104))), (6, .int fa), (7, .int (nI fl)), (8, .int (nI i)), (0, .ref a), (1, .ref b), (2, .ref c0)] := hl
          refine lv_iconst (v := (-1)) hx hb d_C_bitsOfChunks_45 (by decide) ?_
          refine lv_istore hx hb d_C_bitsOfChunks_46 hl (by decide) rfl (fun ls hl => ?_)
          have hl : lv_has ls 15 [(6, .int (-1)), (4, .long 0), (3, .int (nI (sm + 104))), (7, .int (nI fl)), (8, .int (nI i)), (0, .ref a), (1, .ref b), (2, .ref c0)] := hl
          refine lv_goto hx hb d_C_bitsOfChunks_48 (tgt := 182) rfl ?_
          refine lv_iinc (k := 4) (v := nI (i + 1)) hx hb d_C_bitsOfChunks_182 hl rfl (iincN (i) 1 1 (by decide)) (by decide) rfl (fun ls hl => ?_)
          have hl : lv_has ls 15 [(8, .int (nI (i + 1))), (6, .int (-1)), (4, .long 0), (3, .int (nI (sm + 104))), (7, .int (nI fl)), (0, .ref a), (1, .ref b), (2, .ref c0)] := hl
          refine lv_goto hx hb d_C_bitsOfChunks_185 (tgt := 14) rfl ?_
          exact ih14 _ (by omega) (i + 1) (sm + 104) 0 (-1) fl (by omega) (bc_a (Or.inl g4) i2) rfl H _ ls hP hD hS (lv_sub hl [3, 2, 1, 4, 0, 5, 6, 7] rfl)
        · have g4 := mt (nI_eq (a := i) (b := 0) (by omega) (by decide)).mpr g4
          have c7 := ho i (by omega)
          have c8 := ho (i - 1) (by omega)
          refine lv_aload_n hx hb d_C_bitsOfChunks_26 rfl (lv_at hl 5 rfl) ?_
          refine lv_iload hx hb d_C_bitsOfChunks_27 (lv_at hl 4 rfl) ?_
          obtain ⟨qp5, ep6⟩ := List.getElem?_of_mem (show ((a, .inl (dA 1, n, .inl (fun z9 => nI (o z9)))) : Nat × va_E) ∈ ws from m_a)
          refine nild (f := (fun z9 => nI (o z9))) (n := n) hx hb hK hP (qp5) 1 ep6 rfl (i) (by omega) (by omega) d_C_bitsOfChunks_29 ?_
          refine lv_aload_n hx hb d_C_bitsOfChunks_30 rfl (lv_at hl 5 rfl) ?_
          refine lv_iload hx hb d_C_bitsOfChunks_31 (lv_at hl 4 rfl) ?_
          refine lv_iconst (v := 1) hx hb d_C_bitsOfChunks_33 (by decide) ?_
          refine lv_isub hx hb d_C_bitsOfChunks_34 (tpi (y := nI (i - 1)) (pk_sub (a := i) (b := 1) (by omega)) ?_)
          obtain ⟨qp7, ep8⟩ := List.getElem?_of_mem (show ((a, .inl (dA 1, n, .inl (fun z9 => nI (o z9)))) : Nat × va_E) ∈ ws from m_a)
          refine nild (f := (fun z9 => nI (o z9))) (n := n) hx hb hK hP (qp7) 1 ep8 rfl (i - 1) (by omega) (by omega) d_C_bitsOfChunks_35 ?_
          refine lv_icmp_eq hx hb d_C_bitsOfChunks_36 (tgt := 51) rfl (fun g9 => ?_) (fun g9 => ?_)
          · have g9 := (nI_eq (a := o i) (b := o (i - 1)) (by omega) (by omega)).mp g9
            refine lv_lload hx hb d_C_bitsOfChunks_51 (lv_at hl 1 rfl) ?_
            refine lv_lstore hx hb d_C_bitsOfChunks_53 hl (by decide) rfl (fun ls hl => ?_)
            have hl : lv_has ls 15 [(9, .long sp), (3, .int (nI sm)), (4, .long sp), (6, .int fa), (7, .int (nI fl)), (8, .int (nI i)), (0, .ref a), (1, .ref b), (2, .ref c0)] := hl
            refine lv_aload_n hx hb d_C_bitsOfChunks_55 rfl (lv_at hl 7 rfl) ?_
            refine lv_iload hx hb d_C_bitsOfChunks_56 (lv_at hl 5 rfl) ?_
            obtain ⟨qp10, ep11⟩ := List.getElem?_of_mem (show ((b, .inl (dA 2, n, .inr (.inl t))) : Nat × va_E) ∈ ws from m_b)
            refine nlld (f := t) (n := n) hx hb hK hP (qp10) 2 ep11 rfl (i) (by omega) (by omega) d_C_bitsOfChunks_58 ?_
            refine lv_aload_n hx hb d_C_bitsOfChunks_59 rfl (lv_at hl 7 rfl) ?_
            refine lv_iload hx hb d_C_bitsOfChunks_60 (lv_at hl 5 rfl) ?_
            refine lv_iconst (v := 1) hx hb d_C_bitsOfChunks_62 (by decide) ?_
            refine lv_isub hx hb d_C_bitsOfChunks_63 (tpi (y := nI (i - 1)) (pk_sub (a := i) (b := 1) (by omega)) ?_)
            obtain ⟨qp12, ep13⟩ := List.getElem?_of_mem (show ((b, .inl (dA 2, n, .inr (.inl t))) : Nat × va_E) ∈ ws from m_b)
            refine nlld (f := t) (n := n) hx hb hK hP (qp12) 2 ep13 rfl (i - 1) (by omega) (by omega) d_C_bitsOfChunks_64 ?_
            refine lv_lsub hx hb d_C_bitsOfChunks_65 ?_
            refine lv_lstore hx hb d_C_bitsOfChunks_66 hl (by decide) rfl (fun ls hl => ?_)
            have hl : lv_has ls 15 [(4, .long ((t i) - (t (i - 1)))), (9, .long sp), (3, .int (nI sm)), (6, .int fa), (7, .int (nI fl)), (8, .int (nI i)), (0, .ref a), (1, .ref b), (2, .ref c0)] := hl
            refine lv_iload_n hx hb d_C_bitsOfChunks_68 rfl (lv_at hl 2 rfl) ?_
            refine lv_lload hx hb d_C_bitsOfChunks_69 (lv_at hl 0 rfl) ?_
            refine lv_lload hx hb d_C_bitsOfChunks_71 (lv_at hl 1 rfl) ?_
            refine lv_lsub hx hb d_C_bitsOfChunks_73 ?_
            have hPc := hP.sub (ws' := []) [] rfl
            have hDc := hD.sub (ws' := []) [] (by decide) rfl
            refine jpI (rnS (As := [.long (((t i) - (t (i - 1))) - sp)]) (rest := [.int (nI sm)]) hx hb hml hown hE hK (hN _ _ hS) hPc hDc (v_turnBits l D dA H.size (((t i) - (t (i - 1))) - sp)) w1214 w1212 w1215 w1213 rfl rfl ⟨⟨by decide, by decide⟩, rfl⟩ ⟨(Nat.le_of_ble_eq_true rfl), (Nat.le_of_ble_eq_true rfl)⟩ rfl hl.1 rfl (Nat.le_of_ble_eq_true rfl) d_C_bitsOfChunks_74 ⟨(Nat.le_of_ble_eq_true rfl), (Nat.le_of_ble_eq_true rfl)⟩) hP hD hS hA (fun r14 u9 H locs hp9 hP hD hS => ?_)
            have hP : va_P D vwCl (ws) H := hP
            have hD : va_D A (ws) := hD
            replace hp9 : nI (tbN (((t i) - (t (i - 1))) - sp)) = r14 := Eq.symm hp9
            subst hp9
            refine lv_iadd hx hb d_C_bitsOfChunks_77 (tpi (y := nI (sm + (tbN (((t i) - (t (i - 1))) - sp)))) (nI_add (sm) (tbN (((t i) - (t (i - 1))) - sp))) ?_)
            refine lv_istore_n hx hb d_C_bitsOfChunks_78 rfl hl (by decide) rfl (fun ls hl => ?_)
            have hl : lv_has ls 15 [(3, .int (nI (sm + (tbN (((t i) - (t (i - 1))) - sp))))), (4, .long ((t i) - (t (i - 1)))), (9, .long sp), (6, .int fa), (7, .int (nI fl)), (8, .int (nI i)), (0, .ref a), (1, .ref b), (2, .ref c0)] := hl
            refine lv_aload_n hx hb d_C_bitsOfChunks_79 rfl (lv_at hl 8 rfl) ?_
            refine lv_iload hx hb d_C_bitsOfChunks_80 (lv_at hl 5 rfl) ?_
            obtain ⟨qp16, ep17⟩ := List.getElem?_of_mem (show ((c0, .inl (dA 2, n, .inr (.inl v))) : Nat × va_E) ∈ ws from m_c0)
            refine nlld (f := v) (n := n) hx hb hK hP (qp16) 2 ep17 rfl (i) (by omega) (by omega) d_C_bitsOfChunks_82 ?_
            refine lv_aload_n hx hb d_C_bitsOfChunks_83 rfl (lv_at hl 8 rfl) ?_
            refine lv_iload hx hb d_C_bitsOfChunks_84 (lv_at hl 5 rfl) ?_
            refine lv_iconst (v := 1) hx hb d_C_bitsOfChunks_86 (by decide) ?_
            refine lv_isub hx hb d_C_bitsOfChunks_87 (tpi (y := nI (i - 1)) (pk_sub (a := i) (b := 1) (by omega)) ?_)
            obtain ⟨qp18, ep19⟩ := List.getElem?_of_mem (show ((c0, .inl (dA 2, n, .inr (.inl v))) : Nat × va_E) ∈ ws from m_c0)
            refine nlld (f := v) (n := n) hx hb hK hP (qp18) 2 ep19 rfl (i - 1) (by omega) (by omega) d_C_bitsOfChunks_88 ?_
            refine lv_lxor hx hb d_C_bitsOfChunks_89 ?_
            refine lv_lstore hx hb d_C_bitsOfChunks_90 hl (by decide) rfl (fun ls hl => ?_)
            have hl : lv_has ls 15 [(11, .long ((v i) ^^^ (v (i - 1)))), (3, .int (nI (sm + (tbN (((t i) - (t (i - 1))) - sp))))), (4, .long ((t i) - (t (i - 1)))), (9, .long sp), (6, .int fa), (7, .int (nI fl)), (8, .int (nI i)), (0, .ref a), (1, .ref b), (2, .ref c0)] := hl
            refine lv_bipush (v := 31) hx hb d_C_bitsOfChunks_92 (by decide) ?_
            refine lv_lload hx hb d_C_bitsOfChunks_94 (lv_at hl 0 rfl) ?_
            have hPc := hP.sub (ws' := []) [] rfl
            have hDc := hD.sub (ws' := []) [] (by decide) rfl
            refine jpI (rnS (As := [.long ((v i) ^^^ (v (i - 1)))]) (rest := [.int 31]) hx hb hml hown hE hK (hN _ _ hS) hPc hDc (v_nlzL l D dA H.size ((v i) ^^^ (v (i - 1)))) w1218 w1216 w1219 w1217 rfl rfl ⟨⟨by decide, by decide⟩, rfl⟩ ⟨(Nat.le_of_ble_eq_true rfl), (Nat.le_of_ble_eq_true rfl)⟩ rfl hl.1 rfl (Nat.le_of_ble_eq_true rfl) d_C_bitsOfChunks_96 ⟨(Nat.le_of_ble_eq_true rfl), (Nat.le_of_ble_eq_true rfl)⟩) hP hD hS hA (fun r20 u9 H locs hp9 hP hD hS => ?_)
            have hP : va_P D vwCl (ws) H := hP
            have hD : va_D A (ws) := hD
            replace hp9 : nI (clzL ((v i) ^^^ (v (i - 1)))) = r20 := Eq.symm hp9
            subst hp9
            have cz := clzL_le ((v i) ^^^ (v (i - 1)))
            have cz := clzL_le ((v i) ^^^ (v (i - 1)))
            refine va_mmin hx hb (hml.trans hl.1.symm) hown (hE.t w1220 rfl) (hE.t w548 rfl) (hE.t w549 rfl) (hE.t w550 rfl) (Nat.le_of_ble_eq_true rfl) (Nat.le_of_ble_eq_true rfl) (Nat.le_of_ble_eq_true rfl) (Nat.le_of_ble_eq_true rfl) d_C_bitsOfChunks_99 (tpi (y := nI (min 31 (clzL ((v i) ^^^ (v (i - 1)))))) (nI_min (a := 31) (b := clzL ((v i) ^^^ (v (i - 1)))) (by omega) (by omega)) ?_)
            refine tpi (y := nI (abL ((v i) ^^^ (v (i - 1))))) rfl ?_
            refine lv_istore hx hb d_C_bitsOfChunks_102 hl (by decide) rfl (fun ls hl => ?_)
            have hl : lv_has ls 15 [(13, .int (nI (abL ((v i) ^^^ (v (i - 1)))))), (11, .long ((v i) ^^^ (v (i - 1)))), (3, .int (nI (sm + (tbN (((t i) - (t (i - 1))) - sp))))), (4, .long ((t i) - (t (i - 1)))), (9, .long sp), (6, .int fa), (7, .int (nI fl)), (8, .int (nI i)), (0, .ref a), (1, .ref b), (2, .ref c0)] := hl
            refine lv_lload hx hb d_C_bitsOfChunks_104 (lv_at hl 1 rfl) ?_
            have hPc := hP.sub (ws' := []) [] rfl
            have hDc := hD.sub (ws' := []) [] (by decide) rfl
            refine jpI (rnS (As := [.long ((v i) ^^^ (v (i - 1)))]) (rest := []) hx hb hml hown hE hK (hN _ _ hS) hPc hDc (v_ntzL l D dA H.size ((v i) ^^^ (v (i - 1)))) w1222 w1221 w1223 w1217 rfl rfl ⟨⟨by decide, by decide⟩, rfl⟩ ⟨(Nat.le_of_ble_eq_true rfl), (Nat.le_of_ble_eq_true rfl)⟩ rfl hl.1 rfl (Nat.le_of_ble_eq_true rfl) d_C_bitsOfChunks_106 ⟨(Nat.le_of_ble_eq_true rfl), (Nat.le_of_ble_eq_true rfl)⟩) hP hD hS hA (fun r22 u9 H locs hp9 hP hD hS => ?_)
            have hP : va_P D vwCl (ws) H := hP
            have hD : va_D A (ws) := hD
            replace hp9 : nI (ctzL ((v i) ^^^ (v (i - 1)))) = r22 := Eq.symm hp9
            subst hp9
            refine lv_istore hx hb d_C_bitsOfChunks_109 hl (by decide) rfl (fun ls hl => ?_)
            have hl : lv_has ls 15 [(14, .int (nI (ctzL ((v i) ^^^ (v (i - 1)))))), (13, .int (nI (abL ((v i) ^^^ (v (i - 1)))))), (11, .long ((v i) ^^^ (v (i - 1)))), (3, .int (nI (sm + (tbN (((t i) - (t (i - 1))) - sp))))), (4, .long ((t i) - (t (i - 1)))), (9, .long sp), (6, .int fa), (7, .int (nI fl)), (8, .int (nI i)), (0, .ref a), (1, .ref b), (2, .ref c0)] := hl
            refine lv_lload hx hb d_C_bitsOfChunks_111 (lv_at hl 2 rfl) ?_
            refine lv_lconst (v := 0) hx hb d_C_bitsOfChunks_113 (by decide) ?_
            refine W.lcmp hx hb d_C_bitsOfChunks_114 ?_
            refine lv_if_ne hx hb d_C_bitsOfChunks_115 (tgt := 124) rfl (fun g24 => ?_) (fun g24 => ?_)
            · have g24 := mt (lg_cmp_eq _ _).mpr g24
              have J160 : ∀ (hc : fa = -1 ∨ nI (abL ((v i) ^^^ (v (i - 1)))) < fa ∨ nI (ctzL ((v i) ^^^ (v (i - 1)))) < 64 - fa - nI fl), ∀ (H : Heap) (locs : List Loc) (ls : Array Slot) (hP : va_P D vwCl (ws) H) (hD : va_D A (ws)) (hS : va_S A s.heap H locs) (hl : lv_has ls 15 [(3, .int (nI (sm + tbN (t i - t (i - 1) - sp)))), (4, .long (t i - t (i - 1))), (6, .int fa), (7, .int (nI fl)), (8, .int (nI i)), (13, .int (nI (abL ((v i) ^^^ (v (i - 1)))))), (14, .int (nI (ctzL ((v i) ^^^ (v (i - 1)))))), (0, .ref a), (1, .ref b), (2, .ref c0)]), W p l e ({ frames := 3, cells := 0, slots := 0, locals := 43 } : Room) s m ([.ref a, .ref b, .ref c0] : List Value).toArray below meth c H locs 0 0 (MQ below (va_Qi (fun (r9 : Int32) (u9 : Unit) => r9 = nI (bcG o t v n).1) (fun (u9 : Unit) t9 => bW D A (ws) t9) A) ([.ref a, .ref b, .ref c0] : List Value).toArray s 0 0 A) (F0 m 160 ls []) := by
                intro hc H locs ls hP hD hS hl
                have ab1 := abL_le ((v i) ^^^ (v (i - 1)))
                have ab2 := ab_be (x := (v i) ^^^ (v (i - 1))) g24
                refine lv_iload hx hb d_C_bitsOfChunks_160 (lv_at hl 5 rfl) ?_
                refine lv_istore hx hb d_C_bitsOfChunks_162 hl (by decide) rfl (fun ls hl => ?_)
                have hl : lv_has ls 15 [(6, .int (nI (abL ((v i) ^^^ (v (i - 1)))))), (3, .int (nI (sm + tbN (t i - t (i - 1) - sp)))), (4, .long (t i - t (i - 1))), (7, .int (nI fl)), (8, .int (nI i)), (13, .int (nI (abL ((v i) ^^^ (v (i - 1)))))), (14, .int (nI (ctzL ((v i) ^^^ (v (i - 1)))))), (0, .ref a), (1, .ref b), (2, .ref c0)] := hl
                refine lv_bipush (v := 64) hx hb d_C_bitsOfChunks_164 (by decide) ?_
                refine lv_iload hx hb d_C_bitsOfChunks_166 (lv_at hl 5 rfl) ?_
                refine lv_isub hx hb d_C_bitsOfChunks_168 (tpi (y := nI (64 - (abL ((v i) ^^^ (v (i - 1)))))) (pk_sub (a := 64) (b := abL ((v i) ^^^ (v (i - 1)))) (by omega)) ?_)
                refine lv_iload hx hb d_C_bitsOfChunks_169 (lv_at hl 6 rfl) ?_
                refine lv_isub hx hb d_C_bitsOfChunks_171 (tpi (y := nI ((64 - (abL ((v i) ^^^ (v (i - 1))))) - (ctzL ((v i) ^^^ (v (i - 1)))))) (pk_sub (a := 64 - (abL ((v i) ^^^ (v (i - 1))))) (b := ctzL ((v i) ^^^ (v (i - 1)))) (by omega)) ?_)
                refine lv_istore hx hb d_C_bitsOfChunks_172 hl (by decide) rfl (fun ls hl => ?_)
                have hl : lv_has ls 15 [(7, .int (nI ((64 - (abL ((v i) ^^^ (v (i - 1))))) - (ctzL ((v i) ^^^ (v (i - 1))))))), (6, .int (nI (abL ((v i) ^^^ (v (i - 1)))))), (3, .int (nI (sm + tbN (t i - t (i - 1) - sp)))), (4, .long (t i - t (i - 1))), (8, .int (nI i)), (13, .int (nI (abL ((v i) ^^^ (v (i - 1)))))), (14, .int (nI (ctzL ((v i) ^^^ (v (i - 1)))))), (0, .ref a), (1, .ref b), (2, .ref c0)] := hl
                refine lv_iload_n hx hb d_C_bitsOfChunks_174 rfl (lv_at hl 2 rfl) ?_
                refine lv_bipush (v := 13) hx hb d_C_bitsOfChunks_175 (by decide) ?_
                refine lv_iload hx hb d_C_bitsOfChunks_177 (lv_at hl 0 rfl) ?_
                refine lv_iadd hx hb d_C_bitsOfChunks_179 (tpi (y := nI (13 + ((64 - (abL ((v i) ^^^ (v (i - 1))))) - (ctzL ((v i) ^^^ (v (i - 1))))))) (nI_add (13) ((64 - (abL ((v i) ^^^ (v (i - 1))))) - (ctzL ((v i) ^^^ (v (i - 1)))))) ?_)
                refine lv_iadd hx hb d_C_bitsOfChunks_180 (tpi (y := nI ((sm + tbN (t i - t (i - 1) - sp)) + (13 + ((64 - (abL ((v i) ^^^ (v (i - 1))))) - (ctzL ((v i) ^^^ (v (i - 1)))))))) (nI_add (sm + tbN (t i - t (i - 1) - sp)) (13 + ((64 - (abL ((v i) ^^^ (v (i - 1))))) - (ctzL ((v i) ^^^ (v (i - 1))))))) ?_)
                refine lv_istore_n hx hb d_C_bitsOfChunks_181 rfl hl (by decide) rfl (fun ls hl => ?_)
                have hl : lv_has ls 15 [(3, .int (nI ((sm + tbN (t i - t (i - 1) - sp)) + (13 + ((64 - (abL ((v i) ^^^ (v (i - 1))))) - (ctzL ((v i) ^^^ (v (i - 1))))))))), (7, .int (nI ((64 - (abL ((v i) ^^^ (v (i - 1))))) - (ctzL ((v i) ^^^ (v (i - 1))))))), (6, .int (nI (abL ((v i) ^^^ (v (i - 1)))))), (4, .long (t i - t (i - 1))), (8, .int (nI i)), (13, .int (nI (abL ((v i) ^^^ (v (i - 1)))))), (14, .int (nI (ctzL ((v i) ^^^ (v (i - 1)))))), (0, .ref a), (1, .ref b), (2, .ref c0)] := hl
                refine lv_iinc (k := 4) (v := nI (i + 1)) hx hb d_C_bitsOfChunks_182 hl rfl (iincN (i) 1 1 (by decide)) (by decide) rfl (fun ls hl => ?_)
                have hl : lv_has ls 15 [(8, .int (nI (i + 1))), (3, .int (nI ((sm + tbN (t i - t (i - 1) - sp)) + (13 + ((64 - (abL ((v i) ^^^ (v (i - 1))))) - (ctzL ((v i) ^^^ (v (i - 1))))))))), (7, .int (nI ((64 - (abL ((v i) ^^^ (v (i - 1))))) - (ctzL ((v i) ^^^ (v (i - 1))))))), (6, .int (nI (abL ((v i) ^^^ (v (i - 1)))))), (4, .long (t i - t (i - 1))), (13, .int (nI (abL ((v i) ^^^ (v (i - 1)))))), (14, .int (nI (ctzL ((v i) ^^^ (v (i - 1)))))), (0, .ref a), (1, .ref b), (2, .ref c0)] := hl
                refine lv_goto hx hb d_C_bitsOfChunks_185 (tgt := 14) rfl ?_
                exact ih14 _ (by omega) (i + 1) ((sm + tbN (t i - t (i - 1) - sp)) + (13 + ((64 - (abL ((v i) ^^^ (v (i - 1))))) - (ctzL ((v i) ^^^ (v (i - 1))))))) (t i - t (i - 1)) (nI (abL ((v i) ^^^ (v (i - 1))))) ((64 - (abL ((v i) ^^^ (v (i - 1))))) - (ctzL ((v i) ^^^ (v (i - 1))))) (by omega) (bc_n g4 g9 g24 hc i2) rfl H _ ls hP hD hS (lv_sub hl [1, 4, 3, 2, 0, 7, 8, 9] rfl)
              refine lv_iload hx hb d_C_bitsOfChunks_124 (lv_at hl 6 rfl) ?_
              refine lv_iconst (v := (-1)) hx hb d_C_bitsOfChunks_126 (by decide) ?_
              refine lv_icmp_eq hx hb d_C_bitsOfChunks_127 (tgt := 160) rfl (fun g25 => ?_) (fun g25 => ?_)
              · have g25 := g25
                exact J160 (Or.inl g25) H _ ls hP hD hS (lv_sub hl [3, 4, 6, 7, 8, 1, 0, 9, 10, 11] rfl)
              · have g25 := g25
                refine lv_iload hx hb d_C_bitsOfChunks_130 (lv_at hl 1 rfl) ?_
                refine lv_iload hx hb d_C_bitsOfChunks_132 (lv_at hl 6 rfl) ?_
                refine lv_icmp_lt hx hb d_C_bitsOfChunks_134 (tgt := 160) rfl (fun g26 => ?_) (fun g26 => ?_)
                · have g26 := g26
                  exact J160 (Or.inr (Or.inl g26)) H _ ls hP hD hS (lv_sub hl [3, 4, 6, 7, 8, 1, 0, 9, 10, 11] rfl)
                · have g26 := g26
                  refine lv_iload hx hb d_C_bitsOfChunks_137 (lv_at hl 0 rfl) ?_
                  refine lv_bipush (v := 64) hx hb d_C_bitsOfChunks_139 (by decide) ?_
                  refine lv_iload hx hb d_C_bitsOfChunks_141 (lv_at hl 6 rfl) ?_
                  refine lv_isub hx hb d_C_bitsOfChunks_143 ?_
                  refine lv_iload hx hb d_C_bitsOfChunks_144 (lv_at hl 7 rfl) ?_
                  refine lv_isub hx hb d_C_bitsOfChunks_146 ?_
                  refine lv_icmp_lt hx hb d_C_bitsOfChunks_147 (tgt := 160) rfl (fun g27 => ?_) (fun g27 => ?_)
                  · have g27 := g27
                    exact J160 (Or.inr (Or.inr g27)) H _ ls hP hD hS (lv_sub hl [3, 4, 6, 7, 8, 1, 0, 9, 10, 11] rfl)
                  · have g27 := g27
                    refine lv_iload_n hx hb d_C_bitsOfChunks_150 rfl (lv_at hl 3 rfl) ?_
                    refine lv_iconst (v := 2) hx hb d_C_bitsOfChunks_151 (by decide) ?_
                    refine lv_iload hx hb d_C_bitsOfChunks_152 (lv_at hl 7 rfl) ?_
                    refine lv_iadd hx hb d_C_bitsOfChunks_154 (tpi (y := nI (2 + fl)) (nI_add (2) (fl)) ?_)
                    refine lv_iadd hx hb d_C_bitsOfChunks_155 (tpi (y := nI ((sm + (tbN (((t i) - (t (i - 1))) - sp))) + (2 + fl))) (nI_add (sm + (tbN (((t i) - (t (i - 1))) - sp))) (2 + fl)) ?_)
                    refine lv_istore_n hx hb d_C_bitsOfChunks_156 rfl hl (by decide) rfl (fun ls hl => ?_)
                    have hl : lv_has ls 15 [(3, .int (nI ((sm + (tbN (((t i) - (t (i - 1))) - sp))) + (2 + fl)))), (14, .int (nI (ctzL ((v i) ^^^ (v (i - 1)))))), (13, .int (nI (abL ((v i) ^^^ (v (i - 1)))))), (11, .long ((v i) ^^^ (v (i - 1)))), (4, .long ((t i) - (t (i - 1)))), (9, .long sp), (6, .int fa), (7, .int (nI fl)), (8, .int (nI i)), (0, .ref a), (1, .ref b), (2, .ref c0)] := hl
                    refine lv_goto hx hb d_C_bitsOfChunks_157 (tgt := 182) rfl ?_
                    refine lv_iinc (k := 8) (v := nI (i + 1)) hx hb d_C_bitsOfChunks_182 hl rfl (iincN (i) 1 1 (by decide)) (by decide) rfl (fun ls hl => ?_)
                    have hl : lv_has ls 15 [(8, .int (nI (i + 1))), (3, .int (nI ((sm + (tbN (((t i) - (t (i - 1))) - sp))) + (2 + fl)))), (14, .int (nI (ctzL ((v i) ^^^ (v (i - 1)))))), (13, .int (nI (abL ((v i) ^^^ (v (i - 1)))))), (11, .long ((v i) ^^^ (v (i - 1)))), (4, .long ((t i) - (t (i - 1)))), (9, .long sp), (6, .int fa), (7, .int (nI fl)), (0, .ref a), (1, .ref b), (2, .ref c0)] := hl
                    refine lv_goto hx hb d_C_bitsOfChunks_185 (tgt := 14) rfl ?_
                    exact ih14 _ (by omega) (i + 1) ((sm + (tbN (((t i) - (t (i - 1))) - sp))) + (2 + fl)) ((t i) - (t (i - 1))) fa fl (by omega) (bc_k g4 g9 g24 g25 g26 g27 i2) rfl H _ ls hP hD hS (lv_sub hl [1, 5, 7, 8, 0, 9, 10, 11] rfl)
            · have g24 := (lg_cmp_eq _ _).mp g24
              refine lv_iinc (k := 3) (v := nI ((sm + (tbN (((t i) - (t (i - 1))) - sp))) + 1)) hx hb d_C_bitsOfChunks_118 hl rfl (iincN (sm + (tbN (((t i) - (t (i - 1))) - sp))) 1 1 (by decide)) (by decide) rfl (fun ls hl => ?_)
              have hl : lv_has ls 15 [(3, .int (nI ((sm + (tbN (((t i) - (t (i - 1))) - sp))) + 1))), (14, .int (nI (ctzL ((v i) ^^^ (v (i - 1)))))), (13, .int (nI (abL ((v i) ^^^ (v (i - 1)))))), (11, .long ((v i) ^^^ (v (i - 1)))), (4, .long ((t i) - (t (i - 1)))), (9, .long sp), (6, .int fa), (7, .int (nI fl)), (8, .int (nI i)), (0, .ref a), (1, .ref b), (2, .ref c0)] := hl
              refine lv_goto hx hb d_C_bitsOfChunks_121 (tgt := 182) rfl ?_
              refine lv_iinc (k := 8) (v := nI (i + 1)) hx hb d_C_bitsOfChunks_182 hl rfl (iincN (i) 1 1 (by decide)) (by decide) rfl (fun ls hl => ?_)
              have hl : lv_has ls 15 [(8, .int (nI (i + 1))), (3, .int (nI ((sm + (tbN (((t i) - (t (i - 1))) - sp))) + 1))), (14, .int (nI (ctzL ((v i) ^^^ (v (i - 1)))))), (13, .int (nI (abL ((v i) ^^^ (v (i - 1)))))), (11, .long ((v i) ^^^ (v (i - 1)))), (4, .long ((t i) - (t (i - 1)))), (9, .long sp), (6, .int fa), (7, .int (nI fl)), (0, .ref a), (1, .ref b), (2, .ref c0)] := hl
              refine lv_goto hx hb d_C_bitsOfChunks_185 (tgt := 14) rfl ?_
              exact ih14 _ (by omega) (i + 1) ((sm + (tbN (((t i) - (t (i - 1))) - sp))) + 1) ((t i) - (t (i - 1))) fa fl (by omega) (bc_z g4 g9 g24 i2) rfl H _ ls hP hD hS (lv_sub hl [1, 5, 7, 8, 0, 9, 10, 11] rfl)
          · have g9 := mt (nI_eq (a := o i) (b := o (i - 1)) (by omega) (by omega)).mpr g9
            refine lv_iinc (k := 0) (v := nI (sm + 104)) hx hb d_C_bitsOfChunks_39 hl rfl (iincN (sm) 104 104 (by decide)) (by decide) rfl (fun ls hl => ?_)
            have hl : lv_has ls 15 [(3, .int (nI (sm + 104))), (4, .long sp), (6, .int fa), (7, .int (nI fl)), (8, .int (nI i)), (0, .ref a), (1, .ref b), (2, .ref c0)] := hl
            refine lv_lconst (v := 0) hx hb d_C_bitsOfChunks_42 (by decide) ?_
            refine lv_lstore hx hb d_C_bitsOfChunks_43 hl (by decide) rfl (fun ls hl => ?_)
            have hl : lv_has ls 15 [(4, .long 0), (3, .int (nI (sm + 104))), (6, .int fa), (7, .int (nI fl)), (8, .int (nI i)), (0, .ref a), (1, .ref b), (2, .ref c0)] := hl
            refine lv_iconst (v := (-1)) hx hb d_C_bitsOfChunks_45 (by decide) ?_
            refine lv_istore hx hb d_C_bitsOfChunks_46 hl (by decide) rfl (fun ls hl => ?_)
            have hl : lv_has ls 15 [(6, .int (-1)), (4, .long 0), (3, .int (nI (sm + 104))), (7, .int (nI fl)), (8, .int (nI i)), (0, .ref a), (1, .ref b), (2, .ref c0)] := hl
            refine lv_goto hx hb d_C_bitsOfChunks_48 (tgt := 182) rfl ?_
            refine lv_iinc (k := 4) (v := nI (i + 1)) hx hb d_C_bitsOfChunks_182 hl rfl (iincN (i) 1 1 (by decide)) (by decide) rfl (fun ls hl => ?_)
            have hl : lv_has ls 15 [(8, .int (nI (i + 1))), (6, .int (-1)), (4, .long 0), (3, .int (nI (sm + 104))), (7, .int (nI fl)), (0, .ref a), (1, .ref b), (2, .ref c0)] := hl
            refine lv_goto hx hb d_C_bitsOfChunks_185 (tgt := 14) rfl ?_
            exact ih14 _ (by omega) (i + 1) (sm + 104) 0 (-1) fl (by omega) (bc_a (Or.inr g9) i2) rfl H _ ls hP hD hS (lv_sub hl [3, 2, 1, 4, 0, 5, 6, 7] rfl)
  exact L14 _ 0 0 0 (-1) 0 (Nat.zero_le _) rfl rfl H _ ls hP hD hS (lv_sub hl [4, 3, 2, 1, 0, 5, 6, 7] rfl)
