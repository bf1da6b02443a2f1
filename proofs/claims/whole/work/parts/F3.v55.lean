/-! A token read. -/
def sg11 (z : Int32) : Prop := z = 37 ∨ z = 40 ∨ z = 41 ∨ z = 42 ∨ z = 43 ∨ z = 44 ∨ z = 45 ∨ z = 47 ∨ z = 61 ∨ z = 123 ∨ z = 125
theorem lg_hit {z : Int32} (h : sg11 z) : Op.lookupswitch.offset [(33, 115), (37, 180), (40, 180), (41, 180), (42, 180), (43, 180), (44, 180), (45, 180), (47, 180), (61, 180), (94, 157), (123, 180), (125, 180)] 182 z.toInt = 180 := by
  rcases h with h | h | h | h | h | h | h | h | h | h | h <;> subst h <;> decide
theorem lg_no {z : Int32} (ha : ¬ z = 33) (hb : ¬ z = 94) (h : ¬ sg11 z) : Op.lookupswitch.offset [(33, 115), (37, 180), (40, 180), (41, 180), (42, 180), (43, 180), (44, 180), (45, 180), (47, 180), (61, 180), (94, 157), (123, 180), (125, 180)] 182 z.toInt = 182 := by
  have k : ∀ (a : Int32) (n : Int), a.toInt = n → ¬ z = a → ¬ n = z.toInt := fun a n e g q => g (Int32.toInt_inj.mp (by rw [e, q]))
  unfold sg11 at h
  simp only [not_or] at h
  obtain ⟨h1, h2, h3, h4, h5, h6, h7, h8, h9, h10, h11⟩ := h
  rw [Op.lookupswitch.offset_cons, if_neg (k 33 33 (by decide) ha), Op.lookupswitch.offset_cons, if_neg (k 37 37 (by decide) h1), Op.lookupswitch.offset_cons, if_neg (k 40 40 (by decide) h2), Op.lookupswitch.offset_cons, if_neg (k 41 41 (by decide) h3), Op.lookupswitch.offset_cons, if_neg (k 42 42 (by decide) h4), Op.lookupswitch.offset_cons, if_neg (k 43 43 (by decide) h5), Op.lookupswitch.offset_cons, if_neg (k 44 44 (by decide) h6), Op.lookupswitch.offset_cons, if_neg (k 45 45 (by decide) h7), Op.lookupswitch.offset_cons, if_neg (k 47 47 (by decide) h8), Op.lookupswitch.offset_cons, if_neg (k 61 61 (by decide) h9), Op.lookupswitch.offset_cons, if_neg (k 94 94 (by decide) hb), Op.lookupswitch.offset_cons, if_neg (k 123 123 (by decide) h10), Op.lookupswitch.offset_cons, if_neg (k 125 125 (by decide) h11)]
  rfl
theorem sg4 (z : Int32) : z = 33 ∨ (¬ z = 33 ∧ z = 94) ∨ (¬ z = 33 ∧ ¬ z = 94 ∧ sg11 z) ∨ (¬ z = 33 ∧ ¬ z = 94 ∧ ¬ sg11 z) := by
  by_cases h1 : z = 33
  · exact Or.inl h1
  · by_cases h2 : z = 94
    · exact Or.inr (Or.inl ⟨h1, h2⟩)
    · by_cases h3 : sg11 z
      · exact Or.inr (Or.inr (Or.inl ⟨h1, h2, h3⟩))
      · exact Or.inr (Or.inr (Or.inr ⟨h1, h2, h3⟩))
theorem sg_0 {z y : Int32} (h : z = 33) (h2 : decide (y = 61) = true) : sgV z y = (260, 2) := by unfold sgV; rw [if_pos h, if_pos (of_decide_eq_true h2)]
theorem sg_1 {z y : Int32} (h : z = 33) (h2 : decide (y = 61) = false) (h3 : decide (y = 94) = true) : sgV z y = (262, 2) := by unfold sgV; rw [if_pos h, if_neg (of_decide_eq_false h2), if_pos (of_decide_eq_true h3)]
theorem sg_2 {z y : Int32} (h : z = 33) (h2 : decide (y = 61) = false) (h3 : decide (y = 94) = false) : sgV z y = (263, 1) := by unfold sgV; rw [if_pos h, if_neg (of_decide_eq_false h2), if_neg (of_decide_eq_false h3)]
theorem sg_3 {z y : Int32} (h : ¬ z = 33) (h2 : z = 94) (h3 : decide (y = 61) = true) : sgV z y = (261, 2) := by unfold sgV; rw [if_neg h, if_pos h2, if_pos (of_decide_eq_true h3)]
theorem sg_4 {z y : Int32} (h : ¬ z = 33) (h2 : z = 94) (h3 : decide (y = 61) = false) : sgV z y = (263, 1) := by unfold sgV; rw [if_neg h, if_pos h2, if_neg (of_decide_eq_false h3)]
theorem sg_5 {z y : Int32} (h : ¬ z = 33 ∧ ¬ z = 94 ∧ sg11 z) : sgV z y = (z, 1) := by unfold sgV; rw [if_neg h.1, if_neg h.2.1]; exact if_pos h.2.2
theorem sg_6 {z y : Int32} (h : ¬ z = 33 ∧ ¬ z = 94 ∧ ¬ sg11 z) : sgV z y = (263, 1) := by unfold sgV; rw [if_neg h.1, if_neg h.2.1]; exact if_neg h.2.2
/-- kind, start, end, number of the token that begins at d; m the number before -/
abbrev TD : Type := Int32 × Nat × Nat × Int64
def tkD (f : Nat → Int32) (n : Nat) (m : Int64) (d : Nat) : TD :=
  if d = n then (256, d, n, m) else
  if isDg (f d) = true then (nuK f d (whE isDg f n d - d), d, whE isDg f n d, nuV f d (whE isDg f n d - d)) else
  if isNm (f d) = true then (258, d, whE isNm f n (d + 1), m) else
  if f d = 34 then (tvK f n d, d, tvN f n d (d + 1), m) else
  ((sgV (f d) (atV f n (d + 1))).1, d, d + 1 + ((sgV (f d) (atV f n (d + 1))).2 - 1), m)
theorem tkD_e {f : Nat → Int32} {n d : Nat} {m : Int64} (h : d = n) : tkD f n m d = (256, d, n, m) := if_pos h
theorem tkD_d {f : Nat → Int32} {n d k : Nat} {m : Int64} (h : ¬ d = n) (h1 : isDg (f d) = true) (hk : whE isDg f n d = d + k) : tkD f n m d = (nuK f d k, d, d + k, nuV f d k) := by
  unfold tkD
  rw [if_neg h, if_pos h1, hk, Nat.add_sub_cancel_left]
theorem tkD_n {f : Nat → Int32} {n d : Nat} {m : Int64} (h : ¬ d = n) (h1 : isDg (f d) = false) (h2 : isNm (f d) = true) : tkD f n m d = (258, d, whE isNm f n (d + 1), m) := by
  unfold tkD
  rw [if_neg h, if_neg (by rw [h1]; decide), if_pos h2]
theorem tkD_t {f : Nat → Int32} {n d : Nat} {m : Int64} (h : ¬ d = n) (h1 : isDg (f d) = false) (h2 : isNm (f d) = false) (h3 : f d = 34) : tkD f n m d = (tvK f n d, d, tvN f n d (d + 1), m) := by
  unfold tkD
  rw [if_neg h, if_neg (by rw [h1]; decide), if_neg (by rw [h2]; decide), if_pos h3]
theorem tkD_s {f : Nat → Int32} {n d : Nat} {m : Int64} (h : ¬ d = n) (h1 : isDg (f d) = false) (h2 : isNm (f d) = false) (h3 : ¬ f d = 34) : tkD f n m d = ((sgV (f d) (atV f n (d + 1))).1, d, d + 1 + ((sgV (f d) (atV f n (d + 1))).2 - 1), m) := by
  unfold tkD
  rw [if_neg h, if_neg (by rw [h1]; decide), if_neg (by rw [h2]; decide), if_neg h3]
/-- token and fault: kind, start, end, number, code, place -/
abbrev TKQ : Type := Int32 × Nat × Nat × Int64 × Int32 × Int32
def rfT (t : TKQ) (k : Int32) (q : Nat) : TKQ := if t.2.2.2.2.1 = 0 then (t.1, t.2.1, t.2.2.1, t.2.2.2.1, k, nI q) else t
def mkT (d : TD) (t : TKQ) : TKQ := (d.1, d.2.1, d.2.2.1, d.2.2.2, t.2.2.2.2.1, t.2.2.2.2.2)
def adX (d : TD) (t : TKQ) : TKQ := if d.1 = 263 then rfT (mkT d t) 1 d.2.1 else mkT d t
/-- the next token -/
def nxT (f : Nat → Int32) (n : Nat) (t : TKQ) : TKQ := adX (tkD f n t.2.2.2.1 (whE isSp f n t.2.2.1)) t
def VS.tk (x : VS) : TKQ := (x.qk, x.qst, x.qen, x.qnum, x.qcode, x.qpl)
def VS.wt (x : VS) (t : TKQ) : VS := VS.s_qpl (VS.s_qcode (VS.s_qnum (VS.s_qen (VS.s_qst (VS.s_qk x t.1) t.2.1) t.2.2.1) t.2.2.2.1) t.2.2.2.2.1) t.2.2.2.2.2
def VS.adv (x : VS) : VS := x.wt (nxT x.tape x.qlen x.tk)
theorem rfq_e (x : VS) (k : Int32) (q : Nat) : x.rfq k q = x.wt (rfT x.tk k q) := by
  unfold VS.rfq rfT
  by_cases h : x.qcode = 0
  · rw [if_pos h, if_pos (show x.tk.2.2.2.2.1 = 0 from h)]
    rfl
  · rw [if_neg h, if_neg (show ¬ x.tk.2.2.2.2.1 = 0 from h)]
    rfl
def VS.wd (x : VS) (d : TD) : VS := VS.s_qnum (VS.s_qen (VS.s_qst (VS.s_qk x d.1) d.2.1) d.2.2.1) d.2.2.2
theorem adv_ok {x : VS} {q : Nat} {d : TD} (hq : whE isSp x.tape x.qlen x.qen = q) (hd : tkD x.tape x.qlen x.qnum q = d) (h : ¬ d.1 = 263) : x.wd d = x.adv := by
  unfold VS.adv nxT
  show _ = x.wt (adX (tkD x.tape x.qlen x.qnum (whE isSp x.tape x.qlen x.qen)) x.tk)
  rw [hq, hd]
  unfold adX
  rw [if_neg h]
  rfl
theorem adv_bad {x : VS} {q : Nat} {d : TD} (hq : whE isSp x.tape x.qlen x.qen = q) (hd : tkD x.tape x.qlen x.qnum q = d) (h : d.1 = 263) : (x.wd d).rfq 1 d.2.1 = x.adv := by
  unfold VS.adv nxT
  show _ = x.wt (adX (tkD x.tape x.qlen x.qnum (whE isSp x.tape x.qlen x.qen)) x.tk)
  rw [hq, hd, rfq_e]
  unfold adX
  rw [if_pos h]
  rfl
theorem d_Q_signOf_0 : decode prog_6_method_17_code 0 = .ok (.iload_n 1, 1) := by decide +kernel
theorem d_Q_signOf_1 : decode prog_6_method_17_code 1 = .ok (.lookupswitch 182 #[(33, 115), (37, 180), (40, 180), (41, 180), (42, 180), (43, 180), (44, 180), (45, 180), (47, 180), (61, 180), (94, 157), (123, 180), (125, 180)], 115) := by decide +kernel
theorem d_Q_signOf_116 : decode prog_6_method_17_code 116 = .ok (.aload_n 0, 1) := by decide +kernel
theorem d_Q_signOf_117 : decode prog_6_method_17_code 117 = .ok (.bipush 61, 2) := by decide +kernel
theorem d_Q_signOf_119 : decode prog_6_method_17_code 119 = .ok (.invokevirtual 162, 3) := by decide +kernel
theorem d_Q_signOf_122 : decode prog_6_method_17_code 122 = .ok (.ifCond .eq 13, 3) := by decide +kernel
theorem d_Q_signOf_135 : decode prog_6_method_17_code 135 = .ok (.aload_n 0, 1) := by decide +kernel
theorem d_Q_signOf_136 : decode prog_6_method_17_code 136 = .ok (.bipush 94, 2) := by decide +kernel
theorem d_Q_signOf_138 : decode prog_6_method_17_code 138 = .ok (.invokevirtual 162, 3) := by decide +kernel
theorem d_Q_signOf_141 : decode prog_6_method_17_code 141 = .ok (.ifCond .eq 13, 3) := by decide +kernel
theorem d_Q_signOf_154 : decode prog_6_method_17_code 154 = .ok (.sipush 263, 3) := by decide +kernel
theorem d_Q_signOf_157 : decode prog_6_method_17_code 157 = .ok (.ireturn, 1) := by decide +kernel
theorem d_Q_signOf_144 : decode prog_6_method_17_code 144 = .ok (.aload_n 0, 1) := by decide +kernel
theorem d_Q_signOf_145 : decode prog_6_method_17_code 145 = .ok (.sipush 262, 3) := by decide +kernel
theorem d_Q_signOf_148 : decode prog_6_method_17_code 148 = .ok (.invokevirtual 165, 3) := by decide +kernel
theorem d_Q_signOf_151 : decode prog_6_method_17_code 151 = .ok (.goto 6, 3) := by decide +kernel
theorem d_Q_signOf_125 : decode prog_6_method_17_code 125 = .ok (.aload_n 0, 1) := by decide +kernel
theorem d_Q_signOf_126 : decode prog_6_method_17_code 126 = .ok (.sipush 260, 3) := by decide +kernel
theorem d_Q_signOf_129 : decode prog_6_method_17_code 129 = .ok (.invokevirtual 165, 3) := by decide +kernel
theorem d_Q_signOf_132 : decode prog_6_method_17_code 132 = .ok (.goto 25, 3) := by decide +kernel
theorem d_Q_signOf_158 : decode prog_6_method_17_code 158 = .ok (.aload_n 0, 1) := by decide +kernel
theorem d_Q_signOf_159 : decode prog_6_method_17_code 159 = .ok (.bipush 61, 2) := by decide +kernel
theorem d_Q_signOf_161 : decode prog_6_method_17_code 161 = .ok (.invokevirtual 162, 3) := by decide +kernel
theorem d_Q_signOf_164 : decode prog_6_method_17_code 164 = .ok (.ifCond .eq 13, 3) := by decide +kernel
theorem d_Q_signOf_177 : decode prog_6_method_17_code 177 = .ok (.sipush 263, 3) := by decide +kernel
theorem d_Q_signOf_180 : decode prog_6_method_17_code 180 = .ok (.ireturn, 1) := by decide +kernel
theorem d_Q_signOf_167 : decode prog_6_method_17_code 167 = .ok (.aload_n 0, 1) := by decide +kernel
theorem d_Q_signOf_168 : decode prog_6_method_17_code 168 = .ok (.sipush 261, 3) := by decide +kernel
theorem d_Q_signOf_171 : decode prog_6_method_17_code 171 = .ok (.invokevirtual 165, 3) := by decide +kernel
theorem d_Q_signOf_174 : decode prog_6_method_17_code 174 = .ok (.goto 6, 3) := by decide +kernel
theorem d_Q_signOf_181 : decode prog_6_method_17_code 181 = .ok (.iload_n 1, 1) := by decide +kernel
theorem d_Q_signOf_182 : decode prog_6_method_17_code 182 = .ok (.ireturn, 1) := by decide +kernel
theorem d_Q_signOf_183 : decode prog_6_method_17_code 183 = .ok (.sipush 263, 3) := by decide +kernel
theorem d_Q_signOf_186 : decode prog_6_method_17_code 186 = .ok (.ireturn, 1) := by decide +kernel
theorem w1566 : Cond.methodLink "SeriesVault$Question" 162 ⟨"SeriesVault$Question", "nextIs", "(I)Z"⟩ ∈ aW := aw_of (tb_6 (List.mem_of_getElem? (i := 217) rfl)) rfl
theorem w1567 : Cond.code ⟨"SeriesVault$Question", "nextIs", "(I)Z"⟩ prog_6_method_18_code 2 (some FieldType.boolean) ∈ aW := aw_of (tb_6 (List.mem_of_getElem? (i := 220) rfl)) rfl
theorem w1568 : Cond.instanceMethod ⟨"SeriesVault$Question", "nextIs", "(I)Z"⟩ ∈ aW := aw_of (tb_6 (List.mem_of_getElem? (i := 219) rfl)) rfl
theorem w1569 : Cond.selects "SeriesVault$Question" ⟨"SeriesVault$Question", "nextIs", "(I)Z"⟩ ⟨"SeriesVault$Question", "nextIs", "(I)Z"⟩ ∈ aW := aw_pr (List.mem_map.mpr ⟨_, pv_3 (List.mem_of_getElem? (i := 7) rfl), rfl⟩) rfl
theorem w1570 : Cond.methodLink "SeriesVault$Question" 165 ⟨"SeriesVault$Question", "longer", "(I)I"⟩ ∈ aW := aw_of (tb_6 (List.mem_of_getElem? (i := 221) rfl)) rfl
theorem w1571 : Cond.code ⟨"SeriesVault$Question", "longer", "(I)I"⟩ prog_6_method_19_code 2 (some FieldType.int) ∈ aW := aw_of (tb_6 (List.mem_of_getElem? (i := 224) rfl)) rfl
theorem w1572 : Cond.instanceMethod ⟨"SeriesVault$Question", "longer", "(I)I"⟩ ∈ aW := aw_of (tb_6 (List.mem_of_getElem? (i := 223) rfl)) rfl
theorem w1573 : Cond.selects "SeriesVault$Question" ⟨"SeriesVault$Question", "longer", "(I)I"⟩ ⟨"SeriesVault$Question", "longer", "(I)I"⟩ ∈ aW := aw_pr (List.mem_map.mpr ⟨_, pv_3 (List.mem_of_getElem? (i := 8) rfl), rfl⟩) rfl
set_option maxHeartbeats 4000000 in
set_option maxRecDepth 100000 in
theorem v_QsignOf (l : Launch) (D : va_G) (dA : Nat → ClassId) (sz : Nat) (h : Nat) (ad : Nat → Nat) (x : VS) (z : Int32) (hq : x.qtp = x.tpA) (h2 : x.qlen ≤ x.tpN) (h3 : x.tpN ≤ 131072) (h1a : x.qen ≤ 131072) : Met l ⟨"SeriesVault$Question", "signOf", "(I)I"⟩ [Cond.code ⟨"SeriesVault$Question", "signOf", "(I)I"⟩ prog_6_method_17_code 2 (some FieldType.int)] { frames := 2, cells := 0, slots := 0, locals := 21 } (pC D dA [.ref (ad 22), .int z] (VW dA h ad x) sz) (va_Qi (fun (r9 : Int32) (u9 : Unit) => r9 = (sgV z (atV x.tape x.qlen x.qen)).1) (fun (u9 : Unit) t9 => bW D (va_A (VW dA h ad x) sz) (VW dA h ad (VS.s_qen x (x.qen + ((sgV z (atV x.tape x.qlen x.qen)).2 - 1)))) t9) (va_A (VW dA h ad x) sz)) 0 0 (va_A (VW dA h ad x) sz) := by
  refine mkC (y := ⟨"SeriesVault$Question", "signOf", "(I)I"⟩) (cc := prog_6_method_17_code) (maxL := 2) (av := [.ref (ad 22), .int z]) (ws := VW dA h ad x) (sz := sz) (Qc := fun A => va_Qi (fun (r9 : Int32) (u9 : Unit) => r9 = (sgV z (atV x.tape x.qlen x.qen)).1) (fun (u9 : Unit) t9 => bW D A (VW dA h ad (VS.s_qen x (x.qen + ((sgV z (atV x.tape x.qlen x.qen)).2 - 1)))) t9) A) (by decide) (Nat.le_of_ble_eq_true rfl) ?_
  intro A p e s m below meth c ls hsz hB
  obtain ⟨hx, hb, hr, hml, hown, hin, hlk, hE, hK, hP, hD, hS, hA, hN, hl⟩ := hB
  have hown : s.vm.findClass "SeriesVault$Question" = some m.cls := hown
  have hl : lv_has ls 2 [(0, .ref (ad 22)), (1, .int z)] := hl
  obtain ⟨H, hH⟩ : ∃ z, z = s.heap := ⟨_, rfl⟩
  have hP : va_P D vwCl (VW dA h ad x) H := by rw [hH]; exact hP
  have hS : va_S A s.heap H [] := by rw [hH]; exact hS
  rw [← hH]
  refine lv_iload_n hx hb d_Q_signOf_0 rfl (lv_at hl 1 rfl) ?_
  rcases sg4 z with h1 | h1 | h1 | h1
  · refine lv_lookup (x := z) (off := 115) (tgt := 116) hx hb d_Q_signOf_1 (by decide) (by rw [h1]; decide) rfl ?_
    refine lv_aload_n hx hb d_Q_signOf_116 rfl (lv_at hl 0 rfl) ?_
    refine lv_bipush (v := 61) hx hb d_Q_signOf_117 (by decide) ?_
    refine jkI (wr := []) (rnV (As := [.int 61]) (rest := []) hx hb hml hown hE hK (hN _ _ hS) hP hD (v_QnextIs l D dA H.size h ad x 61 (show x.qtp = x.tpA from by omega) (show x.qlen ≤ x.tpN from by omega) (show x.tpN ≤ 131072 from by omega) (by decide) (show x.qen ≤ 131072 from by omega)) (q0 := 36) rfl rfl w1567 w1566 w1568 w1569 w665 rfl rfl ⟨⟨by decide, by decide⟩, rfl⟩ ⟨(Nat.le_of_ble_eq_true rfl), (Nat.le_of_ble_eq_true rfl)⟩ rfl hl.1 rfl (Nat.le_of_ble_eq_true rfl) d_Q_signOf_119 ⟨(Nat.le_of_ble_eq_true rfl), (Nat.le_of_ble_eq_true rfl)⟩) hP hD hS hA (fun r1 u2 H locs hp9 hP hD hS => ?_)
    have hP : va_P D vwCl (VW dA h ad x) H := hP
    have hD : va_D A (VW dA h ad x) := hD
    replace hp9 : bI (decide (atV x.tape x.qlen x.qen = 61)) = r1 := Eq.symm hp9
    subst hp9
    refine lv_if_eq hx hb d_Q_signOf_122 (tgt := 135) rfl (fun g3 => ?_) (fun g3 => ?_)
    · have g3 := bI_0 g3
      refine lv_aload_n hx hb d_Q_signOf_135 rfl (lv_at hl 0 rfl) ?_
      refine lv_bipush (v := 94) hx hb d_Q_signOf_136 (by decide) ?_
      refine jkI (wr := []) (rnV (As := [.int 94]) (rest := []) hx hb hml hown hE hK (hN _ _ hS) hP hD (v_QnextIs l D dA H.size h ad x 94 (show x.qtp = x.tpA from by omega) (show x.qlen ≤ x.tpN from by omega) (show x.tpN ≤ 131072 from by omega) (by decide) (show x.qen ≤ 131072 from by omega)) (q0 := 36) rfl rfl w1567 w1566 w1568 w1569 w665 rfl rfl ⟨⟨by decide, by decide⟩, rfl⟩ ⟨(Nat.le_of_ble_eq_true rfl), (Nat.le_of_ble_eq_true rfl)⟩ rfl hl.1 rfl (Nat.le_of_ble_eq_true rfl) d_Q_signOf_138 ⟨(Nat.le_of_ble_eq_true rfl), (Nat.le_of_ble_eq_true rfl)⟩) hP hD hS hA (fun r4 u5 H locs hp9 hP hD hS => ?_)
      have hP : va_P D vwCl (VW dA h ad x) H := hP
      have hD : va_D A (VW dA h ad x) := hD
      replace hp9 : bI (decide (atV x.tape x.qlen x.qen = 94)) = r4 := Eq.symm hp9
      subst hp9
      refine lv_if_eq hx hb d_Q_signOf_141 (tgt := 154) rfl (fun g6 => ?_) (fun g6 => ?_)
      · have g6 := bI_0 g6
        refine lv_sipush (v := 263) hx hb d_Q_signOf_154 (by decide) ?_
        have e9 : (x : VS) = VS.s_qen x (x.qen + ((sgV z (atV x.tape x.qlen x.qen)).2 - 1)) := by rw [show (x.qen + ((sgV z (atV x.tape x.qlen x.qen)).2 - 1)) = x.qen from by rw [(sg_2 h1 g3 g6)] <;> rfl] <;> rfl
        rw [e9] at hP hD
        exact rfI hx hb hr hlk hS () (by rw [(sg_2 h1 g3 g6)]) hP hD (Nat.le_of_ble_eq_true rfl) (Nat.le_of_ble_eq_true rfl) d_Q_signOf_157
      · have g6 := bI_n0 g6
        refine lv_aload_n hx hb d_Q_signOf_144 rfl (lv_at hl 0 rfl) ?_
        refine lv_sipush (v := 262) hx hb d_Q_signOf_145 (by decide) ?_
        refine jkI (wr := []) (rnV (As := [.int 262]) (rest := []) hx hb hml hown hE hK (hN _ _ hS) hP hD (v_Qlonger l D dA H.size h ad x 262 (show x.qen ≤ 131072 from by omega)) (q0 := 36) rfl rfl w1571 w1570 w1572 w1573 w665 rfl rfl ⟨⟨by decide, by decide⟩, rfl⟩ ⟨(Nat.le_of_ble_eq_true rfl), (Nat.le_of_ble_eq_true rfl)⟩ rfl hl.1 rfl (Nat.le_of_ble_eq_true rfl) d_Q_signOf_148 ⟨(Nat.le_of_ble_eq_true rfl), (Nat.le_of_ble_eq_true rfl)⟩) hP hD hS hA (fun r7 u8 H locs hp9 hP hD hS => ?_)
        have hP : va_P D vwCl (VW dA h ad (VS.s_qen x (x.qen + 1))) H := hP
        have hD : va_D A (VW dA h ad (VS.s_qen x (x.qen + 1))) := hD
        replace hp9 : 262 = r7 := Eq.symm hp9
        subst hp9
        refine lv_goto hx hb d_Q_signOf_151 (tgt := 157) rfl ?_
        have e9 : (VS.s_qen x (x.qen + 1) : VS) = VS.s_qen x (x.qen + ((sgV z (atV x.tape x.qlen x.qen)).2 - 1)) := by rw [show (x.qen + ((sgV z (atV x.tape x.qlen x.qen)).2 - 1)) = (x.qen + 1) from by rw [(sg_1 h1 g3 g6)] <;> rfl] <;> rfl
        rw [e9] at hP hD
        exact rfI hx hb hr hlk hS () (by rw [(sg_1 h1 g3 g6)]) hP hD (Nat.le_of_ble_eq_true rfl) (Nat.le_of_ble_eq_true rfl) d_Q_signOf_157
    · have g3 := bI_n0 g3
      refine lv_aload_n hx hb d_Q_signOf_125 rfl (lv_at hl 0 rfl) ?_
      refine lv_sipush (v := 260) hx hb d_Q_signOf_126 (by decide) ?_
      refine jkI (wr := []) (rnV (As := [.int 260]) (rest := []) hx hb hml hown hE hK (hN _ _ hS) hP hD (v_Qlonger l D dA H.size h ad x 260 (show x.qen ≤ 131072 from by omega)) (q0 := 36) rfl rfl w1571 w1570 w1572 w1573 w665 rfl rfl ⟨⟨by decide, by decide⟩, rfl⟩ ⟨(Nat.le_of_ble_eq_true rfl), (Nat.le_of_ble_eq_true rfl)⟩ rfl hl.1 rfl (Nat.le_of_ble_eq_true rfl) d_Q_signOf_129 ⟨(Nat.le_of_ble_eq_true rfl), (Nat.le_of_ble_eq_true rfl)⟩) hP hD hS hA (fun r9 u10 H locs hp9 hP hD hS => ?_)
      have hP : va_P D vwCl (VW dA h ad (VS.s_qen x (x.qen + 1))) H := hP
      have hD : va_D A (VW dA h ad (VS.s_qen x (x.qen + 1))) := hD
      replace hp9 : 260 = r9 := Eq.symm hp9
      subst hp9
      refine lv_goto hx hb d_Q_signOf_132 (tgt := 157) rfl ?_
      have e9 : (VS.s_qen x (x.qen + 1) : VS) = VS.s_qen x (x.qen + ((sgV z (atV x.tape x.qlen x.qen)).2 - 1)) := by rw [show (x.qen + ((sgV z (atV x.tape x.qlen x.qen)).2 - 1)) = (x.qen + 1) from by rw [(sg_0 h1 g3)] <;> rfl] <;> rfl
      rw [e9] at hP hD
      exact rfI hx hb hr hlk hS () (by rw [(sg_0 h1 g3)]) hP hD (Nat.le_of_ble_eq_true rfl) (Nat.le_of_ble_eq_true rfl) d_Q_signOf_157
  · refine lv_lookup (x := z) (off := 157) (tgt := 158) hx hb d_Q_signOf_1 (by decide) (by rw [h1.2]; decide) rfl ?_
    refine lv_aload_n hx hb d_Q_signOf_158 rfl (lv_at hl 0 rfl) ?_
    refine lv_bipush (v := 61) hx hb d_Q_signOf_159 (by decide) ?_
    refine jkI (wr := []) (rnV (As := [.int 61]) (rest := []) hx hb hml hown hE hK (hN _ _ hS) hP hD (v_QnextIs l D dA H.size h ad x 61 (show x.qtp = x.tpA from by omega) (show x.qlen ≤ x.tpN from by omega) (show x.tpN ≤ 131072 from by omega) (by decide) (show x.qen ≤ 131072 from by omega)) (q0 := 36) rfl rfl w1567 w1566 w1568 w1569 w665 rfl rfl ⟨⟨by decide, by decide⟩, rfl⟩ ⟨(Nat.le_of_ble_eq_true rfl), (Nat.le_of_ble_eq_true rfl)⟩ rfl hl.1 rfl (Nat.le_of_ble_eq_true rfl) d_Q_signOf_161 ⟨(Nat.le_of_ble_eq_true rfl), (Nat.le_of_ble_eq_true rfl)⟩) hP hD hS hA (fun r11 u12 H locs hp9 hP hD hS => ?_)
    have hP : va_P D vwCl (VW dA h ad x) H := hP
    have hD : va_D A (VW dA h ad x) := hD
    replace hp9 : bI (decide (atV x.tape x.qlen x.qen = 61)) = r11 := Eq.symm hp9
    subst hp9
    refine lv_if_eq hx hb d_Q_signOf_164 (tgt := 177) rfl (fun g13 => ?_) (fun g13 => ?_)
    · have g13 := bI_0 g13
      refine lv_sipush (v := 263) hx hb d_Q_signOf_177 (by decide) ?_
      have e9 : (x : VS) = VS.s_qen x (x.qen + ((sgV z (atV x.tape x.qlen x.qen)).2 - 1)) := by rw [show (x.qen + ((sgV z (atV x.tape x.qlen x.qen)).2 - 1)) = x.qen from by rw [(sg_4 h1.1 h1.2 g13)] <;> rfl] <;> rfl
      rw [e9] at hP hD
      exact rfI hx hb hr hlk hS () (by rw [(sg_4 h1.1 h1.2 g13)]) hP hD (Nat.le_of_ble_eq_true rfl) (Nat.le_of_ble_eq_true rfl) d_Q_signOf_180
    · have g13 := bI_n0 g13
      refine lv_aload_n hx hb d_Q_signOf_167 rfl (lv_at hl 0 rfl) ?_
      refine lv_sipush (v := 261) hx hb d_Q_signOf_168 (by decide) ?_
      refine jkI (wr := []) (rnV (As := [.int 261]) (rest := []) hx hb hml hown hE hK (hN _ _ hS) hP hD (v_Qlonger l D dA H.size h ad x 261 (show x.qen ≤ 131072 from by omega)) (q0 := 36) rfl rfl w1571 w1570 w1572 w1573 w665 rfl rfl ⟨⟨by decide, by decide⟩, rfl⟩ ⟨(Nat.le_of_ble_eq_true rfl), (Nat.le_of_ble_eq_true rfl)⟩ rfl hl.1 rfl (Nat.le_of_ble_eq_true rfl) d_Q_signOf_171 ⟨(Nat.le_of_ble_eq_true rfl), (Nat.le_of_ble_eq_true rfl)⟩) hP hD hS hA (fun r14 u15 H locs hp9 hP hD hS => ?_)
      have hP : va_P D vwCl (VW dA h ad (VS.s_qen x (x.qen + 1))) H := hP
      have hD : va_D A (VW dA h ad (VS.s_qen x (x.qen + 1))) := hD
      replace hp9 : 261 = r14 := Eq.symm hp9
      subst hp9
      refine lv_goto hx hb d_Q_signOf_174 (tgt := 180) rfl ?_
      have e9 : (VS.s_qen x (x.qen + 1) : VS) = VS.s_qen x (x.qen + ((sgV z (atV x.tape x.qlen x.qen)).2 - 1)) := by rw [show (x.qen + ((sgV z (atV x.tape x.qlen x.qen)).2 - 1)) = (x.qen + 1) from by rw [(sg_3 h1.1 h1.2 g13)] <;> rfl] <;> rfl
      rw [e9] at hP hD
      exact rfI hx hb hr hlk hS () (by rw [(sg_3 h1.1 h1.2 g13)]) hP hD (Nat.le_of_ble_eq_true rfl) (Nat.le_of_ble_eq_true rfl) d_Q_signOf_180
  · refine lv_lookup (x := z) (off := 180) (tgt := 181) hx hb d_Q_signOf_1 (by decide) (lg_hit h1.2.2) rfl ?_
    refine lv_iload_n hx hb d_Q_signOf_181 rfl (lv_at hl 1 rfl) ?_
    have e9 : (x : VS) = VS.s_qen x (x.qen + ((sgV z (atV x.tape x.qlen x.qen)).2 - 1)) := by rw [show (x.qen + ((sgV z (atV x.tape x.qlen x.qen)).2 - 1)) = x.qen from by rw [(sg_5 h1)] <;> rfl] <;> rfl
    rw [e9] at hP hD
    exact rfI hx hb hr hlk hS () (by rw [(sg_5 h1)]) hP hD (Nat.le_of_ble_eq_true rfl) (Nat.le_of_ble_eq_true rfl) d_Q_signOf_182
  · refine lv_lookup (x := z) (off := 182) (tgt := 183) hx hb d_Q_signOf_1 (by decide) (lg_no h1.1 h1.2.1 h1.2.2) rfl ?_
    refine lv_sipush (v := 263) hx hb d_Q_signOf_183 (by decide) ?_
    have e9 : (x : VS) = VS.s_qen x (x.qen + ((sgV z (atV x.tape x.qlen x.qen)).2 - 1)) := by rw [show (x.qen + ((sgV z (atV x.tape x.qlen x.qen)).2 - 1)) = x.qen from by rw [(sg_6 h1)] <;> rfl] <;> rfl
    rw [e9] at hP hD
    exact rfI hx hb hr hlk hS () (by rw [(sg_6 h1)]) hP hD (Nat.le_of_ble_eq_true rfl) (Nat.le_of_ble_eq_true rfl) d_Q_signOf_186
theorem d_Q_advance_59 : decode prog_6_method_16_code 59 = .ok (.aload_n 0, 1) := by decide +kernel
theorem d_Q_advance_60 : decode prog_6_method_16_code 60 = .ok (.iload_n 1, 1) := by decide +kernel
theorem d_Q_advance_61 : decode prog_6_method_16_code 61 = .ok (.iconst 1, 1) := by decide +kernel
theorem d_Q_advance_62 : decode prog_6_method_16_code 62 = .ok (.iadd, 1) := by decide +kernel
theorem d_Q_advance_63 : decode prog_6_method_16_code 63 = .ok (.putfield 32, 3) := by decide +kernel
theorem d_Q_advance_66 : decode prog_6_method_16_code 66 = .ok (.aload_n 0, 1) := by decide +kernel
theorem d_Q_advance_67 : decode prog_6_method_16_code 67 = .ok (.getfield 9, 3) := by decide +kernel
theorem d_Q_advance_70 : decode prog_6_method_16_code 70 = .ok (.iload_n 1, 1) := by decide +kernel
theorem d_Q_advance_71 : decode prog_6_method_16_code 71 = .ok (.baload, 1) := by decide +kernel
theorem d_Q_advance_72 : decode prog_6_method_16_code 72 = .ok (.istore_n 2, 1) := by decide +kernel
theorem d_Q_advance_73 : decode prog_6_method_16_code 73 = .ok (.iload_n 2, 1) := by decide +kernel
theorem d_Q_advance_74 : decode prog_6_method_16_code 74 = .ok (.invokestatic 142, 3) := by decide +kernel
theorem d_Q_advance_77 : decode prog_6_method_16_code 77 = .ok (.ifCond .eq 14, 3) := by decide +kernel
theorem d_Q_advance_91 : decode prog_6_method_16_code 91 = .ok (.iload_n 2, 1) := by decide +kernel
theorem d_Q_advance_92 : decode prog_6_method_16_code 92 = .ok (.invokestatic 149, 3) := by decide +kernel
theorem d_Q_advance_95 : decode prog_6_method_16_code 95 = .ok (.ifCond .eq 14, 3) := by decide +kernel
theorem d_Q_advance_109 : decode prog_6_method_16_code 109 = .ok (.aload_n 0, 1) := by decide +kernel
theorem d_Q_advance_110 : decode prog_6_method_16_code 110 = .ok (.iload_n 2, 1) := by decide +kernel
theorem d_Q_advance_111 : decode prog_6_method_16_code 111 = .ok (.bipush 34, 2) := by decide +kernel
theorem d_Q_advance_113 : decode prog_6_method_16_code 113 = .ok (.if_icmp .ne 10, 3) := by decide +kernel
theorem d_Q_advance_123 : decode prog_6_method_16_code 123 = .ok (.aload_n 0, 1) := by decide +kernel
theorem d_Q_advance_124 : decode prog_6_method_16_code 124 = .ok (.iload_n 2, 1) := by decide +kernel
theorem d_Q_advance_125 : decode prog_6_method_16_code 125 = .ok (.invokevirtual 158, 3) := by decide +kernel
theorem d_Q_advance_128 : decode prog_6_method_16_code 128 = .ok (.putfield 45, 3) := by decide +kernel
theorem d_Q_advance_131 : decode prog_6_method_16_code 131 = .ok (.aload_n 0, 1) := by decide +kernel
theorem d_Q_advance_132 : decode prog_6_method_16_code 132 = .ok (.getfield 45, 3) := by decide +kernel
theorem d_Q_advance_135 : decode prog_6_method_16_code 135 = .ok (.sipush 263, 3) := by decide +kernel
theorem d_Q_advance_138 : decode prog_6_method_16_code 138 = .ok (.if_icmp .ne 10, 3) := by decide +kernel
theorem d_Q_advance_148 : decode prog_6_method_16_code 148 = .ok (.return_, 1) := by decide +kernel
theorem d_Q_advance_141 : decode prog_6_method_16_code 141 = .ok (.aload_n 0, 1) := by decide +kernel
theorem d_Q_advance_142 : decode prog_6_method_16_code 142 = .ok (.iconst 1, 1) := by decide +kernel
theorem d_Q_advance_143 : decode prog_6_method_16_code 143 = .ok (.iload_n 1, 1) := by decide +kernel
theorem d_Q_advance_144 : decode prog_6_method_16_code 144 = .ok (.invokevirtual 51, 3) := by decide +kernel
theorem d_Q_advance_147 : decode prog_6_method_16_code 147 = .ok (.pop, 1) := by decide +kernel
theorem d_Q_advance_116 : decode prog_6_method_16_code 116 = .ok (.aload_n 0, 1) := by decide +kernel
theorem d_Q_advance_117 : decode prog_6_method_16_code 117 = .ok (.invokevirtual 155, 3) := by decide +kernel
theorem d_Q_advance_120 : decode prog_6_method_16_code 120 = .ok (.goto 8, 3) := by decide +kernel
theorem d_Q_advance_98 : decode prog_6_method_16_code 98 = .ok (.aload_n 0, 1) := by decide +kernel
theorem d_Q_advance_99 : decode prog_6_method_16_code 99 = .ok (.aload_n 0, 1) := by decide +kernel
theorem d_Q_advance_100 : decode prog_6_method_16_code 100 = .ok (.invokevirtual 152, 3) := by decide +kernel
theorem d_Q_advance_103 : decode prog_6_method_16_code 103 = .ok (.putfield 45, 3) := by decide +kernel
theorem d_Q_advance_106 : decode prog_6_method_16_code 106 = .ok (.goto 25, 3) := by decide +kernel
theorem d_Q_advance_80 : decode prog_6_method_16_code 80 = .ok (.aload_n 0, 1) := by decide +kernel
theorem d_Q_advance_81 : decode prog_6_method_16_code 81 = .ok (.aload_n 0, 1) := by decide +kernel
theorem d_Q_advance_82 : decode prog_6_method_16_code 82 = .ok (.invokevirtual 145, 3) := by decide +kernel
theorem d_Q_advance_85 : decode prog_6_method_16_code 85 = .ok (.putfield 45, 3) := by decide +kernel
theorem d_Q_advance_88 : decode prog_6_method_16_code 88 = .ok (.goto 43, 3) := by decide +kernel
theorem d_Q_advance_13 : decode prog_6_method_16_code 13 = .ok (.aload_n 0, 1) := by decide +kernel
theorem d_Q_advance_14 : decode prog_6_method_16_code 14 = .ok (.getfield 9, 3) := by decide +kernel
theorem d_Q_advance_17 : decode prog_6_method_16_code 17 = .ok (.iload_n 1, 1) := by decide +kernel
theorem d_Q_advance_18 : decode prog_6_method_16_code 18 = .ok (.baload, 1) := by decide +kernel
theorem d_Q_advance_19 : decode prog_6_method_16_code 19 = .ok (.bipush 32, 2) := by decide +kernel
theorem d_Q_advance_21 : decode prog_6_method_16_code 21 = .ok (.if_icmp .ne 9, 3) := by decide +kernel
theorem d_Q_advance_24 : decode prog_6_method_16_code 24 = .ok (.iinc 1 1, 3) := by decide +kernel
theorem d_Q_advance_27 : decode prog_6_method_16_code 27 = .ok (.goto (-22), 3) := by decide +kernel
theorem w1574 : Cond.methodLink "SeriesVault$Question" 158 ⟨"SeriesVault$Question", "signOf", "(I)I"⟩ ∈ aW := aw_of (tb_6 (List.mem_of_getElem? (i := 213) rfl)) rfl
theorem w1575 : Cond.code ⟨"SeriesVault$Question", "signOf", "(I)I"⟩ prog_6_method_17_code 2 (some FieldType.int) ∈ aW := aw_of (tb_6 (List.mem_of_getElem? (i := 216) rfl)) rfl
theorem w1576 : Cond.instanceMethod ⟨"SeriesVault$Question", "signOf", "(I)I"⟩ ∈ aW := aw_of (tb_6 (List.mem_of_getElem? (i := 215) rfl)) rfl
theorem w1577 : Cond.selects "SeriesVault$Question" ⟨"SeriesVault$Question", "signOf", "(I)I"⟩ ⟨"SeriesVault$Question", "signOf", "(I)I"⟩ ∈ aW := aw_pr (List.mem_map.mpr ⟨_, pv_3 (List.mem_of_getElem? (i := 6) rfl), rfl⟩) rfl
theorem w1578 : Cond.methodLink "SeriesVault$Question" 155 ⟨"SeriesVault$Question", "readText", "()I"⟩ ∈ aW := aw_of (tb_6 (List.mem_of_getElem? (i := 209) rfl)) rfl
theorem w1579 : Cond.code ⟨"SeriesVault$Question", "readText", "()I"⟩ prog_6_method_24_code 2 (some FieldType.int) ∈ aW := aw_of (tb_6 (List.mem_of_getElem? (i := 212) rfl)) rfl
theorem w1580 : Cond.instanceMethod ⟨"SeriesVault$Question", "readText", "()I"⟩ ∈ aW := aw_of (tb_6 (List.mem_of_getElem? (i := 211) rfl)) rfl
theorem w1581 : Cond.selects "SeriesVault$Question" ⟨"SeriesVault$Question", "readText", "()I"⟩ ⟨"SeriesVault$Question", "readText", "()I"⟩ ∈ aW := aw_pr (List.mem_map.mpr ⟨_, pv_3 (List.mem_of_getElem? (i := 5) rfl), rfl⟩) rfl
theorem w1582 : Cond.methodLink "SeriesVault$Question" 152 ⟨"SeriesVault$Question", "readName", "()I"⟩ ∈ aW := aw_of (tb_6 (List.mem_of_getElem? (i := 205) rfl)) rfl
theorem w1583 : Cond.code ⟨"SeriesVault$Question", "readName", "()I"⟩ prog_6_method_23_code 1 (some FieldType.int) ∈ aW := aw_of (tb_6 (List.mem_of_getElem? (i := 208) rfl)) rfl
theorem w1584 : Cond.instanceMethod ⟨"SeriesVault$Question", "readName", "()I"⟩ ∈ aW := aw_of (tb_6 (List.mem_of_getElem? (i := 207) rfl)) rfl
theorem w1585 : Cond.selects "SeriesVault$Question" ⟨"SeriesVault$Question", "readName", "()I"⟩ ⟨"SeriesVault$Question", "readName", "()I"⟩ ∈ aW := aw_pr (List.mem_map.mpr ⟨_, pv_3 (List.mem_of_getElem? (i := 4) rfl), rfl⟩) rfl
theorem w1586 : Cond.methodLink "SeriesVault$Question" 145 ⟨"SeriesVault$Question", "readNumber", "()I"⟩ ∈ aW := aw_of (tb_6 (List.mem_of_getElem? (i := 196) rfl)) rfl
theorem w1587 : Cond.code ⟨"SeriesVault$Question", "readNumber", "()I"⟩ prog_6_method_22_code 4 (some FieldType.int) ∈ aW := aw_of (tb_6 (List.mem_of_getElem? (i := 199) rfl)) rfl
theorem w1588 : Cond.instanceMethod ⟨"SeriesVault$Question", "readNumber", "()I"⟩ ∈ aW := aw_of (tb_6 (List.mem_of_getElem? (i := 198) rfl)) rfl
theorem w1589 : Cond.selects "SeriesVault$Question" ⟨"SeriesVault$Question", "readNumber", "()I"⟩ ⟨"SeriesVault$Question", "readNumber", "()I"⟩ ∈ aW := aw_pr (List.mem_map.mpr ⟨_, pv_3 (List.mem_of_getElem? (i := 3) rfl), rfl⟩) rfl
set_option maxHeartbeats 4000000 in
set_option maxRecDepth 100000 in
theorem v_Qadvance (l : Launch) (D : va_G) (dA : Nat → ClassId) (sz : Nat) (h : Nat) (ad : Nat → Nat) (x : VS) (hq : x.qtp = x.tpA) (h2 : x.qlen ≤ x.tpN) (h3 : x.tpN ≤ 131072) (h1 : x.qen ≤ x.qlen) : Met l ⟨"SeriesVault$Question", "advance", "()V"⟩ [Cond.code ⟨"SeriesVault$Question", "advance", "()V"⟩ prog_6_method_16_code 3 none] { frames := 3, cells := 0, slots := 0, locals := 43 } (pC D dA [.ref (ad 22)] (VW dA h ad x) sz) (va_Qv (fun (u9 : VS) => u9 = x.adv) (fun (u9 : VS) t9 => bW D (va_A (VW dA h ad x) sz) (VW dA h ad u9) t9) (va_A (VW dA h ad x) sz)) 0 0 (va_A (VW dA h ad x) sz) := by
  refine mkC (y := ⟨"SeriesVault$Question", "advance", "()V"⟩) (cc := prog_6_method_16_code) (maxL := 3) (av := [.ref (ad 22)]) (ws := VW dA h ad x) (sz := sz) (Qc := fun A => va_Qv (fun (u9 : VS) => u9 = x.adv) (fun (u9 : VS) t9 => bW D A (VW dA h ad u9) t9) A) (by decide) (Nat.le_of_ble_eq_true rfl) ?_
  intro A p e s m below meth c ls hsz hB
  obtain ⟨hx, hb, hr, hml, hown, hin, hlk, hE, hK, hP, hD, hS, hA, hN, hl⟩ := hB
  have hown : s.vm.findClass "SeriesVault$Question" = some m.cls := hown
  have hl : lv_has ls 3 [(0, .ref (ad 22))] := hl
  obtain ⟨H, hH⟩ : ∃ z, z = s.heap := ⟨_, rfl⟩
  have hP : va_P D vwCl (VW dA h ad x) H := by rw [hH]; exact hP
  have hS : va_S A s.heap H [] := by rw [hH]; exact hS
  rw [← hH]
  refine lv_aload_n hx hb d_Q_advance_0 rfl (lv_at hl 0 rfl) ?_
  refine gF (v := .int (nI x.qen)) hx hb hown hE hK hP 36 rfl rfl layQ 4 (by decide) w660 rfl d_Q_advance_1 ?_
  refine lv_istore_n hx hb d_Q_advance_4 rfl hl (by decide) rfl (fun ls hl => ?_)
  have hl : lv_has ls 3 [(1, .int (nI x.qen)), (0, .ref (ad 22))] := hl
  have L5 : ∀ (k9 : Nat) (q : Nat) (i1 : q ≤ x.qlen) (i2 : whE isSp x.tape x.qlen q = whE isSp x.tape x.qlen x.qen) (hk9 : x.qlen - q = k9), ∀ (H : Heap) (locs : List Loc) (ls : Array Slot) (hP : va_P D vwCl (VW dA h ad x) H) (hD : va_D A (VW dA h ad x)) (hS : va_S A s.heap H locs) (hl : lv_has ls 3 [(1, .int (nI q)), (0, .ref (ad 22))]), W p l e ({ frames := 3, cells := 0, slots := 0, locals := 43 } : Room) s m ([.ref (ad 22)] : List Value).toArray below meth c H locs 0 0 (MQ below (va_Qv (fun (u9 : VS) => u9 = x.adv) (fun (u9 : VS) t9 => bW D A (VW dA h ad u9) t9) A) ([.ref (ad 22)] : List Value).toArray s 0 0 A) (F0 m 5 ls []) := by
    intro k9
    induction k9 using Nat.strongRecOn with
    | ind k9 ih5 =>
      intro q i1 i2 hk9 H locs ls hP hD hS hl
      refine lv_iload_n hx hb d_Q_advance_5 rfl (lv_at hl 0 rfl) ?_
      refine lv_aload_n hx hb d_Q_advance_6 rfl (lv_at hl 1 rfl) ?_
      refine gF (v := .int (nI x.qlen)) hx hb hown hE hK hP 36 rfl rfl layQ 1 (by decide) w661 rfl d_Q_advance_7 ?_
      refine lv_icmp_ge hx hb d_Q_advance_10 (tgt := 30) rfl (fun g1 => ?_) (fun g1 => ?_)
      · have g1 := (nI_leI (a := x.qlen) (b := q) (by omega) (by omega)).mp g1
        have ed : whE isSp x.tape x.qlen x.qen = q := i2.symm.trans (whE_n (by omega))
        refine lv_aload_n hx hb d_Q_advance_30 rfl (lv_at hl 1 rfl) ?_
        refine lv_iload_n hx hb d_Q_advance_31 rfl (lv_at hl 0 rfl) ?_
        refine pF (v := .int (nI q)) hx hb hown hE hK hP hD hS 36 rfl rfl layQ tyQ tokQ nmQ 3 (by decide) w662 rfl rfl rfl (Nat.le_of_ble_eq_true rfl) d_Q_advance_32 (fun H locs hP hD hS => ?_)
        have hP : va_P D vwCl (VW dA h ad (VS.s_qst x q)) H := hP
        have hD : va_D A (VW dA h ad (VS.s_qst x q)) := hD
        refine lv_iload_n hx hb d_Q_advance_35 rfl (lv_at hl 0 rfl) ?_
        refine lv_aload_n hx hb d_Q_advance_36 rfl (lv_at hl 1 rfl) ?_
        refine gF (v := .int (nI x.qlen)) hx hb hown hE hK hP 36 rfl rfl layQ 1 (by decide) w661 rfl d_Q_advance_37 ?_
        refine lv_icmp_ne hx hb d_Q_advance_40 (tgt := 59) rfl (fun g2 => ?_) (fun g2 => ?_)
        · have g2 := mt (nI_eq (a := q) (b := x.qlen) (by omega) (by omega)).mpr g2
          refine lv_aload_n hx hb d_Q_advance_59 rfl (lv_at hl 1 rfl) ?_
          refine lv_iload_n hx hb d_Q_advance_60 rfl (lv_at hl 0 rfl) ?_
          refine lv_iconst (v := 1) hx hb d_Q_advance_61 (by decide) ?_
          refine lv_iadd hx hb d_Q_advance_62 (tpi (y := nI (q + 1)) (nI_add (q) (1)) ?_)
          refine pF (v := .int (nI (q + 1))) hx hb hown hE hK hP hD hS 36 rfl rfl layQ tyQ tokQ nmQ 4 (by decide) w660 rfl rfl rfl (Nat.le_of_ble_eq_true rfl) d_Q_advance_63 (fun H locs hP hD hS => ?_)
          have hP : va_P D vwCl (VW dA h ad (VS.s_qen (VS.s_qst x q) (q + 1))) H := hP
          have hD : va_D A (VW dA h ad (VS.s_qen (VS.s_qst x q) (q + 1))) := hD
          refine lv_aload_n hx hb d_Q_advance_66 rfl (lv_at hl 1 rfl) ?_
          refine gF (v := .ref x.qtp) hx hb hown hE hK hP 36 rfl rfl layQ 0 (by decide) w677 rfl d_Q_advance_67 ?_
          rw [hq]
          refine lv_iload_n hx hb d_Q_advance_70 rfl (lv_at hl 0 rfl) ?_
          refine nbld (f := x.tape) (n := x.tpN) hx hb hK hP (1) 0 rfl rfl (q) (by omega) (by omega) d_Q_advance_71 ?_
          refine lv_istore_n hx hb d_Q_advance_72 rfl hl (by decide) rfl (fun ls hl => ?_)
          have hl : lv_has ls 3 [(2, .int (x.tape q)), (1, .int (nI q)), (0, .ref (ad 22))] := hl
          refine lv_iload_n hx hb d_Q_advance_73 rfl (lv_at hl 0 rfl) ?_
          have hPc := hP.sub (ws' := []) [] rfl
          have hDc := hD.sub (ws' := []) [] (by decide) rfl
          refine jpI (rnS (As := [.int (x.tape q)]) (rest := []) hx hb hml hown hE hK (hN _ _ hS) hPc hDc (v_QisDigit l D dA H.size (x.tape q)) w1562 w1561 w1563 w665 rfl rfl ⟨⟨by decide, by decide⟩, rfl⟩ ⟨(Nat.le_of_ble_eq_true rfl), (Nat.le_of_ble_eq_true rfl)⟩ rfl hl.1 rfl (Nat.le_of_ble_eq_true rfl) d_Q_advance_74 ⟨(Nat.le_of_ble_eq_true rfl), (Nat.le_of_ble_eq_true rfl)⟩) hP hD hS hA (fun r3 u9 H locs hp9 hP hD hS => ?_)
          have hP : va_P D vwCl (VW dA h ad (VS.s_qen (VS.s_qst x q) (q + 1))) H := hP
          have hD : va_D A (VW dA h ad (VS.s_qen (VS.s_qst x q) (q + 1))) := hD
          replace hp9 : bI (isDg (x.tape q)) = r3 := Eq.symm hp9
          subst hp9
          refine lv_if_eq hx hb d_Q_advance_77 (tgt := 91) rfl (fun g5 => ?_) (fun g5 => ?_)
          · have g5 := bI_0 g5
            refine lv_iload_n hx hb d_Q_advance_91 rfl (lv_at hl 0 rfl) ?_
            have hPc := hP.sub (ws' := []) [] rfl
            have hDc := hD.sub (ws' := []) [] (by decide) rfl
            refine jpI (rnS (As := [.int (x.tape q)]) (rest := []) hx hb hml hown hE hK (hN _ _ hS) hPc hDc (v_QisOfName l D dA H.size (x.tape q)) w1558 w1557 w1559 w665 rfl rfl ⟨⟨by decide, by decide⟩, rfl⟩ ⟨(Nat.le_of_ble_eq_true rfl), (Nat.le_of_ble_eq_true rfl)⟩ rfl hl.1 rfl (Nat.le_of_ble_eq_true rfl) d_Q_advance_92 ⟨(Nat.le_of_ble_eq_true rfl), (Nat.le_of_ble_eq_true rfl)⟩) hP hD hS hA (fun r6 u9 H locs hp9 hP hD hS => ?_)
            have hP : va_P D vwCl (VW dA h ad (VS.s_qen (VS.s_qst x q) (q + 1))) H := hP
            have hD : va_D A (VW dA h ad (VS.s_qen (VS.s_qst x q) (q + 1))) := hD
            replace hp9 : bI (isNm (x.tape q)) = r6 := Eq.symm hp9
            subst hp9
            refine lv_if_eq hx hb d_Q_advance_95 (tgt := 109) rfl (fun g8 => ?_) (fun g8 => ?_)
            · have g8 := bI_0 g8
              refine lv_aload_n hx hb d_Q_advance_109 rfl (lv_at hl 2 rfl) ?_
              refine lv_iload_n hx hb d_Q_advance_110 rfl (lv_at hl 0 rfl) ?_
              refine lv_bipush (v := 34) hx hb d_Q_advance_111 (by decide) ?_
              refine lv_icmp_ne hx hb d_Q_advance_113 (tgt := 123) rfl (fun g9 => ?_) (fun g9 => ?_)
              · have g9 := g9
                refine lv_aload_n hx hb d_Q_advance_123 rfl (lv_at hl 2 rfl) ?_
                refine lv_iload_n hx hb d_Q_advance_124 rfl (lv_at hl 0 rfl) ?_
                refine jkI (wr := []) (rnV (As := [.int (x.tape q)]) (rest := [.ref (ad 22)]) hx hb hml hown hE hK (hN _ _ hS) hP hD (v_QsignOf l D dA H.size h ad (VS.s_qen (VS.s_qst x q) (q + 1)) (x.tape q) hq (show x.qlen ≤ x.tpN from by omega) (show x.tpN ≤ 131072 from by omega) (show (q + 1) ≤ 131072 from by omega)) (q0 := 36) rfl rfl w1575 w1574 w1576 w1577 w665 rfl rfl ⟨⟨by decide, by decide⟩, rfl⟩ ⟨(Nat.le_of_ble_eq_true rfl), (Nat.le_of_ble_eq_true rfl)⟩ rfl hl.1 rfl (Nat.le_of_ble_eq_true rfl) d_Q_advance_125 ⟨(Nat.le_of_ble_eq_true rfl), (Nat.le_of_ble_eq_true rfl)⟩) hP hD hS hA (fun r10 u11 H locs hp9 hP hD hS => ?_)
                have hP : va_P D vwCl (VW dA h ad (VS.s_qen (VS.s_qst x q) ((q + 1) + ((sgV (x.tape q) (atV x.tape x.qlen (q + 1))).2 - 1)))) H := hP
                have hD : va_D A (VW dA h ad (VS.s_qen (VS.s_qst x q) ((q + 1) + ((sgV (x.tape q) (atV x.tape x.qlen (q + 1))).2 - 1)))) := hD
                replace hp9 : (sgV (x.tape q) (atV x.tape x.qlen (q + 1))).1 = r10 := Eq.symm hp9
                subst hp9
                refine pF (v := .int ((sgV (x.tape q) (atV x.tape x.qlen (q + 1))).1)) hx hb hown hE hK hP hD hS 36 rfl rfl layQ tyQ tokQ nmQ 2 (by decide) w663 rfl rfl rfl (Nat.le_of_ble_eq_true rfl) d_Q_advance_128 (fun H locs hP hD hS => ?_)
                have hP : va_P D vwCl (VW dA h ad (VS.s_qen (VS.s_qst (VS.s_qk x ((sgV (x.tape q) (atV x.tape x.qlen (q + 1))).1)) q) ((q + 1) + ((sgV (x.tape q) (atV x.tape x.qlen (q + 1))).2 - 1)))) H := hP
                have hD : va_D A (VW dA h ad (VS.s_qen (VS.s_qst (VS.s_qk x ((sgV (x.tape q) (atV x.tape x.qlen (q + 1))).1)) q) ((q + 1) + ((sgV (x.tape q) (atV x.tape x.qlen (q + 1))).2 - 1)))) := hD
                refine lv_aload_n hx hb d_Q_advance_131 rfl (lv_at hl 2 rfl) ?_
                refine gF (v := .int ((sgV (x.tape q) (atV x.tape x.qlen (q + 1))).1)) hx hb hown hE hK hP 36 rfl rfl layQ 2 (by decide) w663 rfl d_Q_advance_132 ?_
                refine lv_sipush (v := 263) hx hb d_Q_advance_135 (by decide) ?_
                refine lv_icmp_ne hx hb d_Q_advance_138 (tgt := 148) rfl (fun g12 => ?_) (fun g12 => ?_)
                · have g12 := g12
                  exact rfV hx hb hr hlk hS (VS.s_qen (VS.s_qst (VS.s_qk x ((sgV (x.tape q) (atV x.tape x.qlen (q + 1))).1)) q) ((q + 1) + ((sgV (x.tape q) (atV x.tape x.qlen (q + 1))).2 - 1))) (adv_ok ed (d := ((sgV (x.tape q) (atV x.tape x.qlen (q + 1))).1, q, q + 1 + ((sgV (x.tape q) (atV x.tape x.qlen (q + 1))).2 - 1), x.qnum)) (tkD_s g2 g5 g8 g9) g12) hP hD (Nat.le_of_ble_eq_true rfl) (Nat.le_of_ble_eq_true rfl) d_Q_advance_148
                · have g12 := g12
                  refine lv_aload_n hx hb d_Q_advance_141 rfl (lv_at hl 2 rfl) ?_
                  refine lv_iconst (v := 1) hx hb d_Q_advance_142 (by decide) ?_
                  refine lv_iload_n hx hb d_Q_advance_143 rfl (lv_at hl 1 rfl) ?_
                  refine jkI (wr := []) (rnV (As := [.int 1, .int (nI q)]) (rest := []) hx hb hml hown hE hK (hN _ _ hS) hP hD (v_Qrefuse l D dA H.size h ad (VS.s_qen (VS.s_qst (VS.s_qk x ((sgV (x.tape q) (atV x.tape x.qlen (q + 1))).1)) q) ((q + 1) + ((sgV (x.tape q) (atV x.tape x.qlen (q + 1))).2 - 1))) 1 q) (q0 := 36) rfl rfl w666 w664 w667 w668 w665 rfl rfl ⟨⟨by decide, by decide⟩, rfl⟩ ⟨(Nat.le_of_ble_eq_true rfl), (Nat.le_of_ble_eq_true rfl)⟩ rfl hl.1 rfl (Nat.le_of_ble_eq_true rfl) d_Q_advance_144 ⟨(Nat.le_of_ble_eq_true rfl), (Nat.le_of_ble_eq_true rfl)⟩) hP hD hS hA (fun r13 u14 H locs hp9 hP hD hS => ?_)
                  obtain ⟨y1, h9u⟩ : ∃ z9, z9 = u14 := ⟨_, rfl⟩
                  subst h9u
                  have hP : va_P D vwCl (VW dA h ad y1) H := hP
                  have hD : va_D A (VW dA h ad y1) := hD
                  obtain ⟨hp9, f_e_15⟩ := hp9
                  replace hp9 : 0 = r13 := Eq.symm hp9
                  subst hp9
                  refine lv_pop hx hb d_Q_advance_147 rfl ?_
                  exact rfV hx hb hr hlk hS y1 (f_e_15.trans (adv_bad ed (d := ((sgV (x.tape q) (atV x.tape x.qlen (q + 1))).1, q, q + 1 + ((sgV (x.tape q) (atV x.tape x.qlen (q + 1))).2 - 1), x.qnum)) (tkD_s g2 g5 g8 g9) g12)) hP hD (Nat.le_of_ble_eq_true rfl) (Nat.le_of_ble_eq_true rfl) d_Q_advance_148
              · have g9 := g9
                refine lv_aload_n hx hb d_Q_advance_116 rfl (lv_at hl 2 rfl) ?_
                refine jkI (wr := []) (rnV (As := []) (rest := [.ref (ad 22)]) hx hb hml hown hE hK (hN _ _ hS) hP hD (v_QreadText l D dA H.size h ad (VS.s_qen (VS.s_qst x q) (q + 1)) hq (show x.qlen ≤ x.tpN from by omega) (show x.tpN ≤ 131072 from by omega) (show q < x.qlen from by omega)) (q0 := 36) rfl rfl w1579 w1578 w1580 w1581 w665 rfl rfl ⟨⟨by decide, by decide⟩, rfl⟩ ⟨(Nat.le_of_ble_eq_true rfl), (Nat.le_of_ble_eq_true rfl)⟩ rfl hl.1 rfl (Nat.le_of_ble_eq_true rfl) d_Q_advance_117 ⟨(Nat.le_of_ble_eq_true rfl), (Nat.le_of_ble_eq_true rfl)⟩) hP hD hS hA (fun r16 u17 H locs hp9 hP hD hS => ?_)
                have hP : va_P D vwCl (VW dA h ad (VS.s_qen (VS.s_qst x q) (tvN x.tape x.qlen q (q + 1)))) H := hP
                have hD : va_D A (VW dA h ad (VS.s_qen (VS.s_qst x q) (tvN x.tape x.qlen q (q + 1)))) := hD
                replace hp9 : tvK x.tape x.qlen q = r16 := Eq.symm hp9
                subst hp9
                refine lv_goto hx hb d_Q_advance_120 (tgt := 128) rfl ?_
                refine pF (v := .int (tvK x.tape x.qlen q)) hx hb hown hE hK hP hD hS 36 rfl rfl layQ tyQ tokQ nmQ 2 (by decide) w663 rfl rfl rfl (Nat.le_of_ble_eq_true rfl) d_Q_advance_128 (fun H locs hP hD hS => ?_)
                have hP : va_P D vwCl (VW dA h ad (VS.s_qen (VS.s_qst (VS.s_qk x (tvK x.tape x.qlen q)) q) (tvN x.tape x.qlen q (q + 1)))) H := hP
                have hD : va_D A (VW dA h ad (VS.s_qen (VS.s_qst (VS.s_qk x (tvK x.tape x.qlen q)) q) (tvN x.tape x.qlen q (q + 1)))) := hD
                refine lv_aload_n hx hb d_Q_advance_131 rfl (lv_at hl 2 rfl) ?_
                refine gF (v := .int (tvK x.tape x.qlen q)) hx hb hown hE hK hP 36 rfl rfl layQ 2 (by decide) w663 rfl d_Q_advance_132 ?_
                refine lv_sipush (v := 263) hx hb d_Q_advance_135 (by decide) ?_
                refine lv_icmp_ne hx hb d_Q_advance_138 (tgt := 148) rfl (fun g18 => ?_) (fun g18 => ?_)
                · have g18 := g18
                  exact rfV hx hb hr hlk hS (VS.s_qen (VS.s_qst (VS.s_qk x (tvK x.tape x.qlen q)) q) (tvN x.tape x.qlen q (q + 1))) (adv_ok ed (d := (tvK x.tape x.qlen q, q, tvN x.tape x.qlen q (q + 1), x.qnum)) (tkD_t g2 g5 g8 g9) g18) hP hD (Nat.le_of_ble_eq_true rfl) (Nat.le_of_ble_eq_true rfl) d_Q_advance_148
                · have g18 := g18
                  refine lv_aload_n hx hb d_Q_advance_141 rfl (lv_at hl 2 rfl) ?_
                  refine lv_iconst (v := 1) hx hb d_Q_advance_142 (by decide) ?_
                  refine lv_iload_n hx hb d_Q_advance_143 rfl (lv_at hl 1 rfl) ?_
                  refine jkI (wr := []) (rnV (As := [.int 1, .int (nI q)]) (rest := []) hx hb hml hown hE hK (hN _ _ hS) hP hD (v_Qrefuse l D dA H.size h ad (VS.s_qen (VS.s_qst (VS.s_qk x (tvK x.tape x.qlen q)) q) (tvN x.tape x.qlen q (q + 1))) 1 q) (q0 := 36) rfl rfl w666 w664 w667 w668 w665 rfl rfl ⟨⟨by decide, by decide⟩, rfl⟩ ⟨(Nat.le_of_ble_eq_true rfl), (Nat.le_of_ble_eq_true rfl)⟩ rfl hl.1 rfl (Nat.le_of_ble_eq_true rfl) d_Q_advance_144 ⟨(Nat.le_of_ble_eq_true rfl), (Nat.le_of_ble_eq_true rfl)⟩) hP hD hS hA (fun r19 u20 H locs hp9 hP hD hS => ?_)
                  obtain ⟨y1, h9u⟩ : ∃ z9, z9 = u20 := ⟨_, rfl⟩
                  subst h9u
                  have hP : va_P D vwCl (VW dA h ad y1) H := hP
                  have hD : va_D A (VW dA h ad y1) := hD
                  obtain ⟨hp9, f_e_21⟩ := hp9
                  replace hp9 : 0 = r19 := Eq.symm hp9
                  subst hp9
                  refine lv_pop hx hb d_Q_advance_147 rfl ?_
                  exact rfV hx hb hr hlk hS y1 (f_e_21.trans (adv_bad ed (d := (tvK x.tape x.qlen q, q, tvN x.tape x.qlen q (q + 1), x.qnum)) (tkD_t g2 g5 g8 g9) g18)) hP hD (Nat.le_of_ble_eq_true rfl) (Nat.le_of_ble_eq_true rfl) d_Q_advance_148
            · have g8 := bI_n0 g8
              refine lv_aload_n hx hb d_Q_advance_98 rfl (lv_at hl 2 rfl) ?_
              refine lv_aload_n hx hb d_Q_advance_99 rfl (lv_at hl 2 rfl) ?_
              refine jkI (wr := []) (rnV (As := []) (rest := [.ref (ad 22)]) hx hb hml hown hE hK (hN _ _ hS) hP hD (v_QreadName l D dA H.size h ad (VS.s_qen (VS.s_qst x q) (q + 1)) hq (show x.qlen ≤ x.tpN from by omega) (show x.tpN ≤ 131072 from by omega) (show (q + 1) ≤ x.qlen from by omega)) (q0 := 36) rfl rfl w1583 w1582 w1584 w1585 w665 rfl rfl ⟨⟨by decide, by decide⟩, rfl⟩ ⟨(Nat.le_of_ble_eq_true rfl), (Nat.le_of_ble_eq_true rfl)⟩ rfl hl.1 rfl (Nat.le_of_ble_eq_true rfl) d_Q_advance_100 ⟨(Nat.le_of_ble_eq_true rfl), (Nat.le_of_ble_eq_true rfl)⟩) hP hD hS hA (fun r22 u23 H locs hp9 hP hD hS => ?_)
              have hP : va_P D vwCl (VW dA h ad (VS.s_qen (VS.s_qst x q) (whE isNm x.tape x.qlen (q + 1)))) H := hP
              have hD : va_D A (VW dA h ad (VS.s_qen (VS.s_qst x q) (whE isNm x.tape x.qlen (q + 1)))) := hD
              replace hp9 : 258 = r22 := Eq.symm hp9
              subst hp9
              refine pF (v := .int 258) hx hb hown hE hK hP hD hS 36 rfl rfl layQ tyQ tokQ nmQ 2 (by decide) w663 rfl rfl rfl (Nat.le_of_ble_eq_true rfl) d_Q_advance_103 (fun H locs hP hD hS => ?_)
              have hP : va_P D vwCl (VW dA h ad (VS.s_qen (VS.s_qst (VS.s_qk x 258) q) (whE isNm x.tape x.qlen (q + 1)))) H := hP
              have hD : va_D A (VW dA h ad (VS.s_qen (VS.s_qst (VS.s_qk x 258) q) (whE isNm x.tape x.qlen (q + 1)))) := hD
              refine lv_goto hx hb d_Q_advance_106 (tgt := 131) rfl ?_
              refine lv_aload_n hx hb d_Q_advance_131 rfl (lv_at hl 2 rfl) ?_
              refine gF (v := .int 258) hx hb hown hE hK hP 36 rfl rfl layQ 2 (by decide) w663 rfl d_Q_advance_132 ?_
              refine lv_sipush (v := 263) hx hb d_Q_advance_135 (by decide) ?_
              refine lv_icmp_ne hx hb d_Q_advance_138 (tgt := 148) rfl (fun _ => ?_) (fun h9 => absurd h9 (by decide))
              exact rfV hx hb hr hlk hS (VS.s_qen (VS.s_qst (VS.s_qk x 258) q) (whE isNm x.tape x.qlen (q + 1))) (adv_ok ed (d := (258, q, whE isNm x.tape x.qlen (q + 1), x.qnum)) (tkD_n g2 g5 g8) (show ¬ (258 : Int32) = 263 by decide)) hP hD (Nat.le_of_ble_eq_true rfl) (Nat.le_of_ble_eq_true rfl) d_Q_advance_148
          · have g5 := bI_n0 g5
            refine lv_aload_n hx hb d_Q_advance_80 rfl (lv_at hl 2 rfl) ?_
            refine lv_aload_n hx hb d_Q_advance_81 rfl (lv_at hl 2 rfl) ?_
            refine jkI (wr := []) (rnV (As := []) (rest := [.ref (ad 22)]) hx hb hml hown hE hK (hN _ _ hS) hP hD (v_QreadNumber l D dA H.size h ad (VS.s_qen (VS.s_qst x q) (q + 1)) hq (show x.qlen ≤ x.tpN from by omega) (show x.tpN ≤ 131072 from by omega) (show q ≤ x.qlen from by omega)) (q0 := 36) rfl rfl w1587 w1586 w1588 w1589 w665 rfl rfl ⟨⟨by decide, by decide⟩, rfl⟩ ⟨(Nat.le_of_ble_eq_true rfl), (Nat.le_of_ble_eq_true rfl)⟩ rfl hl.1 rfl (Nat.le_of_ble_eq_true rfl) d_Q_advance_82 ⟨(Nat.le_of_ble_eq_true rfl), (Nat.le_of_ble_eq_true rfl)⟩) hP hD hS hA (fun r24 u25 H locs hp9 hP hD hS => ?_)
            obtain ⟨k, h9u⟩ : ∃ z9, z9 = u25 := ⟨_, rfl⟩
            subst h9u
            have hP : va_P D vwCl (VW dA h ad (VS.s_qnum (VS.s_qen (VS.s_qst x q) (q + k)) (nuV x.tape q k))) H := hP
            have hD : va_D A (VW dA h ad (VS.s_qnum (VS.s_qen (VS.s_qst x q) (q + k)) (nuV x.tape q k))) := hD
            obtain ⟨hp9, f_e_26⟩ := hp9
            replace hp9 : nuK x.tape q k = r24 := Eq.symm hp9
            subst hp9
            refine pF (v := .int (nuK x.tape q k)) hx hb hown hE hK hP hD hS 36 rfl rfl layQ tyQ tokQ nmQ 2 (by decide) w663 rfl rfl rfl (Nat.le_of_ble_eq_true rfl) d_Q_advance_85 (fun H locs hP hD hS => ?_)
            have hP : va_P D vwCl (VW dA h ad (VS.s_qnum (VS.s_qen (VS.s_qst (VS.s_qk x (nuK x.tape q k)) q) (q + k)) (nuV x.tape q k))) H := hP
            have hD : va_D A (VW dA h ad (VS.s_qnum (VS.s_qen (VS.s_qst (VS.s_qk x (nuK x.tape q k)) q) (q + k)) (nuV x.tape q k))) := hD
            refine lv_goto hx hb d_Q_advance_88 (tgt := 131) rfl ?_
            refine lv_aload_n hx hb d_Q_advance_131 rfl (lv_at hl 2 rfl) ?_
            refine gF (v := .int (nuK x.tape q k)) hx hb hown hE hK hP 36 rfl rfl layQ 2 (by decide) w663 rfl d_Q_advance_132 ?_
            refine lv_sipush (v := 263) hx hb d_Q_advance_135 (by decide) ?_
            refine lv_icmp_ne hx hb d_Q_advance_138 (tgt := 148) rfl (fun g27 => ?_) (fun g27 => ?_)
            · have g27 := g27
              exact rfV hx hb hr hlk hS (VS.s_qnum (VS.s_qen (VS.s_qst (VS.s_qk x (nuK x.tape q k)) q) (q + k)) (nuV x.tape q k)) (adv_ok ed (d := (nuK x.tape q k, q, q + k, nuV x.tape q k)) (tkD_d g2 g5 f_e_26) g27) hP hD (Nat.le_of_ble_eq_true rfl) (Nat.le_of_ble_eq_true rfl) d_Q_advance_148
            · have g27 := g27
              refine lv_aload_n hx hb d_Q_advance_141 rfl (lv_at hl 2 rfl) ?_
              refine lv_iconst (v := 1) hx hb d_Q_advance_142 (by decide) ?_
              refine lv_iload_n hx hb d_Q_advance_143 rfl (lv_at hl 1 rfl) ?_
              refine jkI (wr := []) (rnV (As := [.int 1, .int (nI q)]) (rest := []) hx hb hml hown hE hK (hN _ _ hS) hP hD (v_Qrefuse l D dA H.size h ad (VS.s_qnum (VS.s_qen (VS.s_qst (VS.s_qk x (nuK x.tape q k)) q) (q + k)) (nuV x.tape q k)) 1 q) (q0 := 36) rfl rfl w666 w664 w667 w668 w665 rfl rfl ⟨⟨by decide, by decide⟩, rfl⟩ ⟨(Nat.le_of_ble_eq_true rfl), (Nat.le_of_ble_eq_true rfl)⟩ rfl hl.1 rfl (Nat.le_of_ble_eq_true rfl) d_Q_advance_144 ⟨(Nat.le_of_ble_eq_true rfl), (Nat.le_of_ble_eq_true rfl)⟩) hP hD hS hA (fun r28 u29 H locs hp9 hP hD hS => ?_)
              obtain ⟨y1, h9u⟩ : ∃ z9, z9 = u29 := ⟨_, rfl⟩
              subst h9u
              have hP : va_P D vwCl (VW dA h ad y1) H := hP
              have hD : va_D A (VW dA h ad y1) := hD
              obtain ⟨hp9, f_e_30⟩ := hp9
              replace hp9 : 0 = r28 := Eq.symm hp9
              subst hp9
              refine lv_pop hx hb d_Q_advance_147 rfl ?_
              exact rfV hx hb hr hlk hS y1 (f_e_30.trans (adv_bad ed (d := (nuK x.tape q k, q, q + k, nuV x.tape q k)) (tkD_d g2 g5 f_e_26) g27)) hP hD (Nat.le_of_ble_eq_true rfl) (Nat.le_of_ble_eq_true rfl) d_Q_advance_148
        · have g2 := (nI_eq (a := q) (b := x.qlen) (by omega) (by omega)).mp g2
          refine lv_aload_n hx hb d_Q_advance_43 rfl (lv_at hl 1 rfl) ?_
          refine lv_aload_n hx hb d_Q_advance_44 rfl (lv_at hl 1 rfl) ?_
          refine gF (v := .int (nI x.qlen)) hx hb hown hE hK hP 36 rfl rfl layQ 1 (by decide) w661 rfl d_Q_advance_45 ?_
          refine pF (v := .int (nI x.qlen)) hx hb hown hE hK hP hD hS 36 rfl rfl layQ tyQ tokQ nmQ 4 (by decide) w660 rfl rfl rfl (Nat.le_of_ble_eq_true rfl) d_Q_advance_48 (fun H locs hP hD hS => ?_)
          have hP : va_P D vwCl (VW dA h ad (VS.s_qen (VS.s_qst x q) x.qlen)) H := hP
          have hD : va_D A (VW dA h ad (VS.s_qen (VS.s_qst x q) x.qlen)) := hD
          refine lv_aload_n hx hb d_Q_advance_51 rfl (lv_at hl 1 rfl) ?_
          refine lv_sipush (v := 256) hx hb d_Q_advance_52 (by decide) ?_
          refine pF (v := .int 256) hx hb hown hE hK hP hD hS 36 rfl rfl layQ tyQ tokQ nmQ 2 (by decide) w663 rfl rfl rfl (Nat.le_of_ble_eq_true rfl) d_Q_advance_55 (fun H locs hP hD hS => ?_)
          have hP : va_P D vwCl (VW dA h ad (VS.s_qen (VS.s_qst (VS.s_qk x 256) q) x.qlen)) H := hP
          have hD : va_D A (VW dA h ad (VS.s_qen (VS.s_qst (VS.s_qk x 256) q) x.qlen)) := hD
          exact rfV hx hb hr hlk hS (VS.s_qen (VS.s_qst (VS.s_qk x 256) q) x.qlen) (adv_ok ed (d := (256, q, x.qlen, x.qnum)) (tkD_e g2) (show ¬ (256 : Int32) = 263 by decide)) hP hD (Nat.le_of_ble_eq_true rfl) (Nat.le_of_ble_eq_true rfl) d_Q_advance_58
      · have g1 := mt (nI_leI (a := x.qlen) (b := q) (by omega) (by omega)).mpr g1
        refine lv_aload_n hx hb d_Q_advance_13 rfl (lv_at hl 1 rfl) ?_
        refine gF (v := .ref x.qtp) hx hb hown hE hK hP 36 rfl rfl layQ 0 (by decide) w677 rfl d_Q_advance_14 ?_
        rw [hq]
        refine lv_iload_n hx hb d_Q_advance_17 rfl (lv_at hl 0 rfl) ?_
        refine nbld (f := x.tape) (n := x.tpN) hx hb hK hP (1) 0 rfl rfl (q) (by omega) (by omega) d_Q_advance_18 ?_
        refine lv_bipush (v := 32) hx hb d_Q_advance_19 (by decide) ?_
        refine lv_icmp_ne hx hb d_Q_advance_21 (tgt := 30) rfl (fun g31 => ?_) (fun g31 => ?_)
        · have g31 := g31
          have ed : whE isSp x.tape x.qlen x.qen = q := i2.symm.trans (whE_f (decide_eq_false g31))
          refine lv_aload_n hx hb d_Q_advance_30 rfl (lv_at hl 1 rfl) ?_
          refine lv_iload_n hx hb d_Q_advance_31 rfl (lv_at hl 0 rfl) ?_
          refine pF (v := .int (nI q)) hx hb hown hE hK hP hD hS 36 rfl rfl layQ tyQ tokQ nmQ 3 (by decide) w662 rfl rfl rfl (Nat.le_of_ble_eq_true rfl) d_Q_advance_32 (fun H locs hP hD hS => ?_)
          have hP : va_P D vwCl (VW dA h ad (VS.s_qst x q)) H := hP
          have hD : va_D A (VW dA h ad (VS.s_qst x q)) := hD
          refine lv_iload_n hx hb d_Q_advance_35 rfl (lv_at hl 0 rfl) ?_
          refine lv_aload_n hx hb d_Q_advance_36 rfl (lv_at hl 1 rfl) ?_
          refine gF (v := .int (nI x.qlen)) hx hb hown hE hK hP 36 rfl rfl layQ 1 (by decide) w661 rfl d_Q_advance_37 ?_
          refine lv_icmp_ne hx hb d_Q_advance_40 (tgt := 59) rfl (fun g32 => ?_) (fun g32 => ?_)
          · have g32 := mt (nI_eq (a := q) (b := x.qlen) (by omega) (by omega)).mpr g32
            refine lv_aload_n hx hb d_Q_advance_59 rfl (lv_at hl 1 rfl) ?_
            refine lv_iload_n hx hb d_Q_advance_60 rfl (lv_at hl 0 rfl) ?_
            refine lv_iconst (v := 1) hx hb d_Q_advance_61 (by decide) ?_
            refine lv_iadd hx hb d_Q_advance_62 (tpi (y := nI (q + 1)) (nI_add (q) (1)) ?_)
            refine pF (v := .int (nI (q + 1))) hx hb hown hE hK hP hD hS 36 rfl rfl layQ tyQ tokQ nmQ 4 (by decide) w660 rfl rfl rfl (Nat.le_of_ble_eq_true rfl) d_Q_advance_63 (fun H locs hP hD hS => ?_)
            have hP : va_P D vwCl (VW dA h ad (VS.s_qen (VS.s_qst x q) (q + 1))) H := hP
            have hD : va_D A (VW dA h ad (VS.s_qen (VS.s_qst x q) (q + 1))) := hD
            refine lv_aload_n hx hb d_Q_advance_66 rfl (lv_at hl 1 rfl) ?_
            refine gF (v := .ref x.qtp) hx hb hown hE hK hP 36 rfl rfl layQ 0 (by decide) w677 rfl d_Q_advance_67 ?_
            rw [hq]
            refine lv_iload_n hx hb d_Q_advance_70 rfl (lv_at hl 0 rfl) ?_
            refine nbld (f := x.tape) (n := x.tpN) hx hb hK hP (1) 0 rfl rfl (q) (by omega) (by omega) d_Q_advance_71 ?_
            refine lv_istore_n hx hb d_Q_advance_72 rfl hl (by decide) rfl (fun ls hl => ?_)
            have hl : lv_has ls 3 [(2, .int (x.tape q)), (1, .int (nI q)), (0, .ref (ad 22))] := hl
            refine lv_iload_n hx hb d_Q_advance_73 rfl (lv_at hl 0 rfl) ?_
            have hPc := hP.sub (ws' := []) [] rfl
            have hDc := hD.sub (ws' := []) [] (by decide) rfl
            refine jpI (rnS (As := [.int (x.tape q)]) (rest := []) hx hb hml hown hE hK (hN _ _ hS) hPc hDc (v_QisDigit l D dA H.size (x.tape q)) w1562 w1561 w1563 w665 rfl rfl ⟨⟨by decide, by decide⟩, rfl⟩ ⟨(Nat.le_of_ble_eq_true rfl), (Nat.le_of_ble_eq_true rfl)⟩ rfl hl.1 rfl (Nat.le_of_ble_eq_true rfl) d_Q_advance_74 ⟨(Nat.le_of_ble_eq_true rfl), (Nat.le_of_ble_eq_true rfl)⟩) hP hD hS hA (fun r33 u9 H locs hp9 hP hD hS => ?_)
            have hP : va_P D vwCl (VW dA h ad (VS.s_qen (VS.s_qst x q) (q + 1))) H := hP
            have hD : va_D A (VW dA h ad (VS.s_qen (VS.s_qst x q) (q + 1))) := hD
            replace hp9 : bI (isDg (x.tape q)) = r33 := Eq.symm hp9
            subst hp9
            refine lv_if_eq hx hb d_Q_advance_77 (tgt := 91) rfl (fun g35 => ?_) (fun g35 => ?_)
            · have g35 := bI_0 g35
              refine lv_iload_n hx hb d_Q_advance_91 rfl (lv_at hl 0 rfl) ?_
              have hPc := hP.sub (ws' := []) [] rfl
              have hDc := hD.sub (ws' := []) [] (by decide) rfl
              refine jpI (rnS (As := [.int (x.tape q)]) (rest := []) hx hb hml hown hE hK (hN _ _ hS) hPc hDc (v_QisOfName l D dA H.size (x.tape q)) w1558 w1557 w1559 w665 rfl rfl ⟨⟨by decide, by decide⟩, rfl⟩ ⟨(Nat.le_of_ble_eq_true rfl), (Nat.le_of_ble_eq_true rfl)⟩ rfl hl.1 rfl (Nat.le_of_ble_eq_true rfl) d_Q_advance_92 ⟨(Nat.le_of_ble_eq_true rfl), (Nat.le_of_ble_eq_true rfl)⟩) hP hD hS hA (fun r36 u9 H locs hp9 hP hD hS => ?_)
              have hP : va_P D vwCl (VW dA h ad (VS.s_qen (VS.s_qst x q) (q + 1))) H := hP
              have hD : va_D A (VW dA h ad (VS.s_qen (VS.s_qst x q) (q + 1))) := hD
              replace hp9 : bI (isNm (x.tape q)) = r36 := Eq.symm hp9
              subst hp9
              refine lv_if_eq hx hb d_Q_advance_95 (tgt := 109) rfl (fun g38 => ?_) (fun g38 => ?_)
              · have g38 := bI_0 g38
                refine lv_aload_n hx hb d_Q_advance_109 rfl (lv_at hl 2 rfl) ?_
                refine lv_iload_n hx hb d_Q_advance_110 rfl (lv_at hl 0 rfl) ?_
                refine lv_bipush (v := 34) hx hb d_Q_advance_111 (by decide) ?_
                refine lv_icmp_ne hx hb d_Q_advance_113 (tgt := 123) rfl (fun g39 => ?_) (fun g39 => ?_)
                · have g39 := g39
                  refine lv_aload_n hx hb d_Q_advance_123 rfl (lv_at hl 2 rfl) ?_
                  refine lv_iload_n hx hb d_Q_advance_124 rfl (lv_at hl 0 rfl) ?_
                  refine jkI (wr := []) (rnV (As := [.int (x.tape q)]) (rest := [.ref (ad 22)]) hx hb hml hown hE hK (hN _ _ hS) hP hD (v_QsignOf l D dA H.size h ad (VS.s_qen (VS.s_qst x q) (q + 1)) (x.tape q) hq (show x.qlen ≤ x.tpN from by omega) (show x.tpN ≤ 131072 from by omega) (show (q + 1) ≤ 131072 from by omega)) (q0 := 36) rfl rfl w1575 w1574 w1576 w1577 w665 rfl rfl ⟨⟨by decide, by decide⟩, rfl⟩ ⟨(Nat.le_of_ble_eq_true rfl), (Nat.le_of_ble_eq_true rfl)⟩ rfl hl.1 rfl (Nat.le_of_ble_eq_true rfl) d_Q_advance_125 ⟨(Nat.le_of_ble_eq_true rfl), (Nat.le_of_ble_eq_true rfl)⟩) hP hD hS hA (fun r40 u41 H locs hp9 hP hD hS => ?_)
                  have hP : va_P D vwCl (VW dA h ad (VS.s_qen (VS.s_qst x q) ((q + 1) + ((sgV (x.tape q) (atV x.tape x.qlen (q + 1))).2 - 1)))) H := hP
                  have hD : va_D A (VW dA h ad (VS.s_qen (VS.s_qst x q) ((q + 1) + ((sgV (x.tape q) (atV x.tape x.qlen (q + 1))).2 - 1)))) := hD
                  replace hp9 : (sgV (x.tape q) (atV x.tape x.qlen (q + 1))).1 = r40 := Eq.symm hp9
                  subst hp9
                  refine pF (v := .int ((sgV (x.tape q) (atV x.tape x.qlen (q + 1))).1)) hx hb hown hE hK hP hD hS 36 rfl rfl layQ tyQ tokQ nmQ 2 (by decide) w663 rfl rfl rfl (Nat.le_of_ble_eq_true rfl) d_Q_advance_128 (fun H locs hP hD hS => ?_)
                  have hP : va_P D vwCl (VW dA h ad (VS.s_qen (VS.s_qst (VS.s_qk x ((sgV (x.tape q) (atV x.tape x.qlen (q + 1))).1)) q) ((q + 1) + ((sgV (x.tape q) (atV x.tape x.qlen (q + 1))).2 - 1)))) H := hP
                  have hD : va_D A (VW dA h ad (VS.s_qen (VS.s_qst (VS.s_qk x ((sgV (x.tape q) (atV x.tape x.qlen (q + 1))).1)) q) ((q + 1) + ((sgV (x.tape q) (atV x.tape x.qlen (q + 1))).2 - 1)))) := hD
                  refine lv_aload_n hx hb d_Q_advance_131 rfl (lv_at hl 2 rfl) ?_
                  refine gF (v := .int ((sgV (x.tape q) (atV x.tape x.qlen (q + 1))).1)) hx hb hown hE hK hP 36 rfl rfl layQ 2 (by decide) w663 rfl d_Q_advance_132 ?_
                  refine lv_sipush (v := 263) hx hb d_Q_advance_135 (by decide) ?_
                  refine lv_icmp_ne hx hb d_Q_advance_138 (tgt := 148) rfl (fun g42 => ?_) (fun g42 => ?_)
                  · have g42 := g42
                    exact rfV hx hb hr hlk hS (VS.s_qen (VS.s_qst (VS.s_qk x ((sgV (x.tape q) (atV x.tape x.qlen (q + 1))).1)) q) ((q + 1) + ((sgV (x.tape q) (atV x.tape x.qlen (q + 1))).2 - 1))) (adv_ok ed (d := ((sgV (x.tape q) (atV x.tape x.qlen (q + 1))).1, q, q + 1 + ((sgV (x.tape q) (atV x.tape x.qlen (q + 1))).2 - 1), x.qnum)) (tkD_s g32 g35 g38 g39) g42) hP hD (Nat.le_of_ble_eq_true rfl) (Nat.le_of_ble_eq_true rfl) d_Q_advance_148
                  · have g42 := g42
                    refine lv_aload_n hx hb d_Q_advance_141 rfl (lv_at hl 2 rfl) ?_
                    refine lv_iconst (v := 1) hx hb d_Q_advance_142 (by decide) ?_
                    refine lv_iload_n hx hb d_Q_advance_143 rfl (lv_at hl 1 rfl) ?_
                    refine jkI (wr := []) (rnV (As := [.int 1, .int (nI q)]) (rest := []) hx hb hml hown hE hK (hN _ _ hS) hP hD (v_Qrefuse l D dA H.size h ad (VS.s_qen (VS.s_qst (VS.s_qk x ((sgV (x.tape q) (atV x.tape x.qlen (q + 1))).1)) q) ((q + 1) + ((sgV (x.tape q) (atV x.tape x.qlen (q + 1))).2 - 1))) 1 q) (q0 := 36) rfl rfl w666 w664 w667 w668 w665 rfl rfl ⟨⟨by decide, by decide⟩, rfl⟩ ⟨(Nat.le_of_ble_eq_true rfl), (Nat.le_of_ble_eq_true rfl)⟩ rfl hl.1 rfl (Nat.le_of_ble_eq_true rfl) d_Q_advance_144 ⟨(Nat.le_of_ble_eq_true rfl), (Nat.le_of_ble_eq_true rfl)⟩) hP hD hS hA (fun r43 u44 H locs hp9 hP hD hS => ?_)
                    obtain ⟨y1, h9u⟩ : ∃ z9, z9 = u44 := ⟨_, rfl⟩
                    subst h9u
                    have hP : va_P D vwCl (VW dA h ad y1) H := hP
                    have hD : va_D A (VW dA h ad y1) := hD
                    obtain ⟨hp9, f_e_45⟩ := hp9
                    replace hp9 : 0 = r43 := Eq.symm hp9
                    subst hp9
                    refine lv_pop hx hb d_Q_advance_147 rfl ?_
                    exact rfV hx hb hr hlk hS y1 (f_e_45.trans (adv_bad ed (d := ((sgV (x.tape q) (atV x.tape x.qlen (q + 1))).1, q, q + 1 + ((sgV (x.tape q) (atV x.tape x.qlen (q + 1))).2 - 1), x.qnum)) (tkD_s g32 g35 g38 g39) g42)) hP hD (Nat.le_of_ble_eq_true rfl) (Nat.le_of_ble_eq_true rfl) d_Q_advance_148
                · have g39 := g39
                  refine lv_aload_n hx hb d_Q_advance_116 rfl (lv_at hl 2 rfl) ?_
                  refine jkI (wr := []) (rnV (As := []) (rest := [.ref (ad 22)]) hx hb hml hown hE hK (hN _ _ hS) hP hD (v_QreadText l D dA H.size h ad (VS.s_qen (VS.s_qst x q) (q + 1)) hq (show x.qlen ≤ x.tpN from by omega) (show x.tpN ≤ 131072 from by omega) (show q < x.qlen from by omega)) (q0 := 36) rfl rfl w1579 w1578 w1580 w1581 w665 rfl rfl ⟨⟨by decide, by decide⟩, rfl⟩ ⟨(Nat.le_of_ble_eq_true rfl), (Nat.le_of_ble_eq_true rfl)⟩ rfl hl.1 rfl (Nat.le_of_ble_eq_true rfl) d_Q_advance_117 ⟨(Nat.le_of_ble_eq_true rfl), (Nat.le_of_ble_eq_true rfl)⟩) hP hD hS hA (fun r46 u47 H locs hp9 hP hD hS => ?_)
                  have hP : va_P D vwCl (VW dA h ad (VS.s_qen (VS.s_qst x q) (tvN x.tape x.qlen q (q + 1)))) H := hP
                  have hD : va_D A (VW dA h ad (VS.s_qen (VS.s_qst x q) (tvN x.tape x.qlen q (q + 1)))) := hD
                  replace hp9 : tvK x.tape x.qlen q = r46 := Eq.symm hp9
                  subst hp9
                  refine lv_goto hx hb d_Q_advance_120 (tgt := 128) rfl ?_
                  refine pF (v := .int (tvK x.tape x.qlen q)) hx hb hown hE hK hP hD hS 36 rfl rfl layQ tyQ tokQ nmQ 2 (by decide) w663 rfl rfl rfl (Nat.le_of_ble_eq_true rfl) d_Q_advance_128 (fun H locs hP hD hS => ?_)
                  have hP : va_P D vwCl (VW dA h ad (VS.s_qen (VS.s_qst (VS.s_qk x (tvK x.tape x.qlen q)) q) (tvN x.tape x.qlen q (q + 1)))) H := hP
                  have hD : va_D A (VW dA h ad (VS.s_qen (VS.s_qst (VS.s_qk x (tvK x.tape x.qlen q)) q) (tvN x.tape x.qlen q (q + 1)))) := hD
                  refine lv_aload_n hx hb d_Q_advance_131 rfl (lv_at hl 2 rfl) ?_
                  refine gF (v := .int (tvK x.tape x.qlen q)) hx hb hown hE hK hP 36 rfl rfl layQ 2 (by decide) w663 rfl d_Q_advance_132 ?_
                  refine lv_sipush (v := 263) hx hb d_Q_advance_135 (by decide) ?_
                  refine lv_icmp_ne hx hb d_Q_advance_138 (tgt := 148) rfl (fun g48 => ?_) (fun g48 => ?_)
                  · have g48 := g48
                    exact rfV hx hb hr hlk hS (VS.s_qen (VS.s_qst (VS.s_qk x (tvK x.tape x.qlen q)) q) (tvN x.tape x.qlen q (q + 1))) (adv_ok ed (d := (tvK x.tape x.qlen q, q, tvN x.tape x.qlen q (q + 1), x.qnum)) (tkD_t g32 g35 g38 g39) g48) hP hD (Nat.le_of_ble_eq_true rfl) (Nat.le_of_ble_eq_true rfl) d_Q_advance_148
                  · have g48 := g48
                    refine lv_aload_n hx hb d_Q_advance_141 rfl (lv_at hl 2 rfl) ?_
                    refine lv_iconst (v := 1) hx hb d_Q_advance_142 (by decide) ?_
                    refine lv_iload_n hx hb d_Q_advance_143 rfl (lv_at hl 1 rfl) ?_
                    refine jkI (wr := []) (rnV (As := [.int 1, .int (nI q)]) (rest := []) hx hb hml hown hE hK (hN _ _ hS) hP hD (v_Qrefuse l D dA H.size h ad (VS.s_qen (VS.s_qst (VS.s_qk x (tvK x.tape x.qlen q)) q) (tvN x.tape x.qlen q (q + 1))) 1 q) (q0 := 36) rfl rfl w666 w664 w667 w668 w665 rfl rfl ⟨⟨by decide, by decide⟩, rfl⟩ ⟨(Nat.le_of_ble_eq_true rfl), (Nat.le_of_ble_eq_true rfl)⟩ rfl hl.1 rfl (Nat.le_of_ble_eq_true rfl) d_Q_advance_144 ⟨(Nat.le_of_ble_eq_true rfl), (Nat.le_of_ble_eq_true rfl)⟩) hP hD hS hA (fun r49 u50 H locs hp9 hP hD hS => ?_)
                    obtain ⟨y1, h9u⟩ : ∃ z9, z9 = u50 := ⟨_, rfl⟩
                    subst h9u
                    have hP : va_P D vwCl (VW dA h ad y1) H := hP
                    have hD : va_D A (VW dA h ad y1) := hD
                    obtain ⟨hp9, f_e_51⟩ := hp9
                    replace hp9 : 0 = r49 := Eq.symm hp9
                    subst hp9
                    refine lv_pop hx hb d_Q_advance_147 rfl ?_
                    exact rfV hx hb hr hlk hS y1 (f_e_51.trans (adv_bad ed (d := (tvK x.tape x.qlen q, q, tvN x.tape x.qlen q (q + 1), x.qnum)) (tkD_t g32 g35 g38 g39) g48)) hP hD (Nat.le_of_ble_eq_true rfl) (Nat.le_of_ble_eq_true rfl) d_Q_advance_148
              · have g38 := bI_n0 g38
                refine lv_aload_n hx hb d_Q_advance_98 rfl (lv_at hl 2 rfl) ?_
                refine lv_aload_n hx hb d_Q_advance_99 rfl (lv_at hl 2 rfl) ?_
                refine jkI (wr := []) (rnV (As := []) (rest := [.ref (ad 22)]) hx hb hml hown hE hK (hN _ _ hS) hP hD (v_QreadName l D dA H.size h ad (VS.s_qen (VS.s_qst x q) (q + 1)) hq (show x.qlen ≤ x.tpN from by omega) (show x.tpN ≤ 131072 from by omega) (show (q + 1) ≤ x.qlen from by omega)) (q0 := 36) rfl rfl w1583 w1582 w1584 w1585 w665 rfl rfl ⟨⟨by decide, by decide⟩, rfl⟩ ⟨(Nat.le_of_ble_eq_true rfl), (Nat.le_of_ble_eq_true rfl)⟩ rfl hl.1 rfl (Nat.le_of_ble_eq_true rfl) d_Q_advance_100 ⟨(Nat.le_of_ble_eq_true rfl), (Nat.le_of_ble_eq_true rfl)⟩) hP hD hS hA (fun r52 u53 H locs hp9 hP hD hS => ?_)
                have hP : va_P D vwCl (VW dA h ad (VS.s_qen (VS.s_qst x q) (whE isNm x.tape x.qlen (q + 1)))) H := hP
                have hD : va_D A (VW dA h ad (VS.s_qen (VS.s_qst x q) (whE isNm x.tape x.qlen (q + 1)))) := hD
                replace hp9 : 258 = r52 := Eq.symm hp9
                subst hp9
                refine pF (v := .int 258) hx hb hown hE hK hP hD hS 36 rfl rfl layQ tyQ tokQ nmQ 2 (by decide) w663 rfl rfl rfl (Nat.le_of_ble_eq_true rfl) d_Q_advance_103 (fun H locs hP hD hS => ?_)
                have hP : va_P D vwCl (VW dA h ad (VS.s_qen (VS.s_qst (VS.s_qk x 258) q) (whE isNm x.tape x.qlen (q + 1)))) H := hP
                have hD : va_D A (VW dA h ad (VS.s_qen (VS.s_qst (VS.s_qk x 258) q) (whE isNm x.tape x.qlen (q + 1)))) := hD
                refine lv_goto hx hb d_Q_advance_106 (tgt := 131) rfl ?_
                refine lv_aload_n hx hb d_Q_advance_131 rfl (lv_at hl 2 rfl) ?_
                refine gF (v := .int 258) hx hb hown hE hK hP 36 rfl rfl layQ 2 (by decide) w663 rfl d_Q_advance_132 ?_
                refine lv_sipush (v := 263) hx hb d_Q_advance_135 (by decide) ?_
                refine lv_icmp_ne hx hb d_Q_advance_138 (tgt := 148) rfl (fun _ => ?_) (fun h9 => absurd h9 (by decide))
                exact rfV hx hb hr hlk hS (VS.s_qen (VS.s_qst (VS.s_qk x 258) q) (whE isNm x.tape x.qlen (q + 1))) (adv_ok ed (d := (258, q, whE isNm x.tape x.qlen (q + 1), x.qnum)) (tkD_n g32 g35 g38) (show ¬ (258 : Int32) = 263 by decide)) hP hD (Nat.le_of_ble_eq_true rfl) (Nat.le_of_ble_eq_true rfl) d_Q_advance_148
            · have g35 := bI_n0 g35
              refine lv_aload_n hx hb d_Q_advance_80 rfl (lv_at hl 2 rfl) ?_
              refine lv_aload_n hx hb d_Q_advance_81 rfl (lv_at hl 2 rfl) ?_
              refine jkI (wr := []) (rnV (As := []) (rest := [.ref (ad 22)]) hx hb hml hown hE hK (hN _ _ hS) hP hD (v_QreadNumber l D dA H.size h ad (VS.s_qen (VS.s_qst x q) (q + 1)) hq (show x.qlen ≤ x.tpN from by omega) (show x.tpN ≤ 131072 from by omega) (show q ≤ x.qlen from by omega)) (q0 := 36) rfl rfl w1587 w1586 w1588 w1589 w665 rfl rfl ⟨⟨by decide, by decide⟩, rfl⟩ ⟨(Nat.le_of_ble_eq_true rfl), (Nat.le_of_ble_eq_true rfl)⟩ rfl hl.1 rfl (Nat.le_of_ble_eq_true rfl) d_Q_advance_82 ⟨(Nat.le_of_ble_eq_true rfl), (Nat.le_of_ble_eq_true rfl)⟩) hP hD hS hA (fun r54 u55 H locs hp9 hP hD hS => ?_)
              obtain ⟨k, h9u⟩ : ∃ z9, z9 = u55 := ⟨_, rfl⟩
              subst h9u
              have hP : va_P D vwCl (VW dA h ad (VS.s_qnum (VS.s_qen (VS.s_qst x q) (q + k)) (nuV x.tape q k))) H := hP
              have hD : va_D A (VW dA h ad (VS.s_qnum (VS.s_qen (VS.s_qst x q) (q + k)) (nuV x.tape q k))) := hD
              obtain ⟨hp9, f_e_56⟩ := hp9
              replace hp9 : nuK x.tape q k = r54 := Eq.symm hp9
              subst hp9
              refine pF (v := .int (nuK x.tape q k)) hx hb hown hE hK hP hD hS 36 rfl rfl layQ tyQ tokQ nmQ 2 (by decide) w663 rfl rfl rfl (Nat.le_of_ble_eq_true rfl) d_Q_advance_85 (fun H locs hP hD hS => ?_)
              have hP : va_P D vwCl (VW dA h ad (VS.s_qnum (VS.s_qen (VS.s_qst (VS.s_qk x (nuK x.tape q k)) q) (q + k)) (nuV x.tape q k))) H := hP
              have hD : va_D A (VW dA h ad (VS.s_qnum (VS.s_qen (VS.s_qst (VS.s_qk x (nuK x.tape q k)) q) (q + k)) (nuV x.tape q k))) := hD
              refine lv_goto hx hb d_Q_advance_88 (tgt := 131) rfl ?_
              refine lv_aload_n hx hb d_Q_advance_131 rfl (lv_at hl 2 rfl) ?_
              refine gF (v := .int (nuK x.tape q k)) hx hb hown hE hK hP 36 rfl rfl layQ 2 (by decide) w663 rfl d_Q_advance_132 ?_
              refine lv_sipush (v := 263) hx hb d_Q_advance_135 (by decide) ?_
              refine lv_icmp_ne hx hb d_Q_advance_138 (tgt := 148) rfl (fun g57 => ?_) (fun g57 => ?_)
              · have g57 := g57
                exact rfV hx hb hr hlk hS (VS.s_qnum (VS.s_qen (VS.s_qst (VS.s_qk x (nuK x.tape q k)) q) (q + k)) (nuV x.tape q k)) (adv_ok ed (d := (nuK x.tape q k, q, q + k, nuV x.tape q k)) (tkD_d g32 g35 f_e_56) g57) hP hD (Nat.le_of_ble_eq_true rfl) (Nat.le_of_ble_eq_true rfl) d_Q_advance_148
              · have g57 := g57
                refine lv_aload_n hx hb d_Q_advance_141 rfl (lv_at hl 2 rfl) ?_
                refine lv_iconst (v := 1) hx hb d_Q_advance_142 (by decide) ?_
                refine lv_iload_n hx hb d_Q_advance_143 rfl (lv_at hl 1 rfl) ?_
                refine jkI (wr := []) (rnV (As := [.int 1, .int (nI q)]) (rest := []) hx hb hml hown hE hK (hN _ _ hS) hP hD (v_Qrefuse l D dA H.size h ad (VS.s_qnum (VS.s_qen (VS.s_qst (VS.s_qk x (nuK x.tape q k)) q) (q + k)) (nuV x.tape q k)) 1 q) (q0 := 36) rfl rfl w666 w664 w667 w668 w665 rfl rfl ⟨⟨by decide, by decide⟩, rfl⟩ ⟨(Nat.le_of_ble_eq_true rfl), (Nat.le_of_ble_eq_true rfl)⟩ rfl hl.1 rfl (Nat.le_of_ble_eq_true rfl) d_Q_advance_144 ⟨(Nat.le_of_ble_eq_true rfl), (Nat.le_of_ble_eq_true rfl)⟩) hP hD hS hA (fun r58 u59 H locs hp9 hP hD hS => ?_)
                obtain ⟨y1, h9u⟩ : ∃ z9, z9 = u59 := ⟨_, rfl⟩
                subst h9u
                have hP : va_P D vwCl (VW dA h ad y1) H := hP
                have hD : va_D A (VW dA h ad y1) := hD
                obtain ⟨hp9, f_e_60⟩ := hp9
                replace hp9 : 0 = r58 := Eq.symm hp9
                subst hp9
                refine lv_pop hx hb d_Q_advance_147 rfl ?_
                exact rfV hx hb hr hlk hS y1 (f_e_60.trans (adv_bad ed (d := (nuK x.tape q k, q, q + k, nuV x.tape q k)) (tkD_d g32 g35 f_e_56) g57)) hP hD (Nat.le_of_ble_eq_true rfl) (Nat.le_of_ble_eq_true rfl) d_Q_advance_148
          · have g32 := (nI_eq (a := q) (b := x.qlen) (by omega) (by omega)).mp g32
            refine lv_aload_n hx hb d_Q_advance_43 rfl (lv_at hl 1 rfl) ?_
            refine lv_aload_n hx hb d_Q_advance_44 rfl (lv_at hl 1 rfl) ?_
            refine gF (v := .int (nI x.qlen)) hx hb hown hE hK hP 36 rfl rfl layQ 1 (by decide) w661 rfl d_Q_advance_45 ?_
            refine pF (v := .int (nI x.qlen)) hx hb hown hE hK hP hD hS 36 rfl rfl layQ tyQ tokQ nmQ 4 (by decide) w660 rfl rfl rfl (Nat.le_of_ble_eq_true rfl) d_Q_advance_48 (fun H locs hP hD hS => ?_)
            have hP : va_P D vwCl (VW dA h ad (VS.s_qen (VS.s_qst x q) x.qlen)) H := hP
            have hD : va_D A (VW dA h ad (VS.s_qen (VS.s_qst x q) x.qlen)) := hD
            refine lv_aload_n hx hb d_Q_advance_51 rfl (lv_at hl 1 rfl) ?_
            refine lv_sipush (v := 256) hx hb d_Q_advance_52 (by decide) ?_
            refine pF (v := .int 256) hx hb hown hE hK hP hD hS 36 rfl rfl layQ tyQ tokQ nmQ 2 (by decide) w663 rfl rfl rfl (Nat.le_of_ble_eq_true rfl) d_Q_advance_55 (fun H locs hP hD hS => ?_)
            have hP : va_P D vwCl (VW dA h ad (VS.s_qen (VS.s_qst (VS.s_qk x 256) q) x.qlen)) H := hP
            have hD : va_D A (VW dA h ad (VS.s_qen (VS.s_qst (VS.s_qk x 256) q) x.qlen)) := hD
            exact rfV hx hb hr hlk hS (VS.s_qen (VS.s_qst (VS.s_qk x 256) q) x.qlen) (adv_ok ed (d := (256, q, x.qlen, x.qnum)) (tkD_e g32) (show ¬ (256 : Int32) = 263 by decide)) hP hD (Nat.le_of_ble_eq_true rfl) (Nat.le_of_ble_eq_true rfl) d_Q_advance_58
        · have g31 := g31
          refine lv_iinc (k := 0) (v := nI (q + 1)) hx hb d_Q_advance_24 hl rfl (iincN (q) 1 1 (by decide)) (by decide) rfl (fun ls hl => ?_)
          have hl : lv_has ls 3 [(1, .int (nI (q + 1))), (0, .ref (ad 22))] := hl
          refine lv_goto hx hb d_Q_advance_27 (tgt := 5) rfl ?_
          exact ih5 _ (by omega) (q + 1) (by omega) ((whE_t (by omega) (decide_eq_true g31)).symm.trans i2) rfl H _ ls hP hD hS (lv_sub hl [0, 1] rfl)
  exact L5 _ x.qen h1 rfl rfl H _ ls hP hD hS (lv_sub hl [0, 1] rfl)
theorem d_Q_take_0 : decode prog_6_method_9_code 0 = .ok (.aload_n 0, 1) := by decide +kernel
theorem d_Q_take_1 : decode prog_6_method_9_code 1 = .ok (.getfield 45, 3) := by decide +kernel
theorem d_Q_take_4 : decode prog_6_method_9_code 4 = .ok (.iload_n 1, 1) := by decide +kernel
theorem d_Q_take_5 : decode prog_6_method_9_code 5 = .ok (.if_icmp .eq 13, 3) := by decide +kernel
theorem d_Q_take_18 : decode prog_6_method_9_code 18 = .ok (.aload_n 0, 1) := by decide +kernel
theorem d_Q_take_19 : decode prog_6_method_9_code 19 = .ok (.invokevirtual 38, 3) := by decide +kernel
theorem d_Q_take_22 : decode prog_6_method_9_code 22 = .ok (.iconst 1, 1) := by decide +kernel
theorem d_Q_take_23 : decode prog_6_method_9_code 23 = .ok (.ireturn, 1) := by decide +kernel
theorem d_Q_take_8 : decode prog_6_method_9_code 8 = .ok (.aload_n 0, 1) := by decide +kernel
theorem d_Q_take_9 : decode prog_6_method_9_code 9 = .ok (.iconst 2, 1) := by decide +kernel
theorem d_Q_take_10 : decode prog_6_method_9_code 10 = .ok (.aload_n 0, 1) := by decide +kernel
theorem d_Q_take_11 : decode prog_6_method_9_code 11 = .ok (.getfield 48, 3) := by decide +kernel
theorem d_Q_take_14 : decode prog_6_method_9_code 14 = .ok (.invokevirtual 51, 3) := by decide +kernel
theorem d_Q_take_17 : decode prog_6_method_9_code 17 = .ok (.ireturn, 1) := by decide +kernel
set_option maxHeartbeats 4000000 in
set_option maxRecDepth 100000 in
theorem v_Qtake (l : Launch) (D : va_G) (dA : Nat → ClassId) (sz : Nat) (h : Nat) (ad : Nat → Nat) (x : VS) (z : Int32) (hq : x.qtp = x.tpA) (h2 : x.qlen ≤ x.tpN) (h3 : x.tpN ≤ 131072) (h1 : x.qen ≤ x.qlen) (h4 : x.qst ≤ x.qlen) : Met l ⟨"SeriesVault$Question", "take", "(I)Z"⟩ [Cond.code ⟨"SeriesVault$Question", "take", "(I)Z"⟩ prog_6_method_9_code 2 (some FieldType.boolean)] { frames := 4, cells := 0, slots := 0, locals := 65 } (pC D dA [.ref (ad 22), .int z] (VW dA h ad x) sz) (va_Qi (fun (r9 : Int32) (u9 : VS) => r9 = bI (decide (x.qk = z)) ∧ u9 = if x.qk = z then x.adv else x.rfq 2 x.qst) (fun (u9 : VS) t9 => bW D (va_A (VW dA h ad x) sz) (VW dA h ad u9) t9) (va_A (VW dA h ad x) sz)) 0 0 (va_A (VW dA h ad x) sz) := by
  refine mkC (y := ⟨"SeriesVault$Question", "take", "(I)Z"⟩) (cc := prog_6_method_9_code) (maxL := 2) (av := [.ref (ad 22), .int z]) (ws := VW dA h ad x) (sz := sz) (Qc := fun A => va_Qi (fun (r9 : Int32) (u9 : VS) => r9 = bI (decide (x.qk = z)) ∧ u9 = if x.qk = z then x.adv else x.rfq 2 x.qst) (fun (u9 : VS) t9 => bW D A (VW dA h ad u9) t9) A) (by decide) (Nat.le_of_ble_eq_true rfl) ?_
  intro A p e s m below meth c ls hsz hB
  obtain ⟨hx, hb, hr, hml, hown, hin, hlk, hE, hK, hP, hD, hS, hA, hN, hl⟩ := hB
  have hown : s.vm.findClass "SeriesVault$Question" = some m.cls := hown
  have hl : lv_has ls 2 [(0, .ref (ad 22)), (1, .int z)] := hl
  obtain ⟨H, hH⟩ : ∃ z, z = s.heap := ⟨_, rfl⟩
  have hP : va_P D vwCl (VW dA h ad x) H := by rw [hH]; exact hP
  have hS : va_S A s.heap H [] := by rw [hH]; exact hS
  rw [← hH]
  refine lv_aload_n hx hb d_Q_take_0 rfl (lv_at hl 0 rfl) ?_
  refine gF (v := .int x.qk) hx hb hown hE hK hP 36 rfl rfl layQ 2 (by decide) w663 rfl d_Q_take_1 ?_
  refine lv_iload_n hx hb d_Q_take_4 rfl (lv_at hl 1 rfl) ?_
  refine lv_icmp_eq hx hb d_Q_take_5 (tgt := 18) rfl (fun g1 => ?_) (fun g1 => ?_)
  · have g1 := g1
    refine lv_aload_n hx hb d_Q_take_18 rfl (lv_at hl 0 rfl) ?_
    refine jkV (wr := []) (rnV (As := []) (rest := []) hx hb hml hown hE hK (hN _ _ hS) hP hD (v_Qadvance l D dA H.size h ad x hq (show x.qlen ≤ x.tpN from by omega) (show x.tpN ≤ 131072 from by omega) (show x.qen ≤ x.qlen from by omega)) (q0 := 36) rfl rfl w685 w684 w686 w687 w665 rfl rfl ⟨⟨by decide, by decide⟩, rfl⟩ ⟨(Nat.le_of_ble_eq_true rfl), (Nat.le_of_ble_eq_true rfl)⟩ rfl hl.1 rfl (Nat.le_of_ble_eq_true rfl) d_Q_take_19 ⟨(Nat.le_of_ble_eq_true rfl), (Nat.le_of_ble_eq_true rfl)⟩) hP hD hS hA (fun u3 H locs hp9 hP hD hS => ?_)
    obtain ⟨y4, h9u⟩ : ∃ z9, z9 = u3 := ⟨_, rfl⟩
    subst h9u
    have hP : va_P D vwCl (VW dA h ad y4) H := hP
    have hD : va_D A (VW dA h ad y4) := hD
    have f_e_5 := hp9
    refine lv_iconst (v := 1) hx hb d_Q_take_22 (by decide) ?_
    exact rfZ hx hb hr (bI_nar true) hlk hS y4 ⟨by rw [decide_eq_true g1]; rfl, by rw [if_pos g1]; exact f_e_5⟩ hP hD (Nat.le_of_ble_eq_true rfl) (Nat.le_of_ble_eq_true rfl) d_Q_take_23
  · have g1 := g1
    refine lv_aload_n hx hb d_Q_take_8 rfl (lv_at hl 0 rfl) ?_
    refine lv_iconst (v := 2) hx hb d_Q_take_9 (by decide) ?_
    refine lv_aload_n hx hb d_Q_take_10 rfl (lv_at hl 0 rfl) ?_
    refine gF (v := .int (nI x.qst)) hx hb hown hE hK hP 36 rfl rfl layQ 3 (by decide) w662 rfl d_Q_take_11 ?_
    refine jkI (wr := []) (rnV (As := [.int 2, .int (nI x.qst)]) (rest := []) hx hb hml hown hE hK (hN _ _ hS) hP hD (v_Qrefuse l D dA H.size h ad x 2 x.qst) (q0 := 36) rfl rfl w666 w664 w667 w668 w665 rfl rfl ⟨⟨by decide, by decide⟩, rfl⟩ ⟨(Nat.le_of_ble_eq_true rfl), (Nat.le_of_ble_eq_true rfl)⟩ rfl hl.1 rfl (Nat.le_of_ble_eq_true rfl) d_Q_take_14 ⟨(Nat.le_of_ble_eq_true rfl), (Nat.le_of_ble_eq_true rfl)⟩) hP hD hS hA (fun r6 u7 H locs hp9 hP hD hS => ?_)
    obtain ⟨y8, h9u⟩ : ∃ z9, z9 = u7 := ⟨_, rfl⟩
    subst h9u
    have hP : va_P D vwCl (VW dA h ad y8) H := hP
    have hD : va_D A (VW dA h ad y8) := hD
    obtain ⟨hp9, f_e_9⟩ := hp9
    replace hp9 : 0 = r6 := Eq.symm hp9
    subst hp9
    exact rfZ hx hb hr (bI_nar false) hlk hS y8 ⟨by rw [decide_eq_false g1]; rfl, by rw [if_neg g1]; exact f_e_9⟩ hP hD (Nat.le_of_ble_eq_true rfl) (Nat.le_of_ble_eq_true rfl) d_Q_take_17
