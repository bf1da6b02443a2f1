/-- what reading tokens wants -/
def MS.lx (x : MS) : Prop := x.length ≤ 65536 ∧ x.frm ≤ x.too ∧ x.too ≤ x.length ∧ x.faultCode = 0
/-- x with the token and the fault of y -/
def MS.tkS (x y : MS) : MS := MS.s_amount (MS.s_too (MS.s_frm (MS.s_kind (MS.s_faultPlace (MS.s_faultCode x y.faultCode) y.faultPlace) y.kind) y.frm) y.too) y.amount
/-- only the token and the fault differ -/
def MS.tk (x y : MS) : Prop := y = x.tkS y
theorem tk_rf (x : MS) : x.tk x := rfl
theorem tk_tr {x y z : MS} (h1 : x.tk y) (h2 : y.tk z) : x.tk z := h2.trans ((congrArg (fun w => MS.tkS w z) h1).trans rfl)
def MS.flS (x : MS) (k : Int32) (q : Nat) : MS := MS.s_faultPlace (MS.s_faultCode x k) (nI q)
theorem tk_fl (x : MS) (k : Int32) (q : Nat) : x.tk (x.flS k q) := rfl
theorem tk_nxD (x : MS) (d : Nat) : x.tk (x.nxD d).2 := by
  unfold MS.nxD
  repeat' split
  all_goals exact rfl
theorem tk_nx (x : MS) : x.tk x.nx.2 := tk_nxD x x.sk
theorem skG_ge {f : Nat → Int32} {len : Nat} : ∀ {w q : Nat}, q ≤ skG f len w q
  | 0, q => Nat.le_refl q
  | w + 1, q => by
    unfold skG
    split
    · exact Nat.le_refl q
    · split
      · have := skG_ge (f := f) (len := len) (w := w) (q := q + 1)
        omega
      · exact Nat.le_refl q
theorem numG_in {f : Nat → Int32} {len : Nat} : ∀ {w q : Nat} {g : Bool} {m : Int64}, q ≤ len → q ≤ (numG f len w q g m).1 ∧ (numG f len w q g m).1 ≤ len
  | 0, q, g, m, h => ⟨Nat.le_refl q, h⟩
  | w + 1, q, g, m, h => by
    unfold numG
    split
    · rename_i e
      have h1 := atI_lt e
      have := numG_in (f := f) (len := len) (w := w) (q := q + 1) (g := ngB g m (atI f len q - 48)) (m := ngA g m (atI f len q - 48)) (by omega)
      omega
    · exact ⟨Nat.le_refl q, h⟩
theorem txG_in {f : Nat → Int32} {len : Nat} : ∀ {w q : Nat}, q ≤ len → q ≤ txG f len w q ∧ txG f len w q ≤ len
  | 0, q, h => ⟨Nat.le_refl q, h⟩
  | w + 1, q, h => by
    unfold txG
    split
    · exact ⟨Nat.le_refl q, h⟩
    · split
      · have := txG_in (f := f) (len := len) (w := w) (q := q + 1) (by omega)
        omega
      · exact ⟨Nat.le_refl q, h⟩
/-- the token behind: it lies on the tape, behind the one before, and is not empty but at the end -/
theorem nx_in0 {x : MS} (h1 : x.length ≤ 65536) (h3 : x.too ≤ x.length) (h4 : x.faultCode = 0) (hn : x.nx.1 = true) : x.nx.2.lx ∧ x.too ≤ x.nx.2.frm ∧ (x.nx.2.kind = 0 ∨ x.nx.2.frm < x.nx.2.too) := by
  have hd : x.sk ≤ x.length := skG_le h3
  have hg : x.too ≤ x.sk := skG_ge
  unfold MS.nx at hn ⊢
  by_cases g0 : x.length ≤ x.sk
  · rw [nx_e g0]
    exact ⟨⟨h1, Nat.le_refl _, hd, h4⟩, hg, Or.inl rfl⟩
  cases c1 : isDg (x.atN x.sk) with
  | true =>
    obtain ⟨b, v, k, hv⟩ : ∃ b v k, x.nu x.sk = (b, v, k) := ⟨_, _, _, rfl⟩
    cases v with
    | true =>
      rw [nx_n g0 c1 hv]
      have z1 : x.nu x.sk = numG x.tape x.length (x.length + 1 - x.sk - 1) (x.sk + 1) (ngB true 0 (x.atN x.sk - 48)) (ngA true 0 (x.atN x.sk - 48)) := numG_t (by omega) c1
      have z2 := numG_in (f := x.tape) (len := x.length) (w := x.length + 1 - x.sk - 1) (q := x.sk + 1) (g := ngB true 0 (x.atN x.sk - 48)) (m := ngA true 0 (x.atN x.sk - 48)) (by omega)
      rw [← z1, hv] at z2
      have z3 : x.sk + 1 ≤ b := z2.1
      have z4 : b ≤ x.length := z2.2
      refine ⟨⟨h1, ?_, z4, h4⟩, hg, Or.inr z3⟩
      show x.sk ≤ b
      omega
    | false =>
      rw [nx_nx g0 c1 hv] at hn
      cases hn
  | false =>
    cases c2 : isLt (x.atN x.sk) with
    | true =>
      rw [nx_i g0 c1 c2]
      have z1 : x.idE x.sk = idG x.tape x.length (x.length + 1 - x.sk - 1) (x.sk + 1) := idG_t (by omega) (by show (isLt (x.atN x.sk) || _) = true; rw [c2]; rfl)
      have z2 : x.sk + 1 ≤ x.idE x.sk := by rw [z1]; exact idG_ge
      have z3 : x.idE x.sk ≤ x.length := idG_le hd
      refine ⟨⟨h1, ?_, z3, h4⟩, hg, Or.inr z2⟩
      show x.sk ≤ x.idE x.sk
      omega
    | false =>
      by_cases c3 : x.atN x.sk = 34
      · by_cases c4 : x.atN (x.tx x.sk) = 34
        · rw [nx_t g0 c1 c2 c3 c4]
          have z1 := txG_in (f := x.tape) (len := x.length) (w := x.length + 1 - (x.sk + 1)) (q := x.sk + 1) (by omega)
          have z2 : x.sk + 1 ≤ x.tx x.sk := z1.1
          have z3 : x.tx x.sk < x.length := atI_in c4 (by decide)
          refine ⟨⟨h1, ?_, z3, h4⟩, hg, Or.inr ?_⟩
          · show x.sk ≤ x.tx x.sk + 1
            omega
          · show x.sk < x.tx x.sk + 1
            omega
        · rw [nx_tx g0 c1 c2 c3 c4] at hn
          cases hn
      · by_cases c4 : x.tw x.sk = 0
        · cases c5 : sgOne (x.atN x.sk) with
          | true =>
            rw [nx_s1 g0 c1 c2 c3 c4 c5]
            refine ⟨⟨h1, Nat.le_succ _, Nat.lt_of_not_le g0, h4⟩, hg, Or.inr (Nat.lt_succ_self _)⟩
          | false =>
            rw [nx_sx g0 c1 c2 c3 c4 c5] at hn
            cases hn
        · rw [nx_s2 g0 c1 c2 c3 c4]
          have z1 : x.sk + 1 < x.length := by
            refine Nat.lt_of_not_le fun z => c4 ?_
            have e : x.atN (x.sk + 1) = 0 := if_pos z
            unfold MS.tw
            rw [e]
            unfold sgTwo
            rw [if_neg (fun z => absurd z.2 (by decide)), if_neg (fun z => absurd z.2 (by decide)), if_neg (fun z => absurd z.2 (by decide))]
          refine ⟨⟨h1, ?_, z1, h4⟩, hg, Or.inr ?_⟩
          · show x.sk ≤ x.sk + 2
            omega
          · show x.sk < x.sk + 2
            omega
theorem nx_in {x : MS} (h : x.lx) (hn : x.nx.1 = true) : x.nx.2.lx ∧ x.too ≤ x.nx.2.frm ∧ (x.nx.2.kind = 0 ∨ x.nx.2.frm < x.nx.2.too) := nx_in0 h.1 h.2.2.1 h.2.2.2 hn
def MS.ndF (x : MS) (k : Int32) : Bool × MS := if x.kind = k then x.nx else (false, x.flS 2 x.frm)
theorem tk_nd (x : MS) (k : Int32) : x.tk (x.ndF k).2 := by
  unfold MS.ndF
  split
  · exact tk_nx x
  · exact tk_fl x 2 x.frm
theorem nd_in {x : MS} {k : Int32} (h : x.lx) (hn : (x.ndF k).1 = true) : (x.ndF k).2.lx ∧ x.too ≤ (x.ndF k).2.frm ∧ ((x.ndF k).2.kind = 0 ∨ (x.ndF k).2.frm < (x.ndF k).2.too) ∧ x.kind = k := by
  unfold MS.ndF at hn ⊢
  split
  · rename_i g
    rw [if_pos g] at hn
    obtain ⟨a, b, c⟩ := nx_in h hn
    exact ⟨a, b, c, g⟩
  · rename_i g
    rw [if_neg g] at hn
    cases hn
/-- the byte at a place that may be below 0 -/
def MS.atZ (x : MS) (z : Int32) : Int32 := if z < 0 then 0 else x.atN (i2n z)
def MS.fnN (x : MS) : Nat := if x.kind = 2 then x.too - x.frm else 0
def MS.fn5 (x : MS) (a b : Int32) : Int32 := if x.stB 99 111 117 = true ∧ b = 110 ∧ a = 116 then 1 else if x.stB 108 101 97 = true ∧ b = 115 ∧ a = 116 then 2 else if x.stB 102 105 114 = true ∧ b = 115 ∧ a = 116 then 4 else -1
def MS.fn6 (x : MS) (a b : Int32) : Int32 := if x.stB 108 97 116 = true ∧ x.atN (x.frm + 3) = 101 ∧ b = 115 ∧ a = 116 then 5 else if x.stB 103 114 111 = true ∧ x.atN (x.frm + 3) = 119 ∧ b = 116 ∧ a = 104 then 6 else -1
/-- the number of the function that the token names, or -1 -/
def MS.fnI (x : MS) : Int32 :=
  if x.fnN = 3 then (if x.nmB 115 117 109 32 3 = true then 0 else -1) else if x.fnN = 4 then (if x.nmB 109 111 115 116 4 = true then 3 else -1) else if x.fnN = 5 then x.fn5 (x.atZ (nI x.too - 1)) (x.atZ (nI x.too - 2)) else if x.fnN = 6 then x.fn6 (x.atZ (nI x.too - 1)) (x.atZ (nI x.too - 2)) else -1
theorem d_M_need_0 : decode prog_14_method_60_code 0 = .ok (.aload_n 0, 1) := by decide +kernel
theorem d_M_need_1 : decode prog_14_method_60_code 1 = .ok (.getfield 351, 3) := by decide +kernel
theorem d_M_need_4 : decode prog_14_method_60_code 4 = .ok (.iload_n 1, 1) := by decide +kernel
theorem d_M_need_5 : decode prog_14_method_60_code 5 = .ok (.if_icmp .ne 10, 3) := by decide +kernel
theorem d_M_need_15 : decode prog_14_method_60_code 15 = .ok (.aload_n 0, 1) := by decide +kernel
theorem d_M_need_16 : decode prog_14_method_60_code 16 = .ok (.iconst 2, 1) := by decide +kernel
theorem d_M_need_17 : decode prog_14_method_60_code 17 = .ok (.aload_n 0, 1) := by decide +kernel
theorem d_M_need_18 : decode prog_14_method_60_code 18 = .ok (.getfield 345, 3) := by decide +kernel
theorem d_M_need_21 : decode prog_14_method_60_code 21 = .ok (.invokevirtual 224, 3) := by decide +kernel
theorem d_M_need_24 : decode prog_14_method_60_code 24 = .ok (.ireturn, 1) := by decide +kernel
theorem d_M_need_8 : decode prog_14_method_60_code 8 = .ok (.aload_n 0, 1) := by decide +kernel
theorem d_M_need_9 : decode prog_14_method_60_code 9 = .ok (.invokevirtual 373, 3) := by decide +kernel
theorem d_M_need_12 : decode prog_14_method_60_code 12 = .ok (.goto 12, 3) := by decide +kernel
set_option maxHeartbeats 4000000 in
set_option maxRecDepth 100000 in
theorem k_need (l : Launch) (D : va_G) (dA : Nat → ClassId) (sz : Nat) (h : Nat) (ad : Nat → Nat) (x : MS) (k : Int32) (hlx : x.lx) : Met l ⟨"SeriesVaultModel", "need", "(I)Z"⟩ [Cond.code ⟨"SeriesVaultModel", "need", "(I)Z"⟩ prog_14_method_60_code 2 (some FieldType.boolean)] { frames := 4, cells := 0, slots := 0, locals := 67 } (pC D dA [.ref h, .int k] (MW dA h ad x) sz) (va_Qi (fun (r9 : Int32) (u9 : MS) => r9 = bI (x.ndF k).1 ∧ u9 = (x.ndF k).2) (fun (u9 : MS) t9 => bW D (va_A (MW dA h ad x) sz) (MW dA h ad u9) t9) (va_A (MW dA h ad x) sz)) 0 0 (va_A (MW dA h ad x) sz) := by
  refine mkC (y := ⟨"SeriesVaultModel", "need", "(I)Z"⟩) (cc := prog_14_method_60_code) (maxL := 2) (av := [.ref h, .int k]) (ws := MW dA h ad x) (sz := sz) (Qc := fun A => va_Qi (fun (r9 : Int32) (u9 : MS) => r9 = bI (x.ndF k).1 ∧ u9 = (x.ndF k).2) (fun (u9 : MS) t9 => bW D A (MW dA h ad u9) t9) A) (by decide) (Nat.le_of_ble_eq_true rfl) ?_
  intro A p e s m below meth c ls hsz hB
  obtain ⟨hx, hb, hr, hml, hown, hin, hlk, hE, hK, hP, hD, hS, hA, hN, hl⟩ := hB
  have hown : s.vm.findClass "SeriesVaultModel" = some m.cls := hown
  have hl : lv_has ls 2 [(0, .ref h), (1, .int k)] := hl
  obtain ⟨H, hH⟩ : ∃ z, z = s.heap := ⟨_, rfl⟩
  have hP : va_P D vwCl (MW dA h ad x) H := by rw [hH]; exact hP
  have hS : va_S A s.heap H [] := by rw [hH]; exact hS
  rw [← hH]
  obtain ⟨hl1, hft, htl, hf0⟩ := hlx
  refine lv_aload_n hx hb d_M_need_0 rfl (lv_at hl 0 rfl) ?_
  refine gF (v := .int x.kind) hx hb hown hE hK hP 0 rfl rfl layM 44 (by decide) w469 rfl d_M_need_1 ?_
  refine lv_iload_n hx hb d_M_need_4 rfl (lv_at hl 1 rfl) ?_
  refine lv_icmp_ne hx hb d_M_need_5 (tgt := 15) rfl (fun g1 => ?_) (fun g1 => ?_)
  · have g1 := g1
    refine lv_aload_n hx hb d_M_need_15 rfl (lv_at hl 0 rfl) ?_
    refine lv_iconst (v := 2) hx hb d_M_need_16 (by decide) ?_
    refine lv_aload_n hx hb d_M_need_17 rfl (lv_at hl 0 rfl) ?_
    refine gF (v := .int (nI x.frm)) hx hb hown hE hK hP 0 rfl rfl layM 45 (by decide) w464 rfl d_M_need_18 ?_
    refine jfI (rnV (As := [.int 2, .int (nI x.frm)]) (rest := []) hx hb hml hown hE hK (hN _ _ hS) hP hD (k_flaw_0 l D dA H.size h ad x 2 (nI x.frm) hf0) (q0 := 0) rfl rfl w431 w430 w432 w433 w328 rfl rfl ⟨⟨by decide, by decide⟩, rfl⟩ ⟨(Nat.le_of_ble_eq_true rfl), (Nat.le_of_ble_eq_true rfl)⟩ rfl hl.1 rfl (Nat.le_of_ble_eq_true rfl) d_M_need_21 ⟨(Nat.le_of_ble_eq_true rfl), (Nat.le_of_ble_eq_true rfl)⟩) hP hD hS hA (fun r2 u3 H locs hp9 hP hD hS => ?_)
    have hP : va_P D vwCl (MW dA h ad (MS.s_faultPlace (MS.s_faultCode x 2) (nI x.frm))) H := hP
    have hD : va_D A (MW dA h ad (MS.s_faultPlace (MS.s_faultCode x 2) (nI x.frm))) := hD
    replace hp9 : bI false = r2 := Eq.symm hp9
    subst hp9
    exact rfZ hx hb hr (bI_nar false) hlk hS (MS.s_faultPlace (MS.s_faultCode x 2) (nI x.frm)) (by have e9 : x.ndF k = (false, x.flS 2 x.frm) := if_neg g1; rw [e9]; exact ⟨rfl, rfl⟩) hP hD (Nat.le_of_ble_eq_true rfl) (Nat.le_of_ble_eq_true rfl) d_M_need_24
  · have g1 := g1
    refine lv_aload_n hx hb d_M_need_8 rfl (lv_at hl 0 rfl) ?_
    refine jfI (rnV (As := []) (rest := []) hx hb hml hown hE hK (hN _ _ hS) hP hD (k_next l D dA H.size h ad x hl1 htl hf0) (q0 := 0) rfl rfl w480 w479 w481 w482 w328 rfl rfl ⟨⟨by decide, by decide⟩, rfl⟩ ⟨(Nat.le_of_ble_eq_true rfl), (Nat.le_of_ble_eq_true rfl)⟩ rfl hl.1 rfl (Nat.le_of_ble_eq_true rfl) d_M_need_9 ⟨(Nat.le_of_ble_eq_true rfl), (Nat.le_of_ble_eq_true rfl)⟩) hP hD hS hA (fun r4 u5 H locs hp9 hP hD hS => ?_)
    obtain ⟨y6, h9u⟩ : ∃ z9, z9 = u5 := ⟨_, rfl⟩
    subst h9u
    have hP : va_P D vwCl (MW dA h ad y6) H := hP
    have hD : va_D A (MW dA h ad y6) := hD
    obtain ⟨hp9, f_e_7⟩ := hp9
    replace hp9 : bI (x.nx).1 = r4 := Eq.symm hp9
    subst hp9
    refine lv_goto hx hb d_M_need_12 (tgt := 24) rfl ?_
    exact rfZ hx hb hr (bI_nar ((x.nx).1)) hlk hS y6 (by have e9 : x.ndF k = x.nx := if_pos g1; rw [e9]; exact ⟨rfl, f_e_7⟩) hP hD (Nat.le_of_ble_eq_true rfl) (Nat.le_of_ble_eq_true rfl) d_M_need_24
set_option maxHeartbeats 4000000 in
set_option maxRecDepth 100000 in
theorem k_at_z (l : Launch) (D : va_G) (dA : Nat → ClassId) (sz : Nat) (h : Nat) (ad : Nat → Nat) (x : MS) (z : Int32) (hl1 : x.length ≤ 65536) : Met l ⟨"SeriesVaultModel", "at", "(I)I"⟩ [Cond.code ⟨"SeriesVaultModel", "at", "(I)I"⟩ prog_14_method_56_code 2 (some FieldType.int)] { frames := 1, cells := 0, slots := 0, locals := 0 } (pC D dA [.ref h, .int z] (MW dA h ad x) sz) (va_Qi (fun (r9 : Int32) (u9 : Unit) => r9 = x.atZ z) (fun (u9 : Unit) t9 => bW D (va_A (MW dA h ad x) sz) (MW dA h ad x) t9) (va_A (MW dA h ad x) sz)) 0 0 (va_A (MW dA h ad x) sz) := by
  by_cases g : z < 0
  · exact metI (k_at_x l D dA sz h ad x z g) (fun r9 u9 hu => ⟨u9, hu.trans (if_pos g).symm, rfl⟩)
  · have g2 := i2n_nI (Int32.not_lt.mp g)
    have g3 : i2n z < 2 ^ 31 := by
      have := Int32.toInt_lt z
      unfold i2n
      omega
    have g4 : x.atZ z = x.atN (i2n z) := if_neg g
    have g5 := k_at l D dA sz h ad x (i2n z) g3 hl1
    rw [← g2] at g5
    exact metI g5 (fun r9 u9 hu => ⟨u9, hu.trans g4.symm, rfl⟩)
theorem d_M_function_210 : decode prog_14_method_62_code 210 = .ok (.aload_n 0, 1) := by decide +kernel
theorem d_M_function_211 : decode prog_14_method_62_code 211 = .ok (.bipush 108, 2) := by decide +kernel
theorem d_M_function_213 : decode prog_14_method_62_code 213 = .ok (.bipush 97, 2) := by decide +kernel
theorem d_M_function_215 : decode prog_14_method_62_code 215 = .ok (.bipush 116, 2) := by decide +kernel
theorem d_M_function_217 : decode prog_14_method_62_code 217 = .ok (.invokevirtual 380, 3) := by decide +kernel
theorem d_M_function_220 : decode prog_14_method_62_code 220 = .ok (.ifCond .eq 33, 3) := by decide +kernel
theorem d_M_function_253 : decode prog_14_method_62_code 253 = .ok (.aload_n 0, 1) := by decide +kernel
theorem d_M_function_254 : decode prog_14_method_62_code 254 = .ok (.bipush 103, 2) := by decide +kernel
theorem d_M_function_256 : decode prog_14_method_62_code 256 = .ok (.bipush 114, 2) := by decide +kernel
theorem d_M_function_258 : decode prog_14_method_62_code 258 = .ok (.bipush 111, 2) := by decide +kernel
theorem d_M_function_260 : decode prog_14_method_62_code 260 = .ok (.invokevirtual 380, 3) := by decide +kernel
theorem d_M_function_263 : decode prog_14_method_62_code 263 = .ok (.ifCond .eq 35, 3) := by decide +kernel
theorem d_M_function_298 : decode prog_14_method_62_code 298 = .ok (.iconst (-1), 1) := by decide +kernel
theorem d_M_function_299 : decode prog_14_method_62_code 299 = .ok (.ireturn, 1) := by decide +kernel
theorem d_M_function_266 : decode prog_14_method_62_code 266 = .ok (.aload_n 0, 1) := by decide +kernel
theorem d_M_function_267 : decode prog_14_method_62_code 267 = .ok (.aload_n 0, 1) := by decide +kernel
theorem d_M_function_268 : decode prog_14_method_62_code 268 = .ok (.getfield 345, 3) := by decide +kernel
theorem d_M_function_271 : decode prog_14_method_62_code 271 = .ok (.iconst 3, 1) := by decide +kernel
theorem d_M_function_272 : decode prog_14_method_62_code 272 = .ok (.iadd, 1) := by decide +kernel
theorem d_M_function_273 : decode prog_14_method_62_code 273 = .ok (.invokevirtual 348, 3) := by decide +kernel
theorem d_M_function_276 : decode prog_14_method_62_code 276 = .ok (.bipush 119, 2) := by decide +kernel
theorem d_M_function_278 : decode prog_14_method_62_code 278 = .ok (.if_icmp .ne 20, 3) := by decide +kernel
theorem d_M_function_281 : decode prog_14_method_62_code 281 = .ok (.iload_n 3, 1) := by decide +kernel
theorem d_M_function_282 : decode prog_14_method_62_code 282 = .ok (.bipush 116, 2) := by decide +kernel
theorem d_M_function_284 : decode prog_14_method_62_code 284 = .ok (.if_icmp .ne 14, 3) := by decide +kernel
theorem d_M_function_287 : decode prog_14_method_62_code 287 = .ok (.iload_n 2, 1) := by decide +kernel
theorem d_M_function_288 : decode prog_14_method_62_code 288 = .ok (.bipush 104, 2) := by decide +kernel
theorem d_M_function_290 : decode prog_14_method_62_code 290 = .ok (.if_icmp .ne 8, 3) := by decide +kernel
theorem d_M_function_293 : decode prog_14_method_62_code 293 = .ok (.bipush 6, 2) := by decide +kernel
theorem d_M_function_295 : decode prog_14_method_62_code 295 = .ok (.goto 4, 3) := by decide +kernel
theorem d_M_function_223 : decode prog_14_method_62_code 223 = .ok (.aload_n 0, 1) := by decide +kernel
theorem d_M_function_224 : decode prog_14_method_62_code 224 = .ok (.aload_n 0, 1) := by decide +kernel
theorem d_M_function_225 : decode prog_14_method_62_code 225 = .ok (.getfield 345, 3) := by decide +kernel
theorem d_M_function_228 : decode prog_14_method_62_code 228 = .ok (.iconst 3, 1) := by decide +kernel
theorem d_M_function_229 : decode prog_14_method_62_code 229 = .ok (.iadd, 1) := by decide +kernel
theorem d_M_function_230 : decode prog_14_method_62_code 230 = .ok (.invokevirtual 348, 3) := by decide +kernel
theorem d_M_function_233 : decode prog_14_method_62_code 233 = .ok (.bipush 101, 2) := by decide +kernel
theorem d_M_function_235 : decode prog_14_method_62_code 235 = .ok (.if_icmp .ne 18, 3) := by decide +kernel
theorem d_M_function_238 : decode prog_14_method_62_code 238 = .ok (.iload_n 3, 1) := by decide +kernel
theorem d_M_function_239 : decode prog_14_method_62_code 239 = .ok (.bipush 115, 2) := by decide +kernel
theorem d_M_function_241 : decode prog_14_method_62_code 241 = .ok (.if_icmp .ne 12, 3) := by decide +kernel
theorem d_M_function_244 : decode prog_14_method_62_code 244 = .ok (.iload 4, 2) := by decide +kernel
theorem d_M_function_246 : decode prog_14_method_62_code 246 = .ok (.ifCond .eq 7, 3) := by decide +kernel
theorem d_M_function_249 : decode prog_14_method_62_code 249 = .ok (.iconst 5, 1) := by decide +kernel
theorem d_M_function_250 : decode prog_14_method_62_code 250 = .ok (.goto 49, 3) := by decide +kernel
theorem d_M_function_116 : decode prog_14_method_62_code 116 = .ok (.aload_n 0, 1) := by decide +kernel
theorem d_M_function_117 : decode prog_14_method_62_code 117 = .ok (.bipush 99, 2) := by decide +kernel
theorem d_M_function_119 : decode prog_14_method_62_code 119 = .ok (.bipush 111, 2) := by decide +kernel
theorem d_M_function_121 : decode prog_14_method_62_code 121 = .ok (.bipush 117, 2) := by decide +kernel
theorem d_M_function_123 : decode prog_14_method_62_code 123 = .ok (.invokevirtual 380, 3) := by decide +kernel
theorem d_M_function_126 : decode prog_14_method_62_code 126 = .ok (.ifCond .eq 18, 3) := by decide +kernel
theorem d_M_function_144 : decode prog_14_method_62_code 144 = .ok (.aload_n 0, 1) := by decide +kernel
theorem d_M_function_145 : decode prog_14_method_62_code 145 = .ok (.bipush 108, 2) := by decide +kernel
theorem d_M_function_147 : decode prog_14_method_62_code 147 = .ok (.bipush 101, 2) := by decide +kernel
theorem d_M_function_149 : decode prog_14_method_62_code 149 = .ok (.bipush 97, 2) := by decide +kernel
theorem d_M_function_151 : decode prog_14_method_62_code 151 = .ok (.invokevirtual 380, 3) := by decide +kernel
theorem d_M_function_154 : decode prog_14_method_62_code 154 = .ok (.ifCond .eq 18, 3) := by decide +kernel
theorem d_M_function_172 : decode prog_14_method_62_code 172 = .ok (.aload_n 0, 1) := by decide +kernel
theorem d_M_function_173 : decode prog_14_method_62_code 173 = .ok (.bipush 102, 2) := by decide +kernel
theorem d_M_function_175 : decode prog_14_method_62_code 175 = .ok (.bipush 105, 2) := by decide +kernel
theorem d_M_function_177 : decode prog_14_method_62_code 177 = .ok (.bipush 114, 2) := by decide +kernel
theorem d_M_function_179 : decode prog_14_method_62_code 179 = .ok (.invokevirtual 380, 3) := by decide +kernel
theorem d_M_function_182 : decode prog_14_method_62_code 182 = .ok (.ifCond .eq 18, 3) := by decide +kernel
theorem d_M_function_200 : decode prog_14_method_62_code 200 = .ok (.iconst (-1), 1) := by decide +kernel
theorem d_M_function_201 : decode prog_14_method_62_code 201 = .ok (.ireturn, 1) := by decide +kernel
theorem d_M_function_185 : decode prog_14_method_62_code 185 = .ok (.iload_n 3, 1) := by decide +kernel
theorem d_M_function_186 : decode prog_14_method_62_code 186 = .ok (.bipush 115, 2) := by decide +kernel
theorem d_M_function_188 : decode prog_14_method_62_code 188 = .ok (.if_icmp .ne 12, 3) := by decide +kernel
theorem d_M_function_191 : decode prog_14_method_62_code 191 = .ok (.iload 4, 2) := by decide +kernel
theorem d_M_function_193 : decode prog_14_method_62_code 193 = .ok (.ifCond .eq 7, 3) := by decide +kernel
theorem d_M_function_196 : decode prog_14_method_62_code 196 = .ok (.iconst 4, 1) := by decide +kernel
theorem d_M_function_197 : decode prog_14_method_62_code 197 = .ok (.goto 4, 3) := by decide +kernel
theorem d_M_function_157 : decode prog_14_method_62_code 157 = .ok (.iload_n 3, 1) := by decide +kernel
theorem d_M_function_158 : decode prog_14_method_62_code 158 = .ok (.bipush 115, 2) := by decide +kernel
theorem d_M_function_160 : decode prog_14_method_62_code 160 = .ok (.if_icmp .ne 12, 3) := by decide +kernel
theorem d_M_function_163 : decode prog_14_method_62_code 163 = .ok (.iload 4, 2) := by decide +kernel
theorem d_M_function_165 : decode prog_14_method_62_code 165 = .ok (.ifCond .eq 7, 3) := by decide +kernel
theorem d_M_function_168 : decode prog_14_method_62_code 168 = .ok (.iconst 2, 1) := by decide +kernel
theorem d_M_function_169 : decode prog_14_method_62_code 169 = .ok (.goto 32, 3) := by decide +kernel
theorem d_M_function_129 : decode prog_14_method_62_code 129 = .ok (.iload_n 3, 1) := by decide +kernel
theorem d_M_function_130 : decode prog_14_method_62_code 130 = .ok (.bipush 110, 2) := by decide +kernel
theorem d_M_function_132 : decode prog_14_method_62_code 132 = .ok (.if_icmp .ne 12, 3) := by decide +kernel
theorem d_M_function_135 : decode prog_14_method_62_code 135 = .ok (.iload 4, 2) := by decide +kernel
theorem d_M_function_137 : decode prog_14_method_62_code 137 = .ok (.ifCond .eq 7, 3) := by decide +kernel
theorem d_M_function_140 : decode prog_14_method_62_code 140 = .ok (.iconst 1, 1) := by decide +kernel
theorem d_M_function_141 : decode prog_14_method_62_code 141 = .ok (.goto 60, 3) := by decide +kernel
theorem d_M_function_104 : decode prog_14_method_62_code 104 = .ok (.iconst 1, 1) := by decide +kernel
theorem d_M_function_105 : decode prog_14_method_62_code 105 = .ok (.goto 4, 3) := by decide +kernel
theorem d_M_function_54 : decode prog_14_method_62_code 54 = .ok (.aload_n 0, 1) := by decide +kernel
theorem d_M_function_55 : decode prog_14_method_62_code 55 = .ok (.bipush 109, 2) := by decide +kernel
theorem d_M_function_57 : decode prog_14_method_62_code 57 = .ok (.bipush 111, 2) := by decide +kernel
theorem d_M_function_59 : decode prog_14_method_62_code 59 = .ok (.bipush 115, 2) := by decide +kernel
theorem d_M_function_61 : decode prog_14_method_62_code 61 = .ok (.bipush 116, 2) := by decide +kernel
theorem d_M_function_63 : decode prog_14_method_62_code 63 = .ok (.iconst 4, 1) := by decide +kernel
theorem d_M_function_64 : decode prog_14_method_62_code 64 = .ok (.invokevirtual 376, 3) := by decide +kernel
theorem d_M_function_67 : decode prog_14_method_62_code 67 = .ok (.ifCond .eq 7, 3) := by decide +kernel
theorem d_M_function_74 : decode prog_14_method_62_code 74 = .ok (.iconst (-1), 1) := by decide +kernel
theorem d_M_function_75 : decode prog_14_method_62_code 75 = .ok (.ireturn, 1) := by decide +kernel
theorem d_M_function_70 : decode prog_14_method_62_code 70 = .ok (.iconst 3, 1) := by decide +kernel
theorem d_M_function_71 : decode prog_14_method_62_code 71 = .ok (.goto 4, 3) := by decide +kernel
theorem d_M_function_27 : decode prog_14_method_62_code 27 = .ok (.aload_n 0, 1) := by decide +kernel
theorem d_M_function_28 : decode prog_14_method_62_code 28 = .ok (.bipush 115, 2) := by decide +kernel
theorem d_M_function_30 : decode prog_14_method_62_code 30 = .ok (.bipush 117, 2) := by decide +kernel
theorem d_M_function_32 : decode prog_14_method_62_code 32 = .ok (.bipush 109, 2) := by decide +kernel
theorem d_M_function_34 : decode prog_14_method_62_code 34 = .ok (.bipush 32, 2) := by decide +kernel
theorem d_M_function_36 : decode prog_14_method_62_code 36 = .ok (.iconst 3, 1) := by decide +kernel
theorem d_M_function_37 : decode prog_14_method_62_code 37 = .ok (.invokevirtual 376, 3) := by decide +kernel
theorem d_M_function_40 : decode prog_14_method_62_code 40 = .ok (.ifCond .eq 7, 3) := by decide +kernel
theorem d_M_function_47 : decode prog_14_method_62_code 47 = .ok (.iconst (-1), 1) := by decide +kernel
theorem d_M_function_48 : decode prog_14_method_62_code 48 = .ok (.ireturn, 1) := by decide +kernel
theorem d_M_function_43 : decode prog_14_method_62_code 43 = .ok (.iconst 0, 1) := by decide +kernel
theorem d_M_function_44 : decode prog_14_method_62_code 44 = .ok (.goto 4, 3) := by decide +kernel
theorem d_M_function_8 : decode prog_14_method_62_code 8 = .ok (.aload_n 0, 1) := by decide +kernel
theorem d_M_function_9 : decode prog_14_method_62_code 9 = .ok (.getfield 342, 3) := by decide +kernel
theorem d_M_function_12 : decode prog_14_method_62_code 12 = .ok (.aload_n 0, 1) := by decide +kernel
theorem d_M_function_13 : decode prog_14_method_62_code 13 = .ok (.getfield 345, 3) := by decide +kernel
theorem d_M_function_16 : decode prog_14_method_62_code 16 = .ok (.isub, 1) := by decide +kernel
theorem d_M_function_17 : decode prog_14_method_62_code 17 = .ok (.goto 4, 3) := by decide +kernel
theorem w1014 : Cond.methodLink "SeriesVaultModel" 380 ⟨"SeriesVaultModel", "isStart", "(CCC)Z"⟩ ∈ aW := aw_of (tb_10 (List.mem_of_getElem? (i := 197) rfl)) rfl
theorem w1015 : Cond.code ⟨"SeriesVaultModel", "isStart", "(CCC)Z"⟩ prog_14_method_63_code 4 (some FieldType.boolean) ∈ aW := aw_of (tb_10 (List.mem_of_getElem? (i := 200) rfl)) rfl
theorem w1016 : Cond.instanceMethod ⟨"SeriesVaultModel", "isStart", "(CCC)Z"⟩ ∈ aW := aw_of (tb_10 (List.mem_of_getElem? (i := 199) rfl)) rfl
theorem w1017 : Cond.selects "SeriesVaultModel" ⟨"SeriesVaultModel", "isStart", "(CCC)Z"⟩ ⟨"SeriesVaultModel", "isStart", "(CCC)Z"⟩ ∈ aW := aw_pr (List.mem_map.mpr ⟨_, pv_7 (List.mem_of_getElem? (i := 7) rfl), rfl⟩) rfl
theorem w1018 : Cond.methodLink "SeriesVaultModel" 376 ⟨"SeriesVaultModel", "isName", "(CCCCI)Z"⟩ ∈ aW := aw_of (tb_10 (List.mem_of_getElem? (i := 193) rfl)) rfl
theorem w1019 : Cond.code ⟨"SeriesVaultModel", "isName", "(CCCCI)Z"⟩ prog_14_method_61_code 6 (some FieldType.boolean) ∈ aW := aw_of (tb_10 (List.mem_of_getElem? (i := 196) rfl)) rfl
theorem w1020 : Cond.instanceMethod ⟨"SeriesVaultModel", "isName", "(CCCCI)Z"⟩ ∈ aW := aw_of (tb_10 (List.mem_of_getElem? (i := 195) rfl)) rfl
theorem w1021 : Cond.selects "SeriesVaultModel" ⟨"SeriesVaultModel", "isName", "(CCCCI)Z"⟩ ⟨"SeriesVaultModel", "isName", "(CCCCI)Z"⟩ ∈ aW := aw_pr (List.mem_map.mpr ⟨_, pv_7 (List.mem_of_getElem? (i := 6) rfl), rfl⟩) rfl
set_option maxHeartbeats 4000000 in
set_option maxRecDepth 100000 in
theorem k_function (l : Launch) (D : va_G) (dA : Nat → ClassId) (sz : Nat) (h : Nat) (ad : Nat → Nat) (x : MS) (hlx : x.lx) : Met l ⟨"SeriesVaultModel", "function", "()I"⟩ [Cond.code ⟨"SeriesVaultModel", "function", "()I"⟩ prog_14_method_62_code 5 (some FieldType.int)] { frames := 3, cells := 0, slots := 0, locals := 46 } (pC D dA [.ref h] (MW dA h ad x) sz) (va_Qi (fun (r9 : Int32) (u9 : Unit) => r9 = x.fnI) (fun (u9 : Unit) t9 => bW D (va_A (MW dA h ad x) sz) (MW dA h ad x) t9) (va_A (MW dA h ad x) sz)) 0 0 (va_A (MW dA h ad x) sz) := by
  refine mkC (y := ⟨"SeriesVaultModel", "function", "()I"⟩) (cc := prog_14_method_62_code) (maxL := 5) (av := [.ref h]) (ws := MW dA h ad x) (sz := sz) (Qc := fun A => va_Qi (fun (r9 : Int32) (u9 : Unit) => r9 = x.fnI) (fun (u9 : Unit) t9 => bW D A (MW dA h ad x) t9) A) (by decide) (Nat.le_of_ble_eq_true rfl) ?_
  intro A p e s m below meth c ls hsz hB
  obtain ⟨hx, hb, hr, hml, hown, hin, hlk, hE, hK, hP, hD, hS, hA, hN, hl⟩ := hB
  have hown : s.vm.findClass "SeriesVaultModel" = some m.cls := hown
  have hl : lv_has ls 5 [(0, .ref h)] := hl
  obtain ⟨H, hH⟩ : ∃ z, z = s.heap := ⟨_, rfl⟩
  have hP : va_P D vwCl (MW dA h ad x) H := by rw [hH]; exact hP
  have hS : va_S A s.heap H [] := by rw [hH]; exact hS
  rw [← hH]
  obtain ⟨hl1, hft, htl, hf0⟩ := hlx
  have J21 : ∀ (n : Nat) (n1 : x.fnN = n) (n2 : n ≤ 65536), ∀ (H : Heap) (locs : List Loc) (ls : Array Slot) (hP : va_P D vwCl (MW dA h ad x) H) (hD : va_D A (MW dA h ad x)) (hS : va_S A s.heap H locs) (hl : lv_has ls 5 [(0, .ref h)]), W p l e ({ frames := 3, cells := 0, slots := 0, locals := 46 } : Room) s m ([.ref h] : List Value).toArray below meth c H locs 0 0 (MQ below (va_Qi (fun (r9 : Int32) (u9 : Unit) => r9 = x.fnI) (fun (u9 : Unit) t9 => bW D A (MW dA h ad x) t9) A) ([.ref h] : List Value).toArray s 0 0 A) (F0 m 21 ls [.int (nI n)]) := by
    intro n n1 n2 H locs ls hP hD hS hl
    refine lv_istore_n hx hb d_M_function_21 rfl hl (by decide) rfl (fun ls hl => ?_)
    have hl : lv_has ls 5 [(1, .int (nI n)), (0, .ref h)] := hl
    refine lv_iload_n hx hb d_M_function_22 rfl (lv_at hl 0 rfl) ?_
    refine lv_iconst (v := 3) hx hb d_M_function_23 (by decide) ?_
    refine lv_icmp_ne hx hb d_M_function_24 (tgt := 49) rfl (fun g1 => ?_) (fun g1 => ?_)
    · have g1 := mt (nI_eq (a := n) (b := 3) (by omega) (by omega)).mpr g1
      refine lv_iload_n hx hb d_M_function_49 rfl (lv_at hl 0 rfl) ?_
      refine lv_iconst (v := 4) hx hb d_M_function_50 (by decide) ?_
      refine lv_icmp_ne hx hb d_M_function_51 (tgt := 76) rfl (fun g2 => ?_) (fun g2 => ?_)
      · have g2 := mt (nI_eq (a := n) (b := 4) (by omega) (by omega)).mpr g2
        refine lv_aload_n hx hb d_M_function_76 rfl (lv_at hl 1 rfl) ?_
        refine lv_aload_n hx hb d_M_function_77 rfl (lv_at hl 1 rfl) ?_
        refine gF (v := .int (nI x.too)) hx hb hown hE hK hP 0 rfl rfl layM 46 (by decide) w463 rfl d_M_function_78 ?_
        refine lv_iconst (v := 1) hx hb d_M_function_81 (by decide) ?_
        refine lv_isub hx hb d_M_function_82 ?_
        refine jfI (rnV (As := [.int ((nI x.too) - 1)]) (rest := []) hx hb hml hown hE hK (hN _ _ hS) hP hD (k_at_z l D dA H.size h ad x ((nI x.too) - 1) (show x.length ≤ 65536 from by omega)) (q0 := 0) rfl rfl w466 w465 w467 w468 w328 rfl rfl ⟨⟨by decide, by decide⟩, rfl⟩ ⟨(Nat.le_of_ble_eq_true rfl), (Nat.le_of_ble_eq_true rfl)⟩ rfl hl.1 rfl (Nat.le_of_ble_eq_true rfl) d_M_function_83 ⟨(Nat.le_of_ble_eq_true rfl), (Nat.le_of_ble_eq_true rfl)⟩) hP hD hS hA (fun r3 u4 H locs hp9 hP hD hS => ?_)
        have hP : va_P D vwCl (MW dA h ad x) H := hP
        have hD : va_D A (MW dA h ad x) := hD
        replace hp9 : x.atZ ((nI x.too) - 1) = r3 := Eq.symm hp9
        subst hp9
        refine lv_istore_n hx hb d_M_function_86 rfl hl (by decide) rfl (fun ls hl => ?_)
        have hl : lv_has ls 5 [(2, .int (x.atZ ((nI x.too) - 1))), (1, .int (nI n)), (0, .ref h)] := hl
        refine lv_aload_n hx hb d_M_function_87 rfl (lv_at hl 2 rfl) ?_
        refine lv_aload_n hx hb d_M_function_88 rfl (lv_at hl 2 rfl) ?_
        refine gF (v := .int (nI x.too)) hx hb hown hE hK hP 0 rfl rfl layM 46 (by decide) w463 rfl d_M_function_89 ?_
        refine lv_iconst (v := 2) hx hb d_M_function_92 (by decide) ?_
        refine lv_isub hx hb d_M_function_93 ?_
        refine jfI (rnV (As := [.int ((nI x.too) - 2)]) (rest := []) hx hb hml hown hE hK (hN _ _ hS) hP hD (k_at_z l D dA H.size h ad x ((nI x.too) - 2) (show x.length ≤ 65536 from by omega)) (q0 := 0) rfl rfl w466 w465 w467 w468 w328 rfl rfl ⟨⟨by decide, by decide⟩, rfl⟩ ⟨(Nat.le_of_ble_eq_true rfl), (Nat.le_of_ble_eq_true rfl)⟩ rfl hl.1 rfl (Nat.le_of_ble_eq_true rfl) d_M_function_94 ⟨(Nat.le_of_ble_eq_true rfl), (Nat.le_of_ble_eq_true rfl)⟩) hP hD hS hA (fun r5 u6 H locs hp9 hP hD hS => ?_)
        have hP : va_P D vwCl (MW dA h ad x) H := hP
        have hD : va_D A (MW dA h ad x) := hD
        replace hp9 : x.atZ ((nI x.too) - 2) = r5 := Eq.symm hp9
        subst hp9
        refine lv_istore_n hx hb d_M_function_97 rfl hl (by decide) rfl (fun ls hl => ?_)
        have hl : lv_has ls 5 [(3, .int (x.atZ ((nI x.too) - 2))), (2, .int (x.atZ ((nI x.too) - 1))), (1, .int (nI n)), (0, .ref h)] := hl
        have J109 : ∀ (t7 : Bool) (t1 : decide (x.atZ ((nI x.too) - 1) = 116) = t7), ∀ (H : Heap) (locs : List Loc) (ls : Array Slot) (hP : va_P D vwCl (MW dA h ad x) H) (hD : va_D A (MW dA h ad x)) (hS : va_S A s.heap H locs) (hl : lv_has ls 5 [(0, .ref h), (1, .int (nI n)), (2, .int (x.atZ ((nI x.too) - 1))), (3, .int (x.atZ ((nI x.too) - 2)))]), W p l e ({ frames := 3, cells := 0, slots := 0, locals := 46 } : Room) s m ([.ref h] : List Value).toArray below meth c H locs 0 0 (MQ below (va_Qi (fun (r9 : Int32) (u9 : Unit) => r9 = x.fnI) (fun (u9 : Unit) t9 => bW D A (MW dA h ad x) t9) A) ([.ref h] : List Value).toArray s 0 0 A) (F0 m 109 ls [.int (bI t7)]) := by
          intro t7 t1 H locs ls hP hD hS hl
          refine lv_istore hx hb d_M_function_109 hl (by decide) rfl (fun ls hl => ?_)
          have hl : lv_has ls 5 [(4, .int (bI t7)), (0, .ref h), (1, .int (nI n)), (2, .int (x.atZ ((nI x.too) - 1))), (3, .int (x.atZ ((nI x.too) - 2)))] := hl
          refine lv_iload_n hx hb d_M_function_111 rfl (lv_at hl 2 rfl) ?_
          refine lv_iconst (v := 5) hx hb d_M_function_112 (by decide) ?_
          refine lv_icmp_ne hx hb d_M_function_113 (tgt := 202) rfl (fun g7 => ?_) (fun g7 => ?_)
          · have g7 := mt (nI_eq (a := n) (b := 5) (by omega) (by omega)).mpr g7
            refine lv_iload_n hx hb d_M_function_202 rfl (lv_at hl 2 rfl) ?_
            refine lv_bipush (v := 6) hx hb d_M_function_203 (by decide) ?_
            refine lv_icmp_eq hx hb d_M_function_205 (tgt := 210) rfl (fun g8 => ?_) (fun g8 => ?_)
            · have g8 := (nI_eq (a := n) (b := 6) (by omega) (by omega)).mp g8
              refine lv_aload_n hx hb d_M_function_210 rfl (lv_at hl 1 rfl) ?_
              refine lv_bipush (v := 108) hx hb d_M_function_211 (by decide) ?_
              refine lv_bipush (v := 97) hx hb d_M_function_213 (by decide) ?_
              refine lv_bipush (v := 116) hx hb d_M_function_215 (by decide) ?_
              refine jfI (rnV (As := [.int 108, .int 97, .int 116]) (rest := []) hx hb hml hown hE hK (hN _ _ hS) hP hD (k_isStart l D dA H.size h ad x 108 97 116 (show x.length ≤ 65536 from by omega) (show x.frm ≤ x.too from by omega) (show x.too ≤ 65537 from by omega)) (q0 := 0) rfl rfl w1015 w1014 w1016 w1017 w328 rfl rfl ⟨⟨by decide, by decide⟩, rfl⟩ ⟨(Nat.le_of_ble_eq_true rfl), (Nat.le_of_ble_eq_true rfl)⟩ rfl hl.1 rfl (Nat.le_of_ble_eq_true rfl) d_M_function_217 ⟨(Nat.le_of_ble_eq_true rfl), (Nat.le_of_ble_eq_true rfl)⟩) hP hD hS hA (fun r9 u10 H locs hp9 hP hD hS => ?_)
              have hP : va_P D vwCl (MW dA h ad x) H := hP
              have hD : va_D A (MW dA h ad x) := hD
              replace hp9 : bI (x.stB 108 97 116) = r9 := Eq.symm hp9
              subst hp9
              refine lv_if_eq hx hb d_M_function_220 (tgt := 253) rfl (fun g11 => ?_) (fun g11 => ?_)
              · have g11 := bI_0 g11
                refine lv_aload_n hx hb d_M_function_253 rfl (lv_at hl 1 rfl) ?_
                refine lv_bipush (v := 103) hx hb d_M_function_254 (by decide) ?_
                refine lv_bipush (v := 114) hx hb d_M_function_256 (by decide) ?_
                refine lv_bipush (v := 111) hx hb d_M_function_258 (by decide) ?_
                refine jfI (rnV (As := [.int 103, .int 114, .int 111]) (rest := []) hx hb hml hown hE hK (hN _ _ hS) hP hD (k_isStart l D dA H.size h ad x 103 114 111 (show x.length ≤ 65536 from by omega) (show x.frm ≤ x.too from by omega) (show x.too ≤ 65537 from by omega)) (q0 := 0) rfl rfl w1015 w1014 w1016 w1017 w328 rfl rfl ⟨⟨by decide, by decide⟩, rfl⟩ ⟨(Nat.le_of_ble_eq_true rfl), (Nat.le_of_ble_eq_true rfl)⟩ rfl hl.1 rfl (Nat.le_of_ble_eq_true rfl) d_M_function_260 ⟨(Nat.le_of_ble_eq_true rfl), (Nat.le_of_ble_eq_true rfl)⟩) hP hD hS hA (fun r12 u13 H locs hp9 hP hD hS => ?_)
                have hP : va_P D vwCl (MW dA h ad x) H := hP
                have hD : va_D A (MW dA h ad x) := hD
                replace hp9 : bI (x.stB 103 114 111) = r12 := Eq.symm hp9
                subst hp9
                refine lv_if_eq hx hb d_M_function_263 (tgt := 298) rfl (fun g14 => ?_) (fun g14 => ?_)
                · have g14 := bI_0 g14
                  refine lv_iconst (v := (-1)) hx hb d_M_function_298 (by decide) ?_
                  exact rfI hx hb hr hlk hS () (by unfold MS.fnI MS.fn5 MS.fn6; rw [n1]; simp [g1, g2, g7, g8, g11, g14]) hP hD (Nat.le_of_ble_eq_true rfl) (Nat.le_of_ble_eq_true rfl) d_M_function_299
                · have g14 := bI_n0 g14
                  refine lv_aload_n hx hb d_M_function_266 rfl (lv_at hl 1 rfl) ?_
                  refine lv_aload_n hx hb d_M_function_267 rfl (lv_at hl 1 rfl) ?_
                  refine gF (v := .int (nI x.frm)) hx hb hown hE hK hP 0 rfl rfl layM 45 (by decide) w464 rfl d_M_function_268 ?_
                  refine lv_iconst (v := 3) hx hb d_M_function_271 (by decide) ?_
                  refine lv_iadd hx hb d_M_function_272 (tpi (y := nI (x.frm + 3)) (nI_add (x.frm) (3)) ?_)
                  refine jfI (rnV (As := [.int (nI (x.frm + 3))]) (rest := []) hx hb hml hown hE hK (hN _ _ hS) hP hD (k_at l D dA H.size h ad x (x.frm + 3) (show (x.frm + 3) < 2 ^ 31 from by omega) (show x.length ≤ 65536 from by omega)) (q0 := 0) rfl rfl w466 w465 w467 w468 w328 rfl rfl ⟨⟨by decide, by decide⟩, rfl⟩ ⟨(Nat.le_of_ble_eq_true rfl), (Nat.le_of_ble_eq_true rfl)⟩ rfl hl.1 rfl (Nat.le_of_ble_eq_true rfl) d_M_function_273 ⟨(Nat.le_of_ble_eq_true rfl), (Nat.le_of_ble_eq_true rfl)⟩) hP hD hS hA (fun r15 u16 H locs hp9 hP hD hS => ?_)
                  have hP : va_P D vwCl (MW dA h ad x) H := hP
                  have hD : va_D A (MW dA h ad x) := hD
                  replace hp9 : x.atN (x.frm + 3) = r15 := Eq.symm hp9
                  subst hp9
                  refine lv_bipush (v := 119) hx hb d_M_function_276 (by decide) ?_
                  refine lv_icmp_ne hx hb d_M_function_278 (tgt := 298) rfl (fun g17 => ?_) (fun g17 => ?_)
                  · have g17 := g17
                    refine lv_iconst (v := (-1)) hx hb d_M_function_298 (by decide) ?_
                    exact rfI hx hb hr hlk hS () (by unfold MS.fnI MS.fn5 MS.fn6; rw [n1]; simp [g1, g2, g7, g8, g11, g14, g17]) hP hD (Nat.le_of_ble_eq_true rfl) (Nat.le_of_ble_eq_true rfl) d_M_function_299
                  · have g17 := g17
                    refine lv_iload_n hx hb d_M_function_281 rfl (lv_at hl 4 rfl) ?_
                    refine lv_bipush (v := 116) hx hb d_M_function_282 (by decide) ?_
                    refine lv_icmp_ne hx hb d_M_function_284 (tgt := 298) rfl (fun g18 => ?_) (fun g18 => ?_)
                    · have g18 := g18
                      refine lv_iconst (v := (-1)) hx hb d_M_function_298 (by decide) ?_
                      exact rfI hx hb hr hlk hS () (by unfold MS.fnI MS.fn5 MS.fn6; rw [n1]; simp [g1, g2, g7, g8, g11, g14, g17, g18]) hP hD (Nat.le_of_ble_eq_true rfl) (Nat.le_of_ble_eq_true rfl) d_M_function_299
                    · have g18 := g18
                      refine lv_iload_n hx hb d_M_function_287 rfl (lv_at hl 3 rfl) ?_
                      refine lv_bipush (v := 104) hx hb d_M_function_288 (by decide) ?_
                      refine lv_icmp_ne hx hb d_M_function_290 (tgt := 298) rfl (fun g19 => ?_) (fun g19 => ?_)
                      · have g19 := g19
                        refine lv_iconst (v := (-1)) hx hb d_M_function_298 (by decide) ?_
                        exact rfI hx hb hr hlk hS () (by unfold MS.fnI MS.fn5 MS.fn6; rw [n1]; simp [g1, g2, g7, g8, g11, g14, g17, g18, g19]) hP hD (Nat.le_of_ble_eq_true rfl) (Nat.le_of_ble_eq_true rfl) d_M_function_299
                      · have g19 := g19
                        refine lv_bipush (v := 6) hx hb d_M_function_293 (by decide) ?_
                        refine lv_goto hx hb d_M_function_295 (tgt := 299) rfl ?_
                        exact rfI hx hb hr hlk hS () (by unfold MS.fnI MS.fn5 MS.fn6; rw [n1]; simp [g1, g2, g7, g8, g11, g14, g17, g18, g19]) hP hD (Nat.le_of_ble_eq_true rfl) (Nat.le_of_ble_eq_true rfl) d_M_function_299
              · have g11 := bI_n0 g11
                refine lv_aload_n hx hb d_M_function_223 rfl (lv_at hl 1 rfl) ?_
                refine lv_aload_n hx hb d_M_function_224 rfl (lv_at hl 1 rfl) ?_
                refine gF (v := .int (nI x.frm)) hx hb hown hE hK hP 0 rfl rfl layM 45 (by decide) w464 rfl d_M_function_225 ?_
                refine lv_iconst (v := 3) hx hb d_M_function_228 (by decide) ?_
                refine lv_iadd hx hb d_M_function_229 (tpi (y := nI (x.frm + 3)) (nI_add (x.frm) (3)) ?_)
                refine jfI (rnV (As := [.int (nI (x.frm + 3))]) (rest := []) hx hb hml hown hE hK (hN _ _ hS) hP hD (k_at l D dA H.size h ad x (x.frm + 3) (show (x.frm + 3) < 2 ^ 31 from by omega) (show x.length ≤ 65536 from by omega)) (q0 := 0) rfl rfl w466 w465 w467 w468 w328 rfl rfl ⟨⟨by decide, by decide⟩, rfl⟩ ⟨(Nat.le_of_ble_eq_true rfl), (Nat.le_of_ble_eq_true rfl)⟩ rfl hl.1 rfl (Nat.le_of_ble_eq_true rfl) d_M_function_230 ⟨(Nat.le_of_ble_eq_true rfl), (Nat.le_of_ble_eq_true rfl)⟩) hP hD hS hA (fun r20 u21 H locs hp9 hP hD hS => ?_)
                have hP : va_P D vwCl (MW dA h ad x) H := hP
                have hD : va_D A (MW dA h ad x) := hD
                replace hp9 : x.atN (x.frm + 3) = r20 := Eq.symm hp9
                subst hp9
                refine lv_bipush (v := 101) hx hb d_M_function_233 (by decide) ?_
                refine lv_icmp_ne hx hb d_M_function_235 (tgt := 253) rfl (fun g22 => ?_) (fun g22 => ?_)
                · have g22 := g22
                  refine lv_aload_n hx hb d_M_function_253 rfl (lv_at hl 1 rfl) ?_
                  refine lv_bipush (v := 103) hx hb d_M_function_254 (by decide) ?_
                  refine lv_bipush (v := 114) hx hb d_M_function_256 (by decide) ?_
                  refine lv_bipush (v := 111) hx hb d_M_function_258 (by decide) ?_
                  refine jfI (rnV (As := [.int 103, .int 114, .int 111]) (rest := []) hx hb hml hown hE hK (hN _ _ hS) hP hD (k_isStart l D dA H.size h ad x 103 114 111 (show x.length ≤ 65536 from by omega) (show x.frm ≤ x.too from by omega) (show x.too ≤ 65537 from by omega)) (q0 := 0) rfl rfl w1015 w1014 w1016 w1017 w328 rfl rfl ⟨⟨by decide, by decide⟩, rfl⟩ ⟨(Nat.le_of_ble_eq_true rfl), (Nat.le_of_ble_eq_true rfl)⟩ rfl hl.1 rfl (Nat.le_of_ble_eq_true rfl) d_M_function_260 ⟨(Nat.le_of_ble_eq_true rfl), (Nat.le_of_ble_eq_true rfl)⟩) hP hD hS hA (fun r23 u24 H locs hp9 hP hD hS => ?_)
                  have hP : va_P D vwCl (MW dA h ad x) H := hP
                  have hD : va_D A (MW dA h ad x) := hD
                  replace hp9 : bI (x.stB 103 114 111) = r23 := Eq.symm hp9
                  subst hp9
                  refine lv_if_eq hx hb d_M_function_263 (tgt := 298) rfl (fun g25 => ?_) (fun g25 => ?_)
                  · have g25 := bI_0 g25
                    refine lv_iconst (v := (-1)) hx hb d_M_function_298 (by decide) ?_
                    exact rfI hx hb hr hlk hS () (by unfold MS.fnI MS.fn5 MS.fn6; rw [n1]; simp [g1, g2, g7, g8, g11, g22, g25]) hP hD (Nat.le_of_ble_eq_true rfl) (Nat.le_of_ble_eq_true rfl) d_M_function_299
                  · have g25 := bI_n0 g25
                    refine lv_aload_n hx hb d_M_function_266 rfl (lv_at hl 1 rfl) ?_
                    refine lv_aload_n hx hb d_M_function_267 rfl (lv_at hl 1 rfl) ?_
                    refine gF (v := .int (nI x.frm)) hx hb hown hE hK hP 0 rfl rfl layM 45 (by decide) w464 rfl d_M_function_268 ?_
                    refine lv_iconst (v := 3) hx hb d_M_function_271 (by decide) ?_
                    refine lv_iadd hx hb d_M_function_272 (tpi (y := nI (x.frm + 3)) (nI_add (x.frm) (3)) ?_)
                    refine jfI (rnV (As := [.int (nI (x.frm + 3))]) (rest := []) hx hb hml hown hE hK (hN _ _ hS) hP hD (k_at l D dA H.size h ad x (x.frm + 3) (show (x.frm + 3) < 2 ^ 31 from by omega) (show x.length ≤ 65536 from by omega)) (q0 := 0) rfl rfl w466 w465 w467 w468 w328 rfl rfl ⟨⟨by decide, by decide⟩, rfl⟩ ⟨(Nat.le_of_ble_eq_true rfl), (Nat.le_of_ble_eq_true rfl)⟩ rfl hl.1 rfl (Nat.le_of_ble_eq_true rfl) d_M_function_273 ⟨(Nat.le_of_ble_eq_true rfl), (Nat.le_of_ble_eq_true rfl)⟩) hP hD hS hA (fun r26 u27 H locs hp9 hP hD hS => ?_)
                    have hP : va_P D vwCl (MW dA h ad x) H := hP
                    have hD : va_D A (MW dA h ad x) := hD
                    replace hp9 : x.atN (x.frm + 3) = r26 := Eq.symm hp9
                    subst hp9
                    refine lv_bipush (v := 119) hx hb d_M_function_276 (by decide) ?_
                    refine lv_icmp_ne hx hb d_M_function_278 (tgt := 298) rfl (fun g28 => ?_) (fun g28 => ?_)
                    · have g28 := g28
                      refine lv_iconst (v := (-1)) hx hb d_M_function_298 (by decide) ?_
                      exact rfI hx hb hr hlk hS () (by unfold MS.fnI MS.fn5 MS.fn6; rw [n1]; simp [g1, g2, g7, g8, g11, g22, g25, g28]) hP hD (Nat.le_of_ble_eq_true rfl) (Nat.le_of_ble_eq_true rfl) d_M_function_299
                    · have g28 := g28
                      refine lv_iload_n hx hb d_M_function_281 rfl (lv_at hl 4 rfl) ?_
                      refine lv_bipush (v := 116) hx hb d_M_function_282 (by decide) ?_
                      refine lv_icmp_ne hx hb d_M_function_284 (tgt := 298) rfl (fun g29 => ?_) (fun g29 => ?_)
                      · have g29 := g29
                        refine lv_iconst (v := (-1)) hx hb d_M_function_298 (by decide) ?_
                        exact rfI hx hb hr hlk hS () (by unfold MS.fnI MS.fn5 MS.fn6; rw [n1]; simp [g1, g2, g7, g8, g11, g22, g25, g28, g29]) hP hD (Nat.le_of_ble_eq_true rfl) (Nat.le_of_ble_eq_true rfl) d_M_function_299
                      · have g29 := g29
                        refine lv_iload_n hx hb d_M_function_287 rfl (lv_at hl 3 rfl) ?_
                        refine lv_bipush (v := 104) hx hb d_M_function_288 (by decide) ?_
                        refine lv_icmp_ne hx hb d_M_function_290 (tgt := 298) rfl (fun g30 => ?_) (fun g30 => ?_)
                        · have g30 := g30
                          refine lv_iconst (v := (-1)) hx hb d_M_function_298 (by decide) ?_
                          exact rfI hx hb hr hlk hS () (by unfold MS.fnI MS.fn5 MS.fn6; rw [n1]; simp [g1, g2, g7, g8, g11, g22, g25, g28, g29, g30]) hP hD (Nat.le_of_ble_eq_true rfl) (Nat.le_of_ble_eq_true rfl) d_M_function_299
                        · have g30 := g30
                          refine lv_bipush (v := 6) hx hb d_M_function_293 (by decide) ?_
                          refine lv_goto hx hb d_M_function_295 (tgt := 299) rfl ?_
                          exact rfI hx hb hr hlk hS () (by unfold MS.fnI MS.fn5 MS.fn6; rw [n1]; simp [g1, g2, g7, g8, g11, g22, g25, g28, g29, g30]) hP hD (Nat.le_of_ble_eq_true rfl) (Nat.le_of_ble_eq_true rfl) d_M_function_299
                · have g22 := g22
                  refine lv_iload_n hx hb d_M_function_238 rfl (lv_at hl 4 rfl) ?_
                  refine lv_bipush (v := 115) hx hb d_M_function_239 (by decide) ?_
                  refine lv_icmp_ne hx hb d_M_function_241 (tgt := 253) rfl (fun g31 => ?_) (fun g31 => ?_)
                  · have g31 := g31
                    refine lv_aload_n hx hb d_M_function_253 rfl (lv_at hl 1 rfl) ?_
                    refine lv_bipush (v := 103) hx hb d_M_function_254 (by decide) ?_
                    refine lv_bipush (v := 114) hx hb d_M_function_256 (by decide) ?_
                    refine lv_bipush (v := 111) hx hb d_M_function_258 (by decide) ?_
                    refine jfI (rnV (As := [.int 103, .int 114, .int 111]) (rest := []) hx hb hml hown hE hK (hN _ _ hS) hP hD (k_isStart l D dA H.size h ad x 103 114 111 (show x.length ≤ 65536 from by omega) (show x.frm ≤ x.too from by omega) (show x.too ≤ 65537 from by omega)) (q0 := 0) rfl rfl w1015 w1014 w1016 w1017 w328 rfl rfl ⟨⟨by decide, by decide⟩, rfl⟩ ⟨(Nat.le_of_ble_eq_true rfl), (Nat.le_of_ble_eq_true rfl)⟩ rfl hl.1 rfl (Nat.le_of_ble_eq_true rfl) d_M_function_260 ⟨(Nat.le_of_ble_eq_true rfl), (Nat.le_of_ble_eq_true rfl)⟩) hP hD hS hA (fun r32 u33 H locs hp9 hP hD hS => ?_)
                    have hP : va_P D vwCl (MW dA h ad x) H := hP
                    have hD : va_D A (MW dA h ad x) := hD
                    replace hp9 : bI (x.stB 103 114 111) = r32 := Eq.symm hp9
                    subst hp9
                    refine lv_if_eq hx hb d_M_function_263 (tgt := 298) rfl (fun g34 => ?_) (fun g34 => ?_)
                    · have g34 := bI_0 g34
                      refine lv_iconst (v := (-1)) hx hb d_M_function_298 (by decide) ?_
                      exact rfI hx hb hr hlk hS () (by unfold MS.fnI MS.fn5 MS.fn6; rw [n1]; simp [g1, g2, g7, g8, g11, g22, g31, g34]) hP hD (Nat.le_of_ble_eq_true rfl) (Nat.le_of_ble_eq_true rfl) d_M_function_299
                    · have g34 := bI_n0 g34
                      refine lv_aload_n hx hb d_M_function_266 rfl (lv_at hl 1 rfl) ?_
                      refine lv_aload_n hx hb d_M_function_267 rfl (lv_at hl 1 rfl) ?_
                      refine gF (v := .int (nI x.frm)) hx hb hown hE hK hP 0 rfl rfl layM 45 (by decide) w464 rfl d_M_function_268 ?_
                      refine lv_iconst (v := 3) hx hb d_M_function_271 (by decide) ?_
                      refine lv_iadd hx hb d_M_function_272 (tpi (y := nI (x.frm + 3)) (nI_add (x.frm) (3)) ?_)
                      refine jfI (rnV (As := [.int (nI (x.frm + 3))]) (rest := []) hx hb hml hown hE hK (hN _ _ hS) hP hD (k_at l D dA H.size h ad x (x.frm + 3) (show (x.frm + 3) < 2 ^ 31 from by omega) (show x.length ≤ 65536 from by omega)) (q0 := 0) rfl rfl w466 w465 w467 w468 w328 rfl rfl ⟨⟨by decide, by decide⟩, rfl⟩ ⟨(Nat.le_of_ble_eq_true rfl), (Nat.le_of_ble_eq_true rfl)⟩ rfl hl.1 rfl (Nat.le_of_ble_eq_true rfl) d_M_function_273 ⟨(Nat.le_of_ble_eq_true rfl), (Nat.le_of_ble_eq_true rfl)⟩) hP hD hS hA (fun r35 u36 H locs hp9 hP hD hS => ?_)
                      have hP : va_P D vwCl (MW dA h ad x) H := hP
                      have hD : va_D A (MW dA h ad x) := hD
                      replace hp9 : x.atN (x.frm + 3) = r35 := Eq.symm hp9
                      subst hp9
                      refine lv_bipush (v := 119) hx hb d_M_function_276 (by decide) ?_
                      refine lv_icmp_ne hx hb d_M_function_278 (tgt := 298) rfl (fun g37 => ?_) (fun g37 => ?_)
                      · have g37 := g37
                        refine lv_iconst (v := (-1)) hx hb d_M_function_298 (by decide) ?_
                        exact rfI hx hb hr hlk hS () (by unfold MS.fnI MS.fn5 MS.fn6; rw [n1]; simp [g1, g2, g7, g8, g11, g22, g31, g34, g37]) hP hD (Nat.le_of_ble_eq_true rfl) (Nat.le_of_ble_eq_true rfl) d_M_function_299
                      · have g37 := g37
                        refine lv_iload_n hx hb d_M_function_281 rfl (lv_at hl 4 rfl) ?_
                        refine lv_bipush (v := 116) hx hb d_M_function_282 (by decide) ?_
                        refine lv_icmp_ne hx hb d_M_function_284 (tgt := 298) rfl (fun g38 => ?_) (fun g38 => ?_)
                        · have g38 := g38
                          refine lv_iconst (v := (-1)) hx hb d_M_function_298 (by decide) ?_
                          exact rfI hx hb hr hlk hS () (absurd (g22.symm.trans g37) (by decide)) hP hD (Nat.le_of_ble_eq_true rfl) (Nat.le_of_ble_eq_true rfl) d_M_function_299
                        · have g38 := g38
                          refine lv_iload_n hx hb d_M_function_287 rfl (lv_at hl 3 rfl) ?_
                          refine lv_bipush (v := 104) hx hb d_M_function_288 (by decide) ?_
                          refine lv_icmp_ne hx hb d_M_function_290 (tgt := 298) rfl (fun g39 => ?_) (fun g39 => ?_)
                          · have g39 := g39
                            refine lv_iconst (v := (-1)) hx hb d_M_function_298 (by decide) ?_
                            exact rfI hx hb hr hlk hS () (absurd (g22.symm.trans g37) (by decide)) hP hD (Nat.le_of_ble_eq_true rfl) (Nat.le_of_ble_eq_true rfl) d_M_function_299
                          · have g39 := g39
                            refine lv_bipush (v := 6) hx hb d_M_function_293 (by decide) ?_
                            refine lv_goto hx hb d_M_function_295 (tgt := 299) rfl ?_
                            exact rfI hx hb hr hlk hS () (absurd (g22.symm.trans g37) (by decide)) hP hD (Nat.le_of_ble_eq_true rfl) (Nat.le_of_ble_eq_true rfl) d_M_function_299
                  · have g31 := g31
                    refine lv_iload hx hb d_M_function_244 (lv_at hl 0 rfl) ?_
                    refine lv_if_eq hx hb d_M_function_246 (tgt := 253) rfl (fun g40 => ?_) (fun g40 => ?_)
                    · have g40 := bI_0 g40
                      refine lv_aload_n hx hb d_M_function_253 rfl (lv_at hl 1 rfl) ?_
                      refine lv_bipush (v := 103) hx hb d_M_function_254 (by decide) ?_
                      refine lv_bipush (v := 114) hx hb d_M_function_256 (by decide) ?_
                      refine lv_bipush (v := 111) hx hb d_M_function_258 (by decide) ?_
                      refine jfI (rnV (As := [.int 103, .int 114, .int 111]) (rest := []) hx hb hml hown hE hK (hN _ _ hS) hP hD (k_isStart l D dA H.size h ad x 103 114 111 (show x.length ≤ 65536 from by omega) (show x.frm ≤ x.too from by omega) (show x.too ≤ 65537 from by omega)) (q0 := 0) rfl rfl w1015 w1014 w1016 w1017 w328 rfl rfl ⟨⟨by decide, by decide⟩, rfl⟩ ⟨(Nat.le_of_ble_eq_true rfl), (Nat.le_of_ble_eq_true rfl)⟩ rfl hl.1 rfl (Nat.le_of_ble_eq_true rfl) d_M_function_260 ⟨(Nat.le_of_ble_eq_true rfl), (Nat.le_of_ble_eq_true rfl)⟩) hP hD hS hA (fun r41 u42 H locs hp9 hP hD hS => ?_)
                      have hP : va_P D vwCl (MW dA h ad x) H := hP
                      have hD : va_D A (MW dA h ad x) := hD
                      replace hp9 : bI (x.stB 103 114 111) = r41 := Eq.symm hp9
                      subst hp9
                      refine lv_if_eq hx hb d_M_function_263 (tgt := 298) rfl (fun g43 => ?_) (fun g43 => ?_)
                      · have g43 := bI_0 g43
                        refine lv_iconst (v := (-1)) hx hb d_M_function_298 (by decide) ?_
                        exact rfI hx hb hr hlk hS () (by unfold MS.fnI MS.fn5 MS.fn6; rw [n1]; simp [g1, g2, g7, g8, g11, g22, g31, (of_decide_eq_false (t1.trans g40) : ¬ x.atZ ((nI x.too) - 1) = 116), g43]) hP hD (Nat.le_of_ble_eq_true rfl) (Nat.le_of_ble_eq_true rfl) d_M_function_299
                      · have g43 := bI_n0 g43
                        refine lv_aload_n hx hb d_M_function_266 rfl (lv_at hl 1 rfl) ?_
                        refine lv_aload_n hx hb d_M_function_267 rfl (lv_at hl 1 rfl) ?_
                        refine gF (v := .int (nI x.frm)) hx hb hown hE hK hP 0 rfl rfl layM 45 (by decide) w464 rfl d_M_function_268 ?_
                        refine lv_iconst (v := 3) hx hb d_M_function_271 (by decide) ?_
                        refine lv_iadd hx hb d_M_function_272 (tpi (y := nI (x.frm + 3)) (nI_add (x.frm) (3)) ?_)
                        refine jfI (rnV (As := [.int (nI (x.frm + 3))]) (rest := []) hx hb hml hown hE hK (hN _ _ hS) hP hD (k_at l D dA H.size h ad x (x.frm + 3) (show (x.frm + 3) < 2 ^ 31 from by omega) (show x.length ≤ 65536 from by omega)) (q0 := 0) rfl rfl w466 w465 w467 w468 w328 rfl rfl ⟨⟨by decide, by decide⟩, rfl⟩ ⟨(Nat.le_of_ble_eq_true rfl), (Nat.le_of_ble_eq_true rfl)⟩ rfl hl.1 rfl (Nat.le_of_ble_eq_true rfl) d_M_function_273 ⟨(Nat.le_of_ble_eq_true rfl), (Nat.le_of_ble_eq_true rfl)⟩) hP hD hS hA (fun r44 u45 H locs hp9 hP hD hS => ?_)
                        have hP : va_P D vwCl (MW dA h ad x) H := hP
                        have hD : va_D A (MW dA h ad x) := hD
                        replace hp9 : x.atN (x.frm + 3) = r44 := Eq.symm hp9
                        subst hp9
                        refine lv_bipush (v := 119) hx hb d_M_function_276 (by decide) ?_
                        refine lv_icmp_ne hx hb d_M_function_278 (tgt := 298) rfl (fun g46 => ?_) (fun g46 => ?_)
                        · have g46 := g46
                          refine lv_iconst (v := (-1)) hx hb d_M_function_298 (by decide) ?_
                          exact rfI hx hb hr hlk hS () (by unfold MS.fnI MS.fn5 MS.fn6; rw [n1]; simp [g1, g2, g7, g8, g11, g22, g31, (of_decide_eq_false (t1.trans g40) : ¬ x.atZ ((nI x.too) - 1) = 116), g43, g46]) hP hD (Nat.le_of_ble_eq_true rfl) (Nat.le_of_ble_eq_true rfl) d_M_function_299
                        · have g46 := g46
                          refine lv_iload_n hx hb d_M_function_281 rfl (lv_at hl 4 rfl) ?_
                          refine lv_bipush (v := 116) hx hb d_M_function_282 (by decide) ?_
                          refine lv_icmp_ne hx hb d_M_function_284 (tgt := 298) rfl (fun g47 => ?_) (fun g47 => ?_)
                          · have g47 := g47
                            refine lv_iconst (v := (-1)) hx hb d_M_function_298 (by decide) ?_
                            exact rfI hx hb hr hlk hS () (absurd (g22.symm.trans g46) (by decide)) hP hD (Nat.le_of_ble_eq_true rfl) (Nat.le_of_ble_eq_true rfl) d_M_function_299
                          · have g47 := g47
                            refine lv_iload_n hx hb d_M_function_287 rfl (lv_at hl 3 rfl) ?_
                            refine lv_bipush (v := 104) hx hb d_M_function_288 (by decide) ?_
                            refine lv_icmp_ne hx hb d_M_function_290 (tgt := 298) rfl (fun g48 => ?_) (fun g48 => ?_)
                            · have g48 := g48
                              refine lv_iconst (v := (-1)) hx hb d_M_function_298 (by decide) ?_
                              exact rfI hx hb hr hlk hS () (absurd (g22.symm.trans g46) (by decide)) hP hD (Nat.le_of_ble_eq_true rfl) (Nat.le_of_ble_eq_true rfl) d_M_function_299
                            · have g48 := g48
                              refine lv_bipush (v := 6) hx hb d_M_function_293 (by decide) ?_
                              refine lv_goto hx hb d_M_function_295 (tgt := 299) rfl ?_
                              exact rfI hx hb hr hlk hS () (absurd (g22.symm.trans g46) (by decide)) hP hD (Nat.le_of_ble_eq_true rfl) (Nat.le_of_ble_eq_true rfl) d_M_function_299
                    · have g40 := bI_n0 g40
                      refine lv_iconst (v := 5) hx hb d_M_function_249 (by decide) ?_
                      refine lv_goto hx hb d_M_function_250 (tgt := 299) rfl ?_
                      exact rfI hx hb hr hlk hS () (by unfold MS.fnI MS.fn5 MS.fn6; rw [n1]; simp [g1, g2, g7, g8, g11, g22, g31, (of_decide_eq_true (t1.trans g40) : x.atZ ((nI x.too) - 1) = 116)]) hP hD (Nat.le_of_ble_eq_true rfl) (Nat.le_of_ble_eq_true rfl) d_M_function_299
            · have g8 := mt (nI_eq (a := n) (b := 6) (by omega) (by omega)).mpr g8
              refine lv_iconst (v := (-1)) hx hb d_M_function_208 (by decide) ?_
              exact rfI hx hb hr hlk hS () (by unfold MS.fnI MS.fn5 MS.fn6; rw [n1]; simp [g1, g2, g7, g8]) hP hD (Nat.le_of_ble_eq_true rfl) (Nat.le_of_ble_eq_true rfl) d_M_function_209
          · have g7 := (nI_eq (a := n) (b := 5) (by omega) (by omega)).mp g7
            refine lv_aload_n hx hb d_M_function_116 rfl (lv_at hl 1 rfl) ?_
            refine lv_bipush (v := 99) hx hb d_M_function_117 (by decide) ?_
            refine lv_bipush (v := 111) hx hb d_M_function_119 (by decide) ?_
            refine lv_bipush (v := 117) hx hb d_M_function_121 (by decide) ?_
            refine jfI (rnV (As := [.int 99, .int 111, .int 117]) (rest := []) hx hb hml hown hE hK (hN _ _ hS) hP hD (k_isStart l D dA H.size h ad x 99 111 117 (show x.length ≤ 65536 from by omega) (show x.frm ≤ x.too from by omega) (show x.too ≤ 65537 from by omega)) (q0 := 0) rfl rfl w1015 w1014 w1016 w1017 w328 rfl rfl ⟨⟨by decide, by decide⟩, rfl⟩ ⟨(Nat.le_of_ble_eq_true rfl), (Nat.le_of_ble_eq_true rfl)⟩ rfl hl.1 rfl (Nat.le_of_ble_eq_true rfl) d_M_function_123 ⟨(Nat.le_of_ble_eq_true rfl), (Nat.le_of_ble_eq_true rfl)⟩) hP hD hS hA (fun r49 u50 H locs hp9 hP hD hS => ?_)
            have hP : va_P D vwCl (MW dA h ad x) H := hP
            have hD : va_D A (MW dA h ad x) := hD
            replace hp9 : bI (x.stB 99 111 117) = r49 := Eq.symm hp9
            subst hp9
            refine lv_if_eq hx hb d_M_function_126 (tgt := 144) rfl (fun g51 => ?_) (fun g51 => ?_)
            · have g51 := bI_0 g51
              refine lv_aload_n hx hb d_M_function_144 rfl (lv_at hl 1 rfl) ?_
              refine lv_bipush (v := 108) hx hb d_M_function_145 (by decide) ?_
              refine lv_bipush (v := 101) hx hb d_M_function_147 (by decide) ?_
              refine lv_bipush (v := 97) hx hb d_M_function_149 (by decide) ?_
              refine jfI (rnV (As := [.int 108, .int 101, .int 97]) (rest := []) hx hb hml hown hE hK (hN _ _ hS) hP hD (k_isStart l D dA H.size h ad x 108 101 97 (show x.length ≤ 65536 from by omega) (show x.frm ≤ x.too from by omega) (show x.too ≤ 65537 from by omega)) (q0 := 0) rfl rfl w1015 w1014 w1016 w1017 w328 rfl rfl ⟨⟨by decide, by decide⟩, rfl⟩ ⟨(Nat.le_of_ble_eq_true rfl), (Nat.le_of_ble_eq_true rfl)⟩ rfl hl.1 rfl (Nat.le_of_ble_eq_true rfl) d_M_function_151 ⟨(Nat.le_of_ble_eq_true rfl), (Nat.le_of_ble_eq_true rfl)⟩) hP hD hS hA (fun r52 u53 H locs hp9 hP hD hS => ?_)
              have hP : va_P D vwCl (MW dA h ad x) H := hP
              have hD : va_D A (MW dA h ad x) := hD
              replace hp9 : bI (x.stB 108 101 97) = r52 := Eq.symm hp9
              subst hp9
              refine lv_if_eq hx hb d_M_function_154 (tgt := 172) rfl (fun g54 => ?_) (fun g54 => ?_)
              · have g54 := bI_0 g54
                refine lv_aload_n hx hb d_M_function_172 rfl (lv_at hl 1 rfl) ?_
                refine lv_bipush (v := 102) hx hb d_M_function_173 (by decide) ?_
                refine lv_bipush (v := 105) hx hb d_M_function_175 (by decide) ?_
                refine lv_bipush (v := 114) hx hb d_M_function_177 (by decide) ?_
                refine jfI (rnV (As := [.int 102, .int 105, .int 114]) (rest := []) hx hb hml hown hE hK (hN _ _ hS) hP hD (k_isStart l D dA H.size h ad x 102 105 114 (show x.length ≤ 65536 from by omega) (show x.frm ≤ x.too from by omega) (show x.too ≤ 65537 from by omega)) (q0 := 0) rfl rfl w1015 w1014 w1016 w1017 w328 rfl rfl ⟨⟨by decide, by decide⟩, rfl⟩ ⟨(Nat.le_of_ble_eq_true rfl), (Nat.le_of_ble_eq_true rfl)⟩ rfl hl.1 rfl (Nat.le_of_ble_eq_true rfl) d_M_function_179 ⟨(Nat.le_of_ble_eq_true rfl), (Nat.le_of_ble_eq_true rfl)⟩) hP hD hS hA (fun r55 u56 H locs hp9 hP hD hS => ?_)
                have hP : va_P D vwCl (MW dA h ad x) H := hP
                have hD : va_D A (MW dA h ad x) := hD
                replace hp9 : bI (x.stB 102 105 114) = r55 := Eq.symm hp9
                subst hp9
                refine lv_if_eq hx hb d_M_function_182 (tgt := 200) rfl (fun g57 => ?_) (fun g57 => ?_)
                · have g57 := bI_0 g57
                  refine lv_iconst (v := (-1)) hx hb d_M_function_200 (by decide) ?_
                  exact rfI hx hb hr hlk hS () (by unfold MS.fnI MS.fn5 MS.fn6; rw [n1]; simp [g1, g2, g7, g51, g54, g57]) hP hD (Nat.le_of_ble_eq_true rfl) (Nat.le_of_ble_eq_true rfl) d_M_function_201
                · have g57 := bI_n0 g57
                  refine lv_iload_n hx hb d_M_function_185 rfl (lv_at hl 4 rfl) ?_
                  refine lv_bipush (v := 115) hx hb d_M_function_186 (by decide) ?_
                  refine lv_icmp_ne hx hb d_M_function_188 (tgt := 200) rfl (fun g58 => ?_) (fun g58 => ?_)
                  · have g58 := g58
                    refine lv_iconst (v := (-1)) hx hb d_M_function_200 (by decide) ?_
                    exact rfI hx hb hr hlk hS () (by unfold MS.fnI MS.fn5 MS.fn6; rw [n1]; simp [g1, g2, g7, g51, g54, g57, g58]) hP hD (Nat.le_of_ble_eq_true rfl) (Nat.le_of_ble_eq_true rfl) d_M_function_201
                  · have g58 := g58
                    refine lv_iload hx hb d_M_function_191 (lv_at hl 0 rfl) ?_
                    refine lv_if_eq hx hb d_M_function_193 (tgt := 200) rfl (fun g59 => ?_) (fun g59 => ?_)
                    · have g59 := bI_0 g59
                      refine lv_iconst (v := (-1)) hx hb d_M_function_200 (by decide) ?_
                      exact rfI hx hb hr hlk hS () (by unfold MS.fnI MS.fn5 MS.fn6; rw [n1]; simp [g1, g2, g7, g51, g54, g57, g58, (of_decide_eq_false (t1.trans g59) : ¬ x.atZ ((nI x.too) - 1) = 116)]) hP hD (Nat.le_of_ble_eq_true rfl) (Nat.le_of_ble_eq_true rfl) d_M_function_201
                    · have g59 := bI_n0 g59
                      refine lv_iconst (v := 4) hx hb d_M_function_196 (by decide) ?_
                      refine lv_goto hx hb d_M_function_197 (tgt := 201) rfl ?_
                      exact rfI hx hb hr hlk hS () (by unfold MS.fnI MS.fn5 MS.fn6; rw [n1]; simp [g1, g2, g7, g51, g54, g57, g58, (of_decide_eq_true (t1.trans g59) : x.atZ ((nI x.too) - 1) = 116)]) hP hD (Nat.le_of_ble_eq_true rfl) (Nat.le_of_ble_eq_true rfl) d_M_function_201
              · have g54 := bI_n0 g54
                refine lv_iload_n hx hb d_M_function_157 rfl (lv_at hl 4 rfl) ?_
                refine lv_bipush (v := 115) hx hb d_M_function_158 (by decide) ?_
                refine lv_icmp_ne hx hb d_M_function_160 (tgt := 172) rfl (fun g60 => ?_) (fun g60 => ?_)
                · have g60 := g60
                  refine lv_aload_n hx hb d_M_function_172 rfl (lv_at hl 1 rfl) ?_
                  refine lv_bipush (v := 102) hx hb d_M_function_173 (by decide) ?_
                  refine lv_bipush (v := 105) hx hb d_M_function_175 (by decide) ?_
                  refine lv_bipush (v := 114) hx hb d_M_function_177 (by decide) ?_
                  refine jfI (rnV (As := [.int 102, .int 105, .int 114]) (rest := []) hx hb hml hown hE hK (hN _ _ hS) hP hD (k_isStart l D dA H.size h ad x 102 105 114 (show x.length ≤ 65536 from by omega) (show x.frm ≤ x.too from by omega) (show x.too ≤ 65537 from by omega)) (q0 := 0) rfl rfl w1015 w1014 w1016 w1017 w328 rfl rfl ⟨⟨by decide, by decide⟩, rfl⟩ ⟨(Nat.le_of_ble_eq_true rfl), (Nat.le_of_ble_eq_true rfl)⟩ rfl hl.1 rfl (Nat.le_of_ble_eq_true rfl) d_M_function_179 ⟨(Nat.le_of_ble_eq_true rfl), (Nat.le_of_ble_eq_true rfl)⟩) hP hD hS hA (fun r61 u62 H locs hp9 hP hD hS => ?_)
                  have hP : va_P D vwCl (MW dA h ad x) H := hP
                  have hD : va_D A (MW dA h ad x) := hD
                  replace hp9 : bI (x.stB 102 105 114) = r61 := Eq.symm hp9
                  subst hp9
                  refine lv_if_eq hx hb d_M_function_182 (tgt := 200) rfl (fun g63 => ?_) (fun g63 => ?_)
                  · have g63 := bI_0 g63
                    refine lv_iconst (v := (-1)) hx hb d_M_function_200 (by decide) ?_
                    exact rfI hx hb hr hlk hS () (by unfold MS.fnI MS.fn5 MS.fn6; rw [n1]; simp [g1, g2, g7, g51, g54, g60, g63]) hP hD (Nat.le_of_ble_eq_true rfl) (Nat.le_of_ble_eq_true rfl) d_M_function_201
                  · have g63 := bI_n0 g63
                    refine lv_iload_n hx hb d_M_function_185 rfl (lv_at hl 4 rfl) ?_
                    refine lv_bipush (v := 115) hx hb d_M_function_186 (by decide) ?_
                    refine lv_icmp_ne hx hb d_M_function_188 (tgt := 200) rfl (fun _ => ?_) (fun h9 => absurd h9 g60)
                    refine lv_iconst (v := (-1)) hx hb d_M_function_200 (by decide) ?_
                    exact rfI hx hb hr hlk hS () (by unfold MS.fnI MS.fn5 MS.fn6; rw [n1]; simp [g1, g2, g7, g51, g54, g60, g63]) hP hD (Nat.le_of_ble_eq_true rfl) (Nat.le_of_ble_eq_true rfl) d_M_function_201
                · have g60 := g60
                  refine lv_iload hx hb d_M_function_163 (lv_at hl 0 rfl) ?_
                  refine lv_if_eq hx hb d_M_function_165 (tgt := 172) rfl (fun g64 => ?_) (fun g64 => ?_)
                  · have g64 := bI_0 g64
                    refine lv_aload_n hx hb d_M_function_172 rfl (lv_at hl 1 rfl) ?_
                    refine lv_bipush (v := 102) hx hb d_M_function_173 (by decide) ?_
                    refine lv_bipush (v := 105) hx hb d_M_function_175 (by decide) ?_
                    refine lv_bipush (v := 114) hx hb d_M_function_177 (by decide) ?_
                    refine jfI (rnV (As := [.int 102, .int 105, .int 114]) (rest := []) hx hb hml hown hE hK (hN _ _ hS) hP hD (k_isStart l D dA H.size h ad x 102 105 114 (show x.length ≤ 65536 from by omega) (show x.frm ≤ x.too from by omega) (show x.too ≤ 65537 from by omega)) (q0 := 0) rfl rfl w1015 w1014 w1016 w1017 w328 rfl rfl ⟨⟨by decide, by decide⟩, rfl⟩ ⟨(Nat.le_of_ble_eq_true rfl), (Nat.le_of_ble_eq_true rfl)⟩ rfl hl.1 rfl (Nat.le_of_ble_eq_true rfl) d_M_function_179 ⟨(Nat.le_of_ble_eq_true rfl), (Nat.le_of_ble_eq_true rfl)⟩) hP hD hS hA (fun r65 u66 H locs hp9 hP hD hS => ?_)
                    have hP : va_P D vwCl (MW dA h ad x) H := hP
                    have hD : va_D A (MW dA h ad x) := hD
                    replace hp9 : bI (x.stB 102 105 114) = r65 := Eq.symm hp9
                    subst hp9
                    refine lv_if_eq hx hb d_M_function_182 (tgt := 200) rfl (fun g67 => ?_) (fun g67 => ?_)
                    · have g67 := bI_0 g67
                      refine lv_iconst (v := (-1)) hx hb d_M_function_200 (by decide) ?_
                      exact rfI hx hb hr hlk hS () (by unfold MS.fnI MS.fn5 MS.fn6; rw [n1]; simp [g1, g2, g7, g51, g54, g60, (of_decide_eq_false (t1.trans g64) : ¬ x.atZ ((nI x.too) - 1) = 116), g67]) hP hD (Nat.le_of_ble_eq_true rfl) (Nat.le_of_ble_eq_true rfl) d_M_function_201
                    · have g67 := bI_n0 g67
                      refine lv_iload_n hx hb d_M_function_185 rfl (lv_at hl 4 rfl) ?_
                      refine lv_bipush (v := 115) hx hb d_M_function_186 (by decide) ?_
                      refine lv_icmp_ne hx hb d_M_function_188 (tgt := 200) rfl (fun h9 => absurd g60 h9) (fun _ => ?_)
                      refine lv_iload hx hb d_M_function_191 (lv_at hl 0 rfl) ?_
                      refine lv_if_eq hx hb d_M_function_193 (tgt := 200) rfl (fun _ => ?_) (fun h9 => absurd (by rw [g64]; decide) h9)
                      refine lv_iconst (v := (-1)) hx hb d_M_function_200 (by decide) ?_
                      exact rfI hx hb hr hlk hS () (by unfold MS.fnI MS.fn5 MS.fn6; rw [n1]; simp [g1, g2, g7, g51, g54, g60, (of_decide_eq_false (t1.trans g64) : ¬ x.atZ ((nI x.too) - 1) = 116), g67]) hP hD (Nat.le_of_ble_eq_true rfl) (Nat.le_of_ble_eq_true rfl) d_M_function_201
                  · have g64 := bI_n0 g64
                    refine lv_iconst (v := 2) hx hb d_M_function_168 (by decide) ?_
                    refine lv_goto hx hb d_M_function_169 (tgt := 201) rfl ?_
                    exact rfI hx hb hr hlk hS () (by unfold MS.fnI MS.fn5 MS.fn6; rw [n1]; simp [g1, g2, g7, g51, g54, g60, (of_decide_eq_true (t1.trans g64) : x.atZ ((nI x.too) - 1) = 116)]) hP hD (Nat.le_of_ble_eq_true rfl) (Nat.le_of_ble_eq_true rfl) d_M_function_201
            · have g51 := bI_n0 g51
              refine lv_iload_n hx hb d_M_function_129 rfl (lv_at hl 4 rfl) ?_
              refine lv_bipush (v := 110) hx hb d_M_function_130 (by decide) ?_
              refine lv_icmp_ne hx hb d_M_function_132 (tgt := 144) rfl (fun g68 => ?_) (fun g68 => ?_)
              · have g68 := g68
                refine lv_aload_n hx hb d_M_function_144 rfl (lv_at hl 1 rfl) ?_
                refine lv_bipush (v := 108) hx hb d_M_function_145 (by decide) ?_
                refine lv_bipush (v := 101) hx hb d_M_function_147 (by decide) ?_
                refine lv_bipush (v := 97) hx hb d_M_function_149 (by decide) ?_
                refine jfI (rnV (As := [.int 108, .int 101, .int 97]) (rest := []) hx hb hml hown hE hK (hN _ _ hS) hP hD (k_isStart l D dA H.size h ad x 108 101 97 (show x.length ≤ 65536 from by omega) (show x.frm ≤ x.too from by omega) (show x.too ≤ 65537 from by omega)) (q0 := 0) rfl rfl w1015 w1014 w1016 w1017 w328 rfl rfl ⟨⟨by decide, by decide⟩, rfl⟩ ⟨(Nat.le_of_ble_eq_true rfl), (Nat.le_of_ble_eq_true rfl)⟩ rfl hl.1 rfl (Nat.le_of_ble_eq_true rfl) d_M_function_151 ⟨(Nat.le_of_ble_eq_true rfl), (Nat.le_of_ble_eq_true rfl)⟩) hP hD hS hA (fun r69 u70 H locs hp9 hP hD hS => ?_)
                have hP : va_P D vwCl (MW dA h ad x) H := hP
                have hD : va_D A (MW dA h ad x) := hD
                replace hp9 : bI (x.stB 108 101 97) = r69 := Eq.symm hp9
                subst hp9
                refine lv_if_eq hx hb d_M_function_154 (tgt := 172) rfl (fun g71 => ?_) (fun g71 => ?_)
                · have g71 := bI_0 g71
                  refine lv_aload_n hx hb d_M_function_172 rfl (lv_at hl 1 rfl) ?_
                  refine lv_bipush (v := 102) hx hb d_M_function_173 (by decide) ?_
                  refine lv_bipush (v := 105) hx hb d_M_function_175 (by decide) ?_
                  refine lv_bipush (v := 114) hx hb d_M_function_177 (by decide) ?_
                  refine jfI (rnV (As := [.int 102, .int 105, .int 114]) (rest := []) hx hb hml hown hE hK (hN _ _ hS) hP hD (k_isStart l D dA H.size h ad x 102 105 114 (show x.length ≤ 65536 from by omega) (show x.frm ≤ x.too from by omega) (show x.too ≤ 65537 from by omega)) (q0 := 0) rfl rfl w1015 w1014 w1016 w1017 w328 rfl rfl ⟨⟨by decide, by decide⟩, rfl⟩ ⟨(Nat.le_of_ble_eq_true rfl), (Nat.le_of_ble_eq_true rfl)⟩ rfl hl.1 rfl (Nat.le_of_ble_eq_true rfl) d_M_function_179 ⟨(Nat.le_of_ble_eq_true rfl), (Nat.le_of_ble_eq_true rfl)⟩) hP hD hS hA (fun r72 u73 H locs hp9 hP hD hS => ?_)
                  have hP : va_P D vwCl (MW dA h ad x) H := hP
                  have hD : va_D A (MW dA h ad x) := hD
                  replace hp9 : bI (x.stB 102 105 114) = r72 := Eq.symm hp9
                  subst hp9
                  refine lv_if_eq hx hb d_M_function_182 (tgt := 200) rfl (fun g74 => ?_) (fun g74 => ?_)
                  · have g74 := bI_0 g74
                    refine lv_iconst (v := (-1)) hx hb d_M_function_200 (by decide) ?_
                    exact rfI hx hb hr hlk hS () (by unfold MS.fnI MS.fn5 MS.fn6; rw [n1]; simp [g1, g2, g7, g51, g68, g71, g74]) hP hD (Nat.le_of_ble_eq_true rfl) (Nat.le_of_ble_eq_true rfl) d_M_function_201
                  · have g74 := bI_n0 g74
                    refine lv_iload_n hx hb d_M_function_185 rfl (lv_at hl 4 rfl) ?_
                    refine lv_bipush (v := 115) hx hb d_M_function_186 (by decide) ?_
                    refine lv_icmp_ne hx hb d_M_function_188 (tgt := 200) rfl (fun g75 => ?_) (fun g75 => ?_)
                    · have g75 := g75
                      refine lv_iconst (v := (-1)) hx hb d_M_function_200 (by decide) ?_
                      exact rfI hx hb hr hlk hS () (by unfold MS.fnI MS.fn5 MS.fn6; rw [n1]; simp [g1, g2, g7, g51, g68, g71, g74, g75]) hP hD (Nat.le_of_ble_eq_true rfl) (Nat.le_of_ble_eq_true rfl) d_M_function_201
                    · have g75 := g75
                      refine lv_iload hx hb d_M_function_191 (lv_at hl 0 rfl) ?_
                      refine lv_if_eq hx hb d_M_function_193 (tgt := 200) rfl (fun g76 => ?_) (fun g76 => ?_)
                      · have g76 := bI_0 g76
                        refine lv_iconst (v := (-1)) hx hb d_M_function_200 (by decide) ?_
                        exact rfI hx hb hr hlk hS () (by unfold MS.fnI MS.fn5 MS.fn6; rw [n1]; simp [g1, g2, g7, g51, g68, g71, g74, g75, (of_decide_eq_false (t1.trans g76) : ¬ x.atZ ((nI x.too) - 1) = 116)]) hP hD (Nat.le_of_ble_eq_true rfl) (Nat.le_of_ble_eq_true rfl) d_M_function_201
                      · have g76 := bI_n0 g76
                        refine lv_iconst (v := 4) hx hb d_M_function_196 (by decide) ?_
                        refine lv_goto hx hb d_M_function_197 (tgt := 201) rfl ?_
                        exact rfI hx hb hr hlk hS () (by unfold MS.fnI MS.fn5 MS.fn6; rw [n1]; simp [g1, g2, g7, g51, g68, g71, g74, g75, (of_decide_eq_true (t1.trans g76) : x.atZ ((nI x.too) - 1) = 116)]) hP hD (Nat.le_of_ble_eq_true rfl) (Nat.le_of_ble_eq_true rfl) d_M_function_201
                · have g71 := bI_n0 g71
                  refine lv_iload_n hx hb d_M_function_157 rfl (lv_at hl 4 rfl) ?_
                  refine lv_bipush (v := 115) hx hb d_M_function_158 (by decide) ?_
                  refine lv_icmp_ne hx hb d_M_function_160 (tgt := 172) rfl (fun g77 => ?_) (fun g77 => ?_)
                  · have g77 := g77
                    refine lv_aload_n hx hb d_M_function_172 rfl (lv_at hl 1 rfl) ?_
                    refine lv_bipush (v := 102) hx hb d_M_function_173 (by decide) ?_
                    refine lv_bipush (v := 105) hx hb d_M_function_175 (by decide) ?_
                    refine lv_bipush (v := 114) hx hb d_M_function_177 (by decide) ?_
                    refine jfI (rnV (As := [.int 102, .int 105, .int 114]) (rest := []) hx hb hml hown hE hK (hN _ _ hS) hP hD (k_isStart l D dA H.size h ad x 102 105 114 (show x.length ≤ 65536 from by omega) (show x.frm ≤ x.too from by omega) (show x.too ≤ 65537 from by omega)) (q0 := 0) rfl rfl w1015 w1014 w1016 w1017 w328 rfl rfl ⟨⟨by decide, by decide⟩, rfl⟩ ⟨(Nat.le_of_ble_eq_true rfl), (Nat.le_of_ble_eq_true rfl)⟩ rfl hl.1 rfl (Nat.le_of_ble_eq_true rfl) d_M_function_179 ⟨(Nat.le_of_ble_eq_true rfl), (Nat.le_of_ble_eq_true rfl)⟩) hP hD hS hA (fun r78 u79 H locs hp9 hP hD hS => ?_)
                    have hP : va_P D vwCl (MW dA h ad x) H := hP
                    have hD : va_D A (MW dA h ad x) := hD
                    replace hp9 : bI (x.stB 102 105 114) = r78 := Eq.symm hp9
                    subst hp9
                    refine lv_if_eq hx hb d_M_function_182 (tgt := 200) rfl (fun g80 => ?_) (fun g80 => ?_)
                    · have g80 := bI_0 g80
                      refine lv_iconst (v := (-1)) hx hb d_M_function_200 (by decide) ?_
                      exact rfI hx hb hr hlk hS () (by unfold MS.fnI MS.fn5 MS.fn6; rw [n1]; simp [g1, g2, g7, g51, g68, g71, g77, g80]) hP hD (Nat.le_of_ble_eq_true rfl) (Nat.le_of_ble_eq_true rfl) d_M_function_201
                    · have g80 := bI_n0 g80
                      refine lv_iload_n hx hb d_M_function_185 rfl (lv_at hl 4 rfl) ?_
                      refine lv_bipush (v := 115) hx hb d_M_function_186 (by decide) ?_
                      refine lv_icmp_ne hx hb d_M_function_188 (tgt := 200) rfl (fun _ => ?_) (fun h9 => absurd h9 g77)
                      refine lv_iconst (v := (-1)) hx hb d_M_function_200 (by decide) ?_
                      exact rfI hx hb hr hlk hS () (by unfold MS.fnI MS.fn5 MS.fn6; rw [n1]; simp [g1, g2, g7, g51, g68, g71, g77, g80]) hP hD (Nat.le_of_ble_eq_true rfl) (Nat.le_of_ble_eq_true rfl) d_M_function_201
                  · have g77 := g77
                    refine lv_iload hx hb d_M_function_163 (lv_at hl 0 rfl) ?_
                    refine lv_if_eq hx hb d_M_function_165 (tgt := 172) rfl (fun g81 => ?_) (fun g81 => ?_)
                    · have g81 := bI_0 g81
                      refine lv_aload_n hx hb d_M_function_172 rfl (lv_at hl 1 rfl) ?_
                      refine lv_bipush (v := 102) hx hb d_M_function_173 (by decide) ?_
                      refine lv_bipush (v := 105) hx hb d_M_function_175 (by decide) ?_
                      refine lv_bipush (v := 114) hx hb d_M_function_177 (by decide) ?_
                      refine jfI (rnV (As := [.int 102, .int 105, .int 114]) (rest := []) hx hb hml hown hE hK (hN _ _ hS) hP hD (k_isStart l D dA H.size h ad x 102 105 114 (show x.length ≤ 65536 from by omega) (show x.frm ≤ x.too from by omega) (show x.too ≤ 65537 from by omega)) (q0 := 0) rfl rfl w1015 w1014 w1016 w1017 w328 rfl rfl ⟨⟨by decide, by decide⟩, rfl⟩ ⟨(Nat.le_of_ble_eq_true rfl), (Nat.le_of_ble_eq_true rfl)⟩ rfl hl.1 rfl (Nat.le_of_ble_eq_true rfl) d_M_function_179 ⟨(Nat.le_of_ble_eq_true rfl), (Nat.le_of_ble_eq_true rfl)⟩) hP hD hS hA (fun r82 u83 H locs hp9 hP hD hS => ?_)
                      have hP : va_P D vwCl (MW dA h ad x) H := hP
                      have hD : va_D A (MW dA h ad x) := hD
                      replace hp9 : bI (x.stB 102 105 114) = r82 := Eq.symm hp9
                      subst hp9
                      refine lv_if_eq hx hb d_M_function_182 (tgt := 200) rfl (fun g84 => ?_) (fun g84 => ?_)
                      · have g84 := bI_0 g84
                        refine lv_iconst (v := (-1)) hx hb d_M_function_200 (by decide) ?_
                        exact rfI hx hb hr hlk hS () (by unfold MS.fnI MS.fn5 MS.fn6; rw [n1]; simp [g1, g2, g7, g51, g68, g71, g77, (of_decide_eq_false (t1.trans g81) : ¬ x.atZ ((nI x.too) - 1) = 116), g84]) hP hD (Nat.le_of_ble_eq_true rfl) (Nat.le_of_ble_eq_true rfl) d_M_function_201
                      · have g84 := bI_n0 g84
                        refine lv_iload_n hx hb d_M_function_185 rfl (lv_at hl 4 rfl) ?_
                        refine lv_bipush (v := 115) hx hb d_M_function_186 (by decide) ?_
                        refine lv_icmp_ne hx hb d_M_function_188 (tgt := 200) rfl (fun h9 => absurd g77 h9) (fun _ => ?_)
                        refine lv_iload hx hb d_M_function_191 (lv_at hl 0 rfl) ?_
                        refine lv_if_eq hx hb d_M_function_193 (tgt := 200) rfl (fun _ => ?_) (fun h9 => absurd (by rw [g81]; decide) h9)
                        refine lv_iconst (v := (-1)) hx hb d_M_function_200 (by decide) ?_
                        exact rfI hx hb hr hlk hS () (by unfold MS.fnI MS.fn5 MS.fn6; rw [n1]; simp [g1, g2, g7, g51, g68, g71, g77, (of_decide_eq_false (t1.trans g81) : ¬ x.atZ ((nI x.too) - 1) = 116), g84]) hP hD (Nat.le_of_ble_eq_true rfl) (Nat.le_of_ble_eq_true rfl) d_M_function_201
                    · have g81 := bI_n0 g81
                      refine lv_iconst (v := 2) hx hb d_M_function_168 (by decide) ?_
                      refine lv_goto hx hb d_M_function_169 (tgt := 201) rfl ?_
                      exact rfI hx hb hr hlk hS () (by unfold MS.fnI MS.fn5 MS.fn6; rw [n1]; simp [g1, g2, g7, g51, g68, g71, g77, (of_decide_eq_true (t1.trans g81) : x.atZ ((nI x.too) - 1) = 116)]) hP hD (Nat.le_of_ble_eq_true rfl) (Nat.le_of_ble_eq_true rfl) d_M_function_201
              · have g68 := g68
                refine lv_iload hx hb d_M_function_135 (lv_at hl 0 rfl) ?_
                refine lv_if_eq hx hb d_M_function_137 (tgt := 144) rfl (fun g85 => ?_) (fun g85 => ?_)
                · have g85 := bI_0 g85
                  refine lv_aload_n hx hb d_M_function_144 rfl (lv_at hl 1 rfl) ?_
                  refine lv_bipush (v := 108) hx hb d_M_function_145 (by decide) ?_
                  refine lv_bipush (v := 101) hx hb d_M_function_147 (by decide) ?_
                  refine lv_bipush (v := 97) hx hb d_M_function_149 (by decide) ?_
                  refine jfI (rnV (As := [.int 108, .int 101, .int 97]) (rest := []) hx hb hml hown hE hK (hN _ _ hS) hP hD (k_isStart l D dA H.size h ad x 108 101 97 (show x.length ≤ 65536 from by omega) (show x.frm ≤ x.too from by omega) (show x.too ≤ 65537 from by omega)) (q0 := 0) rfl rfl w1015 w1014 w1016 w1017 w328 rfl rfl ⟨⟨by decide, by decide⟩, rfl⟩ ⟨(Nat.le_of_ble_eq_true rfl), (Nat.le_of_ble_eq_true rfl)⟩ rfl hl.1 rfl (Nat.le_of_ble_eq_true rfl) d_M_function_151 ⟨(Nat.le_of_ble_eq_true rfl), (Nat.le_of_ble_eq_true rfl)⟩) hP hD hS hA (fun r86 u87 H locs hp9 hP hD hS => ?_)
                  have hP : va_P D vwCl (MW dA h ad x) H := hP
                  have hD : va_D A (MW dA h ad x) := hD
                  replace hp9 : bI (x.stB 108 101 97) = r86 := Eq.symm hp9
                  subst hp9
                  refine lv_if_eq hx hb d_M_function_154 (tgt := 172) rfl (fun g88 => ?_) (fun g88 => ?_)
                  · have g88 := bI_0 g88
                    refine lv_aload_n hx hb d_M_function_172 rfl (lv_at hl 1 rfl) ?_
                    refine lv_bipush (v := 102) hx hb d_M_function_173 (by decide) ?_
                    refine lv_bipush (v := 105) hx hb d_M_function_175 (by decide) ?_
                    refine lv_bipush (v := 114) hx hb d_M_function_177 (by decide) ?_
                    refine jfI (rnV (As := [.int 102, .int 105, .int 114]) (rest := []) hx hb hml hown hE hK (hN _ _ hS) hP hD (k_isStart l D dA H.size h ad x 102 105 114 (show x.length ≤ 65536 from by omega) (show x.frm ≤ x.too from by omega) (show x.too ≤ 65537 from by omega)) (q0 := 0) rfl rfl w1015 w1014 w1016 w1017 w328 rfl rfl ⟨⟨by decide, by decide⟩, rfl⟩ ⟨(Nat.le_of_ble_eq_true rfl), (Nat.le_of_ble_eq_true rfl)⟩ rfl hl.1 rfl (Nat.le_of_ble_eq_true rfl) d_M_function_179 ⟨(Nat.le_of_ble_eq_true rfl), (Nat.le_of_ble_eq_true rfl)⟩) hP hD hS hA (fun r89 u90 H locs hp9 hP hD hS => ?_)
                    have hP : va_P D vwCl (MW dA h ad x) H := hP
                    have hD : va_D A (MW dA h ad x) := hD
                    replace hp9 : bI (x.stB 102 105 114) = r89 := Eq.symm hp9
                    subst hp9
                    refine lv_if_eq hx hb d_M_function_182 (tgt := 200) rfl (fun g91 => ?_) (fun g91 => ?_)
                    · have g91 := bI_0 g91
                      refine lv_iconst (v := (-1)) hx hb d_M_function_200 (by decide) ?_
                      exact rfI hx hb hr hlk hS () (by unfold MS.fnI MS.fn5 MS.fn6; rw [n1]; simp [g1, g2, g7, g51, g68, (of_decide_eq_false (t1.trans g85) : ¬ x.atZ ((nI x.too) - 1) = 116), g88, g91]) hP hD (Nat.le_of_ble_eq_true rfl) (Nat.le_of_ble_eq_true rfl) d_M_function_201
                    · have g91 := bI_n0 g91
                      refine lv_iload_n hx hb d_M_function_185 rfl (lv_at hl 4 rfl) ?_
                      refine lv_bipush (v := 115) hx hb d_M_function_186 (by decide) ?_
                      refine lv_icmp_ne hx hb d_M_function_188 (tgt := 200) rfl (fun g92 => ?_) (fun g92 => ?_)
                      · have g92 := g92
                        refine lv_iconst (v := (-1)) hx hb d_M_function_200 (by decide) ?_
                        exact rfI hx hb hr hlk hS () (by unfold MS.fnI MS.fn5 MS.fn6; rw [n1]; simp [g1, g2, g7, g51, g68, (of_decide_eq_false (t1.trans g85) : ¬ x.atZ ((nI x.too) - 1) = 116), g88, g91, g92]) hP hD (Nat.le_of_ble_eq_true rfl) (Nat.le_of_ble_eq_true rfl) d_M_function_201
                      · have g92 := g92
                        refine lv_iload hx hb d_M_function_191 (lv_at hl 0 rfl) ?_
                        refine lv_if_eq hx hb d_M_function_193 (tgt := 200) rfl (fun _ => ?_) (fun h9 => absurd (by rw [g85]; decide) h9)
                        refine lv_iconst (v := (-1)) hx hb d_M_function_200 (by decide) ?_
                        exact rfI hx hb hr hlk hS () (absurd (g68.symm.trans g92) (by decide)) hP hD (Nat.le_of_ble_eq_true rfl) (Nat.le_of_ble_eq_true rfl) d_M_function_201
                  · have g88 := bI_n0 g88
                    refine lv_iload_n hx hb d_M_function_157 rfl (lv_at hl 4 rfl) ?_
                    refine lv_bipush (v := 115) hx hb d_M_function_158 (by decide) ?_
                    refine lv_icmp_ne hx hb d_M_function_160 (tgt := 172) rfl (fun g93 => ?_) (fun g93 => ?_)
                    · have g93 := g93
                      refine lv_aload_n hx hb d_M_function_172 rfl (lv_at hl 1 rfl) ?_
                      refine lv_bipush (v := 102) hx hb d_M_function_173 (by decide) ?_
                      refine lv_bipush (v := 105) hx hb d_M_function_175 (by decide) ?_
                      refine lv_bipush (v := 114) hx hb d_M_function_177 (by decide) ?_
                      refine jfI (rnV (As := [.int 102, .int 105, .int 114]) (rest := []) hx hb hml hown hE hK (hN _ _ hS) hP hD (k_isStart l D dA H.size h ad x 102 105 114 (show x.length ≤ 65536 from by omega) (show x.frm ≤ x.too from by omega) (show x.too ≤ 65537 from by omega)) (q0 := 0) rfl rfl w1015 w1014 w1016 w1017 w328 rfl rfl ⟨⟨by decide, by decide⟩, rfl⟩ ⟨(Nat.le_of_ble_eq_true rfl), (Nat.le_of_ble_eq_true rfl)⟩ rfl hl.1 rfl (Nat.le_of_ble_eq_true rfl) d_M_function_179 ⟨(Nat.le_of_ble_eq_true rfl), (Nat.le_of_ble_eq_true rfl)⟩) hP hD hS hA (fun r94 u95 H locs hp9 hP hD hS => ?_)
                      have hP : va_P D vwCl (MW dA h ad x) H := hP
                      have hD : va_D A (MW dA h ad x) := hD
                      replace hp9 : bI (x.stB 102 105 114) = r94 := Eq.symm hp9
                      subst hp9
                      refine lv_if_eq hx hb d_M_function_182 (tgt := 200) rfl (fun g96 => ?_) (fun g96 => ?_)
                      · have g96 := bI_0 g96
                        refine lv_iconst (v := (-1)) hx hb d_M_function_200 (by decide) ?_
                        exact rfI hx hb hr hlk hS () (by unfold MS.fnI MS.fn5 MS.fn6; rw [n1]; simp [g1, g2, g7, g51, g68, (of_decide_eq_false (t1.trans g85) : ¬ x.atZ ((nI x.too) - 1) = 116), g88, g93, g96]) hP hD (Nat.le_of_ble_eq_true rfl) (Nat.le_of_ble_eq_true rfl) d_M_function_201
                      · have g96 := bI_n0 g96
                        refine lv_iload_n hx hb d_M_function_185 rfl (lv_at hl 4 rfl) ?_
                        refine lv_bipush (v := 115) hx hb d_M_function_186 (by decide) ?_
                        refine lv_icmp_ne hx hb d_M_function_188 (tgt := 200) rfl (fun _ => ?_) (fun h9 => absurd h9 g93)
                        refine lv_iconst (v := (-1)) hx hb d_M_function_200 (by decide) ?_
                        exact rfI hx hb hr hlk hS () (by unfold MS.fnI MS.fn5 MS.fn6; rw [n1]; simp [g1, g2, g7, g51, g68, (of_decide_eq_false (t1.trans g85) : ¬ x.atZ ((nI x.too) - 1) = 116), g88, g93, g96]) hP hD (Nat.le_of_ble_eq_true rfl) (Nat.le_of_ble_eq_true rfl) d_M_function_201
                    · have g93 := g93
                      refine lv_iload hx hb d_M_function_163 (lv_at hl 0 rfl) ?_
                      refine lv_if_eq hx hb d_M_function_165 (tgt := 172) rfl (fun _ => ?_) (fun h9 => absurd (by rw [g85]; decide) h9)
                      refine lv_aload_n hx hb d_M_function_172 rfl (lv_at hl 1 rfl) ?_
                      refine lv_bipush (v := 102) hx hb d_M_function_173 (by decide) ?_
                      refine lv_bipush (v := 105) hx hb d_M_function_175 (by decide) ?_
                      refine lv_bipush (v := 114) hx hb d_M_function_177 (by decide) ?_
                      refine jfI (rnV (As := [.int 102, .int 105, .int 114]) (rest := []) hx hb hml hown hE hK (hN _ _ hS) hP hD (k_isStart l D dA H.size h ad x 102 105 114 (show x.length ≤ 65536 from by omega) (show x.frm ≤ x.too from by omega) (show x.too ≤ 65537 from by omega)) (q0 := 0) rfl rfl w1015 w1014 w1016 w1017 w328 rfl rfl ⟨⟨by decide, by decide⟩, rfl⟩ ⟨(Nat.le_of_ble_eq_true rfl), (Nat.le_of_ble_eq_true rfl)⟩ rfl hl.1 rfl (Nat.le_of_ble_eq_true rfl) d_M_function_179 ⟨(Nat.le_of_ble_eq_true rfl), (Nat.le_of_ble_eq_true rfl)⟩) hP hD hS hA (fun r97 u98 H locs hp9 hP hD hS => ?_)
                      have hP : va_P D vwCl (MW dA h ad x) H := hP
                      have hD : va_D A (MW dA h ad x) := hD
                      replace hp9 : bI (x.stB 102 105 114) = r97 := Eq.symm hp9
                      subst hp9
                      refine lv_if_eq hx hb d_M_function_182 (tgt := 200) rfl (fun g99 => ?_) (fun g99 => ?_)
                      · have g99 := bI_0 g99
                        refine lv_iconst (v := (-1)) hx hb d_M_function_200 (by decide) ?_
                        exact rfI hx hb hr hlk hS () (absurd (g68.symm.trans g93) (by decide)) hP hD (Nat.le_of_ble_eq_true rfl) (Nat.le_of_ble_eq_true rfl) d_M_function_201
                      · have g99 := bI_n0 g99
                        refine lv_iload_n hx hb d_M_function_185 rfl (lv_at hl 4 rfl) ?_
                        refine lv_bipush (v := 115) hx hb d_M_function_186 (by decide) ?_
                        refine lv_icmp_ne hx hb d_M_function_188 (tgt := 200) rfl (fun h9 => absurd g93 h9) (fun _ => ?_)
                        refine lv_iload hx hb d_M_function_191 (lv_at hl 0 rfl) ?_
                        refine lv_if_eq hx hb d_M_function_193 (tgt := 200) rfl (fun _ => ?_) (fun h9 => absurd (by rw [g85]; decide) h9)
                        refine lv_iconst (v := (-1)) hx hb d_M_function_200 (by decide) ?_
                        exact rfI hx hb hr hlk hS () (absurd (g68.symm.trans g93) (by decide)) hP hD (Nat.le_of_ble_eq_true rfl) (Nat.le_of_ble_eq_true rfl) d_M_function_201
                · have g85 := bI_n0 g85
                  refine lv_iconst (v := 1) hx hb d_M_function_140 (by decide) ?_
                  refine lv_goto hx hb d_M_function_141 (tgt := 201) rfl ?_
                  exact rfI hx hb hr hlk hS () (by unfold MS.fnI MS.fn5 MS.fn6; rw [n1]; simp [g1, g2, g7, g51, g68, (of_decide_eq_true (t1.trans g85) : x.atZ ((nI x.too) - 1) = 116)]) hP hD (Nat.le_of_ble_eq_true rfl) (Nat.le_of_ble_eq_true rfl) d_M_function_201
        refine lv_iload_n hx hb d_M_function_98 rfl (lv_at hl 1 rfl) ?_
        refine lv_bipush (v := 116) hx hb d_M_function_99 (by decide) ?_
        refine lv_icmp_ne hx hb d_M_function_101 (tgt := 108) rfl (fun g100 => ?_) (fun g100 => ?_)
        · have g100 := g100
          refine lv_iconst (v := 0) hx hb d_M_function_108 (by decide) ?_
          exact J109 false (decide_eq_false g100) H _ ls hP hD hS (lv_sub hl [3, 2, 1, 0] rfl)
        · have g100 := g100
          refine lv_iconst (v := 1) hx hb d_M_function_104 (by decide) ?_
          refine lv_goto hx hb d_M_function_105 (tgt := 109) rfl ?_
          exact J109 true (decide_eq_true g100) H _ ls hP hD hS (lv_sub hl [3, 2, 1, 0] rfl)
      · have g2 := (nI_eq (a := n) (b := 4) (by omega) (by omega)).mp g2
        refine lv_aload_n hx hb d_M_function_54 rfl (lv_at hl 1 rfl) ?_
        refine lv_bipush (v := 109) hx hb d_M_function_55 (by decide) ?_
        refine lv_bipush (v := 111) hx hb d_M_function_57 (by decide) ?_
        refine lv_bipush (v := 115) hx hb d_M_function_59 (by decide) ?_
        refine lv_bipush (v := 116) hx hb d_M_function_61 (by decide) ?_
        refine lv_iconst (v := 4) hx hb d_M_function_63 (by decide) ?_
        refine jfI (rnV (As := [.int 109, .int 111, .int 115, .int 116, .int 4]) (rest := []) hx hb hml hown hE hK (hN _ _ hS) hP hD (k_isName l D dA H.size h ad x 109 111 115 116 4 (show x.length ≤ 65536 from by omega) (show x.frm ≤ x.too from by omega) (show x.too ≤ 65537 from by omega) (show 4 ≤ 4 from by omega)) (q0 := 0) rfl rfl w1019 w1018 w1020 w1021 w328 rfl rfl ⟨⟨by decide, by decide⟩, rfl⟩ ⟨(Nat.le_of_ble_eq_true rfl), (Nat.le_of_ble_eq_true rfl)⟩ rfl hl.1 rfl (Nat.le_of_ble_eq_true rfl) d_M_function_64 ⟨(Nat.le_of_ble_eq_true rfl), (Nat.le_of_ble_eq_true rfl)⟩) hP hD hS hA (fun r101 u102 H locs hp9 hP hD hS => ?_)
        have hP : va_P D vwCl (MW dA h ad x) H := hP
        have hD : va_D A (MW dA h ad x) := hD
        replace hp9 : bI (x.nmB 109 111 115 116 4) = r101 := Eq.symm hp9
        subst hp9
        refine lv_if_eq hx hb d_M_function_67 (tgt := 74) rfl (fun g103 => ?_) (fun g103 => ?_)
        · have g103 := bI_0 g103
          refine lv_iconst (v := (-1)) hx hb d_M_function_74 (by decide) ?_
          exact rfI hx hb hr hlk hS () (by unfold MS.fnI MS.fn5 MS.fn6; rw [n1]; simp [g1, g2, g103]) hP hD (Nat.le_of_ble_eq_true rfl) (Nat.le_of_ble_eq_true rfl) d_M_function_75
        · have g103 := bI_n0 g103
          refine lv_iconst (v := 3) hx hb d_M_function_70 (by decide) ?_
          refine lv_goto hx hb d_M_function_71 (tgt := 75) rfl ?_
          exact rfI hx hb hr hlk hS () (by unfold MS.fnI MS.fn5 MS.fn6; rw [n1]; simp [g1, g2, g103]) hP hD (Nat.le_of_ble_eq_true rfl) (Nat.le_of_ble_eq_true rfl) d_M_function_75
    · have g1 := (nI_eq (a := n) (b := 3) (by omega) (by omega)).mp g1
      refine lv_aload_n hx hb d_M_function_27 rfl (lv_at hl 1 rfl) ?_
      refine lv_bipush (v := 115) hx hb d_M_function_28 (by decide) ?_
      refine lv_bipush (v := 117) hx hb d_M_function_30 (by decide) ?_
      refine lv_bipush (v := 109) hx hb d_M_function_32 (by decide) ?_
      refine lv_bipush (v := 32) hx hb d_M_function_34 (by decide) ?_
      refine lv_iconst (v := 3) hx hb d_M_function_36 (by decide) ?_
      refine jfI (rnV (As := [.int 115, .int 117, .int 109, .int 32, .int 3]) (rest := []) hx hb hml hown hE hK (hN _ _ hS) hP hD (k_isName l D dA H.size h ad x 115 117 109 32 3 (show x.length ≤ 65536 from by omega) (show x.frm ≤ x.too from by omega) (show x.too ≤ 65537 from by omega) (show 3 ≤ 4 from by omega)) (q0 := 0) rfl rfl w1019 w1018 w1020 w1021 w328 rfl rfl ⟨⟨by decide, by decide⟩, rfl⟩ ⟨(Nat.le_of_ble_eq_true rfl), (Nat.le_of_ble_eq_true rfl)⟩ rfl hl.1 rfl (Nat.le_of_ble_eq_true rfl) d_M_function_37 ⟨(Nat.le_of_ble_eq_true rfl), (Nat.le_of_ble_eq_true rfl)⟩) hP hD hS hA (fun r104 u105 H locs hp9 hP hD hS => ?_)
      have hP : va_P D vwCl (MW dA h ad x) H := hP
      have hD : va_D A (MW dA h ad x) := hD
      replace hp9 : bI (x.nmB 115 117 109 32 3) = r104 := Eq.symm hp9
      subst hp9
      refine lv_if_eq hx hb d_M_function_40 (tgt := 47) rfl (fun g106 => ?_) (fun g106 => ?_)
      · have g106 := bI_0 g106
        refine lv_iconst (v := (-1)) hx hb d_M_function_47 (by decide) ?_
        exact rfI hx hb hr hlk hS () (by unfold MS.fnI MS.fn5 MS.fn6; rw [n1]; simp [g1, g106]) hP hD (Nat.le_of_ble_eq_true rfl) (Nat.le_of_ble_eq_true rfl) d_M_function_48
      · have g106 := bI_n0 g106
        refine lv_iconst (v := 0) hx hb d_M_function_43 (by decide) ?_
        refine lv_goto hx hb d_M_function_44 (tgt := 48) rfl ?_
        exact rfI hx hb hr hlk hS () (by unfold MS.fnI MS.fn5 MS.fn6; rw [n1]; simp [g1, g106]) hP hD (Nat.le_of_ble_eq_true rfl) (Nat.le_of_ble_eq_true rfl) d_M_function_48
  refine lv_aload_n hx hb d_M_function_0 rfl (lv_at hl 0 rfl) ?_
  refine gF (v := .int x.kind) hx hb hown hE hK hP 0 rfl rfl layM 44 (by decide) w469 rfl d_M_function_1 ?_
  refine lv_iconst (v := 2) hx hb d_M_function_4 (by decide) ?_
  refine lv_icmp_ne hx hb d_M_function_5 (tgt := 20) rfl (fun g107 => ?_) (fun g107 => ?_)
  · have g107 := g107
    refine lv_iconst (v := 0) hx hb d_M_function_20 (by decide) ?_
    exact J21 0 (if_neg g107) (by omega) H _ ls hP hD hS (lv_sub hl [0] rfl)
  · have g107 := g107
    refine lv_aload_n hx hb d_M_function_8 rfl (lv_at hl 0 rfl) ?_
    refine gF (v := .int (nI x.too)) hx hb hown hE hK hP 0 rfl rfl layM 46 (by decide) w463 rfl d_M_function_9 ?_
    refine lv_aload_n hx hb d_M_function_12 rfl (lv_at hl 0 rfl) ?_
    refine gF (v := .int (nI x.frm)) hx hb hown hE hK hP 0 rfl rfl layM 45 (by decide) w464 rfl d_M_function_13 ?_
    refine lv_isub hx hb d_M_function_16 (tpi (y := nI (x.too - x.frm)) (pk_sub (a := x.too) (b := x.frm) (by omega)) ?_)
    refine lv_goto hx hb d_M_function_17 (tgt := 21) rfl ?_
    exact J21 (x.too - x.frm) (if_pos g107) (by omega) H _ ls hP hD hS (lv_sub hl [0] rfl)
