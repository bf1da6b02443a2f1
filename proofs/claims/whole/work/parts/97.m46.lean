def MS.as0 (x : MS) (a b : Int64) (n : Nat) : MS := MS.s_isTable (MS.s_windows (MS.s_width (MS.s_windowsFrom (MS.s_faultPlace (MS.s_faultCode (MS.s_cod x 0) 0) 0) a) b) n) false
/-- the table kept -/
def MS.kpS (x : MS) : MS := MS.s_isShown (MS.s_shown (MS.s_rowLengths (MS.s_rowTexts (MS.s_shownWindows (MS.s_rows (MS.s_names (MS.s_isTable (MS.s_valueLength x (x.ktR (x.tableRows 0)).2.2) true) (x.tableNames 0)) (x.tableRows 0)) x.windows) (x.ktR (x.tableRows 0)).2.1) (x.ktR (x.tableRows 0)).1) (shG x.cells x.shown x.windows (x.tableRows 0))) (shG x.isCell x.isShown x.windows (x.tableRows 0))
def MS.as2 (m : Bool × MS) : Int32 × MS := if m.1 = true then (nI (m.2.tableRows 0), MS.s_length m.2.kpS 0) else (-1, MS.s_length m.2 0)
/-- a question asked: the answer, the state behind it -/
def MS.asF (x : MS) (a b : Int64) (n : Nat) : Int32 × MS := if ((x.as0 a b n).quF false).1 = true then MS.as2 (((x.as0 a b n).quF false).2.quF true) else (-1, MS.s_length ((x.as0 a b n).quF false).2 0)
/-- what asking wants -/
def MS.aW (x : MS) : Prop := x.length ≤ 65536 ∧ byteF x.tape ∧ x.nmG ∧ x.seriesCount ≤ 256 ∧ (∀ q : Nat, q < x.seriesCount → x.tOK q) ∧ x.points ≤ 12000 ∧ (∀ q : Nat, q < x.points → x.pointSeries q < 256) ∧ (∀ q : Nat, x.keySeries q < 256) ∧ byteF x.texts
theorem as_1 {x : MS} {a b : Int64} {n : Nat} (h : x.aW) : (x.as0 a b n).qW false := ⟨h.1, rfl, h.2.1, h.2.2.1, fun z => by cases z⟩
theorem as_2 {x v : MS} {a b : Int64} {n : Nat} (h : x.aW) (hb : 1 ≤ b) (hn : n ≤ 64) (hq : (x.as0 a b n).quF false = (true, v)) : v.qW true := by
  obtain ⟨d1, d2, -⟩ := qu_in (as_1 h) hq
  obtain ⟨h1, h2, h3, h4, h5, h6, h7, h8, h9⟩ := h
  have k1 : ((MS.s_works (x.as0 a b n) false).qkS v).length ≤ 65536 ∧ byteF ((MS.s_works (x.as0 a b n) false).qkS v).tape ∧ ((MS.s_works (x.as0 a b n) false).qkS v).seriesCount ≤ 256 ∧ (∀ q : Nat, q < ((MS.s_works (x.as0 a b n) false).qkS v).seriesCount → ((MS.s_works (x.as0 a b n) false).qkS v).tOK q) ∧ ((MS.s_works (x.as0 a b n) false).qkS v).points ≤ 12000 ∧ (∀ q : Nat, q < ((MS.s_works (x.as0 a b n) false).qkS v).points → ((MS.s_works (x.as0 a b n) false).qkS v).pointSeries q < 256) ∧ ((MS.s_works (x.as0 a b n) false).qkS v).windows ≤ 64 ∧ 1 ≤ ((MS.s_works (x.as0 a b n) false).qkS v).width := ⟨h1, h2, h4, h5, h6, h7, hn, hb⟩
  rw [← show v = (MS.s_works (x.as0 a b n) false).qkS v from d2] at k1
  obtain ⟨e1, e2, e3, e4, e5, e6, e7, e8⟩ := k1
  refine ⟨e1, d1.2.2.2, e2, d1.2.2.1, fun _ => ⟨e3, e4, e5, e6, e7, e8, ?_⟩⟩
  exact d1.2.2.1.2
theorem as_3 {x v : MS} (h : x.qW true) (hb : byteF x.texts) (hq : x.quF true = (true, v)) : v.tableNames 0 ≤ 6 ∧ v.tableRows 0 ≤ 256 ∧ v.windows ≤ 64 ∧ (∀ q : Nat, q < v.tableRows 0 → v.tableNames 0 = 0 ∨ v.tOK (v.rowSeries q)) ∧ (∀ k : Nat, k < v.tableNames 0 → v.nameFroms k + v.nameLengths k ≤ 65536) ∧ byteF v.texts := by
  obtain ⟨d1, d2, d3⟩ := qu_in h hq
  have w : v.works = true := qk_f d2 MS.works rfl
  have hI := d1.2.1 w
  have h5 := d1.1.2.2.2.2 w
  have h2 := d1.1.2.1
  rw [d3] at h2 h5
  have h2 : 0 = v.opn := h2
  have t0 := hI.2.2.2.2.2.2.2 0 (by omega)
  refine ⟨t0.2.1, t0.1, hI.2.2.2.2.1, fun q hq => ?_, fun k _ => d1.2.2.1.1 k, ?_⟩
  · have := t0.2.2 q hq
    rw [show 256 * 0 + q = q by omega] at this
    exact this
  · rw [qk_f d2 MS.texts rfl]
    exact hb
theorem d_M_ask_8 : decode prog_14_method_91_code 8 = .ok (.iconst 1, 1) := by decide +kernel
theorem d_M_ask_9 : decode prog_14_method_91_code 9 = .ok (.goto 49, 3) := by decide +kernel
set_option maxHeartbeats 4000000 in
set_option maxRecDepth 100000 in
theorem k_ask_1 (l : Launch) (D : va_G) (dA : Nat → ClassId) (sz : Nat) (h : Nat) (ad : Nat → Nat) (x : MS) (a : Int64) (b : Int64) (n : Int32) (ho : x.on = false) : Met l ⟨"SeriesVaultModel", "ask", "(JJI)I"⟩ [Cond.code ⟨"SeriesVaultModel", "ask", "(JJI)I"⟩ prog_14_method_91_code 7 (some FieldType.int)] { frames := 1, cells := 0, slots := 0, locals := 0 } (pC D dA [.ref h, .long a, .long b, .int n] (MW dA h ad x) sz) (va_Qi (fun (r9 : Int32) (u9 : Unit) => r9 = 0) (fun (u9 : Unit) t9 => bW D (va_A (MW dA h ad x) sz) (MW dA h ad (MS.s_cod x 1)) t9) (va_A (MW dA h ad x) sz)) 0 0 (va_A (MW dA h ad x) sz) := by
  refine mkC (y := ⟨"SeriesVaultModel", "ask", "(JJI)I"⟩) (cc := prog_14_method_91_code) (maxL := 7) (av := [.ref h, .long a, .long b, .int n]) (ws := MW dA h ad x) (sz := sz) (Qc := fun A => va_Qi (fun (r9 : Int32) (u9 : Unit) => r9 = 0) (fun (u9 : Unit) t9 => bW D A (MW dA h ad (MS.s_cod x 1)) t9) A) (by decide) (Nat.le_of_ble_eq_true rfl) ?_
  intro A p e s m below meth c ls hsz hB
  obtain ⟨hx, hb, hr, hml, hown, hin, hlk, hE, hK, hP, hD, hS, hA, hN, hl⟩ := hB
  have hown : s.vm.findClass "SeriesVaultModel" = some m.cls := hown
  have hl : lv_has ls 7 [(0, .ref h), (1, .long a), (3, .long b), (5, .int n)] := hl
  obtain ⟨H, hH⟩ : ∃ z, z = s.heap := ⟨_, rfl⟩
  have hP : va_P D vwCl (MW dA h ad x) H := by rw [hH]; exact hP
  have hS : va_S A s.heap H [] := by rw [hH]; exact hS
  rw [← hH]
  refine lv_aload_n hx hb d_M_ask_0 rfl (lv_at hl 0 rfl) ?_
  refine lv_aload_n hx hb d_M_ask_1 rfl (lv_at hl 0 rfl) ?_
  refine gF (v := .int (bI x.on)) hx hb hown hE hK hP 0 rfl rfl layM 7 (by decide) w324 rfl d_M_ask_2 ?_
  refine lv_if_ne hx hb d_M_ask_5 (tgt := 12) rfl (fun h9 => absurd (by rw [ho]; decide) h9) (fun _ => ?_)
  refine lv_iconst (v := 1) hx hb d_M_ask_8 (by decide) ?_
  refine lv_goto hx hb d_M_ask_9 (tgt := 58) rfl ?_
  refine pF (v := .int 1) hx hb hown hE hK hP hD hS 0 rfl rfl layM tyM tokM nmM 0 (by decide) w319 rfl rfl rfl (Nat.le_of_ble_eq_true rfl) d_M_ask_58 (fun H locs hP hD hS => ?_)
  have hP : va_P D vwCl (MW dA h ad (MS.s_cod x 1)) H := hP
  have hD : va_D A (MW dA h ad (MS.s_cod x 1)) := hD
  refine lv_aload_n hx hb d_M_ask_61 rfl (lv_at hl 0 rfl) ?_
  refine gF (v := .int 1) hx hb hown hE hK hP 0 rfl rfl layM 0 (by decide) w319 rfl d_M_ask_62 ?_
  refine lv_if_le hx hb d_M_ask_65 (tgt := 70) rfl (fun h9 => absurd h9 (by decide)) (fun _ => ?_)
  refine lv_iconst (v := 0) hx hb d_M_ask_68 (by decide) ?_
  exact rfI hx hb hr hlk hS () rfl hP hD (Nat.le_of_ble_eq_true rfl) (Nat.le_of_ble_eq_true rfl) d_M_ask_69
set_option maxHeartbeats 4000000 in
set_option maxRecDepth 100000 in
theorem k_ask_2 (l : Launch) (D : va_G) (dA : Nat → ClassId) (sz : Nat) (h : Nat) (ad : Nat → Nat) (x : MS) (a : Int64) (b : Int64) (n : Int32) (ho : x.on = true) (h0 : a < 0 ∨ 1099511627775 < a ∨ b < 1 ∨ 1099511627775 < b ∨ n < 1 ∨ 64 < n) : Met l ⟨"SeriesVaultModel", "ask", "(JJI)I"⟩ [Cond.code ⟨"SeriesVaultModel", "ask", "(JJI)I"⟩ prog_14_method_91_code 7 (some FieldType.int)] { frames := 1, cells := 0, slots := 0, locals := 0 } (pC D dA [.ref h, .long a, .long b, .int n] (MW dA h ad x) sz) (va_Qi (fun (r9 : Int32) (u9 : Unit) => r9 = 0) (fun (u9 : Unit) t9 => bW D (va_A (MW dA h ad x) sz) (MW dA h ad (MS.s_cod x 2)) t9) (va_A (MW dA h ad x) sz)) 0 0 (va_A (MW dA h ad x) sz) := by
  refine mkC (y := ⟨"SeriesVaultModel", "ask", "(JJI)I"⟩) (cc := prog_14_method_91_code) (maxL := 7) (av := [.ref h, .long a, .long b, .int n]) (ws := MW dA h ad x) (sz := sz) (Qc := fun A => va_Qi (fun (r9 : Int32) (u9 : Unit) => r9 = 0) (fun (u9 : Unit) t9 => bW D A (MW dA h ad (MS.s_cod x 2)) t9) A) (by decide) (Nat.le_of_ble_eq_true rfl) ?_
  intro A p e s m below meth c ls hsz hB
  obtain ⟨hx, hb, hr, hml, hown, hin, hlk, hE, hK, hP, hD, hS, hA, hN, hl⟩ := hB
  have hown : s.vm.findClass "SeriesVaultModel" = some m.cls := hown
  have hl : lv_has ls 7 [(0, .ref h), (1, .long a), (3, .long b), (5, .int n)] := hl
  obtain ⟨H, hH⟩ : ∃ z, z = s.heap := ⟨_, rfl⟩
  have hP : va_P D vwCl (MW dA h ad x) H := by rw [hH]; exact hP
  have hS : va_S A s.heap H [] := by rw [hH]; exact hS
  rw [← hH]
  refine lv_aload_n hx hb d_M_ask_0 rfl (lv_at hl 0 rfl) ?_
  refine lv_aload_n hx hb d_M_ask_1 rfl (lv_at hl 0 rfl) ?_
  refine gF (v := .int (bI x.on)) hx hb hown hE hK hP 0 rfl rfl layM 7 (by decide) w324 rfl d_M_ask_2 ?_
  refine lv_if_ne hx hb d_M_ask_5 (tgt := 12) rfl (fun _ => ?_) (fun h9 => absurd h9 (by rw [ho]; decide))
  refine lv_lload_n hx hb d_M_ask_12 rfl (lv_at hl 1 rfl) ?_
  refine lv_lconst (v := 0) hx hb d_M_ask_13 (by decide) ?_
  refine W.lcmp hx hb d_M_ask_14 ?_
  refine lv_if_lt hx hb d_M_ask_15 (tgt := 53) rfl (fun g1 => ?_) (fun g1 => ?_)
  · have g1 := (lg_cmp_lt _ _).mp g1
    refine lv_iconst (v := 2) hx hb d_M_ask_53 (by decide) ?_
    refine lv_goto hx hb d_M_ask_54 (tgt := 58) rfl ?_
    refine pF (v := .int 2) hx hb hown hE hK hP hD hS 0 rfl rfl layM tyM tokM nmM 0 (by decide) w319 rfl rfl rfl (Nat.le_of_ble_eq_true rfl) d_M_ask_58 (fun H locs hP hD hS => ?_)
    have hP : va_P D vwCl (MW dA h ad (MS.s_cod x 2)) H := hP
    have hD : va_D A (MW dA h ad (MS.s_cod x 2)) := hD
    refine lv_aload_n hx hb d_M_ask_61 rfl (lv_at hl 0 rfl) ?_
    refine gF (v := .int 2) hx hb hown hE hK hP 0 rfl rfl layM 0 (by decide) w319 rfl d_M_ask_62 ?_
    refine lv_if_le hx hb d_M_ask_65 (tgt := 70) rfl (fun h9 => absurd h9 (by decide)) (fun _ => ?_)
    refine lv_iconst (v := 0) hx hb d_M_ask_68 (by decide) ?_
    exact rfI hx hb hr hlk hS () rfl hP hD (Nat.le_of_ble_eq_true rfl) (Nat.le_of_ble_eq_true rfl) d_M_ask_69
  · have g1 := mt (lg_cmp_lt _ _).mpr g1
    refine lv_lload_n hx hb d_M_ask_18 rfl (lv_at hl 1 rfl) ?_
    refine lv_ldc2 (v := 1099511627775) hx hb hown (hE.t w450 rfl) d_M_ask_19 ?_
    refine W.lcmp hx hb d_M_ask_22 ?_
    refine lv_if_gt hx hb d_M_ask_23 (tgt := 53) rfl (fun g2 => ?_) (fun g2 => ?_)
    · have g2 := (lg_cmp_gt _ _).mp g2
      refine lv_iconst (v := 2) hx hb d_M_ask_53 (by decide) ?_
      refine lv_goto hx hb d_M_ask_54 (tgt := 58) rfl ?_
      refine pF (v := .int 2) hx hb hown hE hK hP hD hS 0 rfl rfl layM tyM tokM nmM 0 (by decide) w319 rfl rfl rfl (Nat.le_of_ble_eq_true rfl) d_M_ask_58 (fun H locs hP hD hS => ?_)
      have hP : va_P D vwCl (MW dA h ad (MS.s_cod x 2)) H := hP
      have hD : va_D A (MW dA h ad (MS.s_cod x 2)) := hD
      refine lv_aload_n hx hb d_M_ask_61 rfl (lv_at hl 0 rfl) ?_
      refine gF (v := .int 2) hx hb hown hE hK hP 0 rfl rfl layM 0 (by decide) w319 rfl d_M_ask_62 ?_
      refine lv_if_le hx hb d_M_ask_65 (tgt := 70) rfl (fun h9 => absurd h9 (by decide)) (fun _ => ?_)
      refine lv_iconst (v := 0) hx hb d_M_ask_68 (by decide) ?_
      exact rfI hx hb hr hlk hS () rfl hP hD (Nat.le_of_ble_eq_true rfl) (Nat.le_of_ble_eq_true rfl) d_M_ask_69
    · have g2 := mt (lg_cmp_gt _ _).mpr g2
      refine lv_lload_n hx hb d_M_ask_26 rfl (lv_at hl 2 rfl) ?_
      refine lv_lconst (v := 1) hx hb d_M_ask_27 (by decide) ?_
      refine W.lcmp hx hb d_M_ask_28 ?_
      refine lv_if_lt hx hb d_M_ask_29 (tgt := 53) rfl (fun g3 => ?_) (fun g3 => ?_)
      · have g3 := (lg_cmp_lt _ _).mp g3
        refine lv_iconst (v := 2) hx hb d_M_ask_53 (by decide) ?_
        refine lv_goto hx hb d_M_ask_54 (tgt := 58) rfl ?_
        refine pF (v := .int 2) hx hb hown hE hK hP hD hS 0 rfl rfl layM tyM tokM nmM 0 (by decide) w319 rfl rfl rfl (Nat.le_of_ble_eq_true rfl) d_M_ask_58 (fun H locs hP hD hS => ?_)
        have hP : va_P D vwCl (MW dA h ad (MS.s_cod x 2)) H := hP
        have hD : va_D A (MW dA h ad (MS.s_cod x 2)) := hD
        refine lv_aload_n hx hb d_M_ask_61 rfl (lv_at hl 0 rfl) ?_
        refine gF (v := .int 2) hx hb hown hE hK hP 0 rfl rfl layM 0 (by decide) w319 rfl d_M_ask_62 ?_
        refine lv_if_le hx hb d_M_ask_65 (tgt := 70) rfl (fun h9 => absurd h9 (by decide)) (fun _ => ?_)
        refine lv_iconst (v := 0) hx hb d_M_ask_68 (by decide) ?_
        exact rfI hx hb hr hlk hS () rfl hP hD (Nat.le_of_ble_eq_true rfl) (Nat.le_of_ble_eq_true rfl) d_M_ask_69
      · have g3 := mt (lg_cmp_lt _ _).mpr g3
        refine lv_lload_n hx hb d_M_ask_32 rfl (lv_at hl 2 rfl) ?_
        refine lv_ldc2 (v := 1099511627775) hx hb hown (hE.t w450 rfl) d_M_ask_33 ?_
        refine W.lcmp hx hb d_M_ask_36 ?_
        refine lv_if_gt hx hb d_M_ask_37 (tgt := 53) rfl (fun g4 => ?_) (fun g4 => ?_)
        · have g4 := (lg_cmp_gt _ _).mp g4
          refine lv_iconst (v := 2) hx hb d_M_ask_53 (by decide) ?_
          refine lv_goto hx hb d_M_ask_54 (tgt := 58) rfl ?_
          refine pF (v := .int 2) hx hb hown hE hK hP hD hS 0 rfl rfl layM tyM tokM nmM 0 (by decide) w319 rfl rfl rfl (Nat.le_of_ble_eq_true rfl) d_M_ask_58 (fun H locs hP hD hS => ?_)
          have hP : va_P D vwCl (MW dA h ad (MS.s_cod x 2)) H := hP
          have hD : va_D A (MW dA h ad (MS.s_cod x 2)) := hD
          refine lv_aload_n hx hb d_M_ask_61 rfl (lv_at hl 0 rfl) ?_
          refine gF (v := .int 2) hx hb hown hE hK hP 0 rfl rfl layM 0 (by decide) w319 rfl d_M_ask_62 ?_
          refine lv_if_le hx hb d_M_ask_65 (tgt := 70) rfl (fun h9 => absurd h9 (by decide)) (fun _ => ?_)
          refine lv_iconst (v := 0) hx hb d_M_ask_68 (by decide) ?_
          exact rfI hx hb hr hlk hS () rfl hP hD (Nat.le_of_ble_eq_true rfl) (Nat.le_of_ble_eq_true rfl) d_M_ask_69
        · have g4 := mt (lg_cmp_gt _ _).mpr g4
          refine lv_iload hx hb d_M_ask_40 (lv_at hl 3 rfl) ?_
          refine lv_iconst (v := 1) hx hb d_M_ask_42 (by decide) ?_
          refine lv_icmp_lt hx hb d_M_ask_43 (tgt := 53) rfl (fun g5 => ?_) (fun g5 => ?_)
          · have g5 := g5
            refine lv_iconst (v := 2) hx hb d_M_ask_53 (by decide) ?_
            refine lv_goto hx hb d_M_ask_54 (tgt := 58) rfl ?_
            refine pF (v := .int 2) hx hb hown hE hK hP hD hS 0 rfl rfl layM tyM tokM nmM 0 (by decide) w319 rfl rfl rfl (Nat.le_of_ble_eq_true rfl) d_M_ask_58 (fun H locs hP hD hS => ?_)
            have hP : va_P D vwCl (MW dA h ad (MS.s_cod x 2)) H := hP
            have hD : va_D A (MW dA h ad (MS.s_cod x 2)) := hD
            refine lv_aload_n hx hb d_M_ask_61 rfl (lv_at hl 0 rfl) ?_
            refine gF (v := .int 2) hx hb hown hE hK hP 0 rfl rfl layM 0 (by decide) w319 rfl d_M_ask_62 ?_
            refine lv_if_le hx hb d_M_ask_65 (tgt := 70) rfl (fun h9 => absurd h9 (by decide)) (fun _ => ?_)
            refine lv_iconst (v := 0) hx hb d_M_ask_68 (by decide) ?_
            exact rfI hx hb hr hlk hS () rfl hP hD (Nat.le_of_ble_eq_true rfl) (Nat.le_of_ble_eq_true rfl) d_M_ask_69
          · have g5 := g5
            refine lv_iload hx hb d_M_ask_46 (lv_at hl 3 rfl) ?_
            refine lv_bipush (v := 64) hx hb d_M_ask_48 (by decide) ?_
            refine lv_icmp_le hx hb d_M_ask_50 (tgt := 57) rfl (fun h9 => absurd h9 (Int32.not_le.mpr ((((((h0.resolve_left g1).resolve_left g2).resolve_left g3).resolve_left g4).resolve_left g5)))) (fun _ => ?_)
            refine lv_iconst (v := 2) hx hb d_M_ask_53 (by decide) ?_
            refine lv_goto hx hb d_M_ask_54 (tgt := 58) rfl ?_
            refine pF (v := .int 2) hx hb hown hE hK hP hD hS 0 rfl rfl layM tyM tokM nmM 0 (by decide) w319 rfl rfl rfl (Nat.le_of_ble_eq_true rfl) d_M_ask_58 (fun H locs hP hD hS => ?_)
            have hP : va_P D vwCl (MW dA h ad (MS.s_cod x 2)) H := hP
            have hD : va_D A (MW dA h ad (MS.s_cod x 2)) := hD
            refine lv_aload_n hx hb d_M_ask_61 rfl (lv_at hl 0 rfl) ?_
            refine gF (v := .int 2) hx hb hown hE hK hP 0 rfl rfl layM 0 (by decide) w319 rfl d_M_ask_62 ?_
            refine lv_if_le hx hb d_M_ask_65 (tgt := 70) rfl (fun h9 => absurd h9 (by decide)) (fun _ => ?_)
            refine lv_iconst (v := 0) hx hb d_M_ask_68 (by decide) ?_
            exact rfI hx hb hr hlk hS () rfl hP hD (Nat.le_of_ble_eq_true rfl) (Nat.le_of_ble_eq_true rfl) d_M_ask_69
theorem d_M_ask_109 : decode prog_14_method_91_code 109 = .ok (.aload_n 0, 1) := by decide +kernel
theorem d_M_ask_110 : decode prog_14_method_91_code 110 = .ok (.iconst 1, 1) := by decide +kernel
theorem d_M_ask_111 : decode prog_14_method_91_code 111 = .ok (.invokevirtual 504, 3) := by decide +kernel
theorem d_M_ask_114 : decode prog_14_method_91_code 114 = .ok (.ifCond .eq 7, 3) := by decide +kernel
theorem d_M_ask_117 : decode prog_14_method_91_code 117 = .ok (.iconst 1, 1) := by decide +kernel
theorem d_M_ask_118 : decode prog_14_method_91_code 118 = .ok (.goto 4, 3) := by decide +kernel
theorem d_M_ask_129 : decode prog_14_method_91_code 129 = .ok (.aload_n 0, 1) := by decide +kernel
theorem d_M_ask_130 : decode prog_14_method_91_code 130 = .ok (.invokevirtual 508, 3) := by decide +kernel
theorem d_M_ask_143 : decode prog_14_method_91_code 143 = .ok (.aload_n 0, 1) := by decide +kernel
theorem d_M_ask_144 : decode prog_14_method_91_code 144 = .ok (.getfield 498, 3) := by decide +kernel
theorem d_M_ask_147 : decode prog_14_method_91_code 147 = .ok (.goto 4, 3) := by decide +kernel
theorem w1077 : Cond.methodLink "SeriesVaultModel" 508 ⟨"SeriesVaultModel", "keepTable", "()V"⟩ ∈ aW := aw_of (tb_11 (List.mem_of_getElem? (i := 55) rfl)) rfl
theorem w1078 : Cond.code ⟨"SeriesVaultModel", "keepTable", "()V"⟩ prog_14_method_90_code 5 none ∈ aW := aw_of (tb_11 (List.mem_of_getElem? (i := 58) rfl)) rfl
theorem w1079 : Cond.instanceMethod ⟨"SeriesVaultModel", "keepTable", "()V"⟩ ∈ aW := aw_of (tb_11 (List.mem_of_getElem? (i := 57) rfl)) rfl
theorem w1080 : Cond.selects "SeriesVaultModel" ⟨"SeriesVaultModel", "keepTable", "()V"⟩ ⟨"SeriesVaultModel", "keepTable", "()V"⟩ ∈ aW := aw_pr (List.mem_map.mpr ⟨_, pv_8 (List.mem_of_getElem? (i := 14) rfl), rfl⟩) rfl
set_option maxHeartbeats 4000000 in
set_option maxRecDepth 100000 in
theorem k_ask (l : Launch) (D : va_G) (dA : Nat → ClassId) (sz : Nat) (h : Nat) (ad : Nat → Nat) (x : MS) (a : Int64) (b : Int64) (n : Nat) (ho : x.on = true) (ha0 : 0 ≤ a) (ha1 : a ≤ 1099511627775) (hb0 : 1 ≤ b) (hb1 : b ≤ 1099511627775) (hn1 : 1 ≤ n) (hn2 : n ≤ 64) (haw : x.aW) : Met l ⟨"SeriesVaultModel", "ask", "(JJI)I"⟩ [Cond.code ⟨"SeriesVaultModel", "ask", "(JJI)I"⟩ prog_14_method_91_code 7 (some FieldType.int)] { frames := 9, cells := 0, slots := 0, locals := 197 } (pC D dA [.ref h, .long a, .long b, .int (nI n)] (MW dA h ad x) sz) (va_Qi (fun (r9 : Int32) (u9 : MS) => r9 = (x.asF a b n).1 ∧ u9 = (x.asF a b n).2) (fun (u9 : MS) t9 => bW D (va_A (MW dA h ad x) sz) (MW dA h ad u9) t9) (va_A (MW dA h ad x) sz)) 0 0 (va_A (MW dA h ad x) sz) := by
  refine mkC (y := ⟨"SeriesVaultModel", "ask", "(JJI)I"⟩) (cc := prog_14_method_91_code) (maxL := 7) (av := [.ref h, .long a, .long b, .int (nI n)]) (ws := MW dA h ad x) (sz := sz) (Qc := fun A => va_Qi (fun (r9 : Int32) (u9 : MS) => r9 = (x.asF a b n).1 ∧ u9 = (x.asF a b n).2) (fun (u9 : MS) t9 => bW D A (MW dA h ad u9) t9) A) (by decide) (Nat.le_of_ble_eq_true rfl) ?_
  intro A p e s m below meth c ls hsz hB
  obtain ⟨hx, hb, hr, hml, hown, hin, hlk, hE, hK, hP, hD, hS, hA, hN, hl⟩ := hB
  have hown : s.vm.findClass "SeriesVaultModel" = some m.cls := hown
  have hl : lv_has ls 7 [(0, .ref h), (1, .long a), (3, .long b), (5, .int (nI n))] := hl
  obtain ⟨H, hH⟩ : ∃ z, z = s.heap := ⟨_, rfl⟩
  have hP : va_P D vwCl (MW dA h ad x) H := by rw [hH]; exact hP
  have hS : va_S A s.heap H [] := by rw [hH]; exact hS
  rw [← hH]
  refine lv_aload_n hx hb d_M_ask_0 rfl (lv_at hl 0 rfl) ?_
  refine lv_aload_n hx hb d_M_ask_1 rfl (lv_at hl 0 rfl) ?_
  refine gF (v := .int (bI x.on)) hx hb hown hE hK hP 0 rfl rfl layM 7 (by decide) w324 rfl d_M_ask_2 ?_
  refine lv_if_ne hx hb d_M_ask_5 (tgt := 12) rfl (fun _ => ?_) (fun h9 => absurd h9 (by rw [ho]; decide))
  refine lv_lload_n hx hb d_M_ask_12 rfl (lv_at hl 1 rfl) ?_
  refine lv_lconst (v := 0) hx hb d_M_ask_13 (by decide) ?_
  refine W.lcmp hx hb d_M_ask_14 ?_
  refine lv_if_lt hx hb d_M_ask_15 (tgt := 53) rfl (fun h9 => absurd h9 (mt (lg_cmp_lt _ _).mp (Int64.not_lt.mpr ha0))) (fun _ => ?_)
  refine lv_lload_n hx hb d_M_ask_18 rfl (lv_at hl 1 rfl) ?_
  refine lv_ldc2 (v := 1099511627775) hx hb hown (hE.t w450 rfl) d_M_ask_19 ?_
  refine W.lcmp hx hb d_M_ask_22 ?_
  refine lv_if_gt hx hb d_M_ask_23 (tgt := 53) rfl (fun h9 => absurd h9 (mt (lg_cmp_gt _ _).mp (Int64.not_lt.mpr ha1))) (fun _ => ?_)
  refine lv_lload_n hx hb d_M_ask_26 rfl (lv_at hl 2 rfl) ?_
  refine lv_lconst (v := 1) hx hb d_M_ask_27 (by decide) ?_
  refine W.lcmp hx hb d_M_ask_28 ?_
  refine lv_if_lt hx hb d_M_ask_29 (tgt := 53) rfl (fun h9 => absurd h9 (mt (lg_cmp_lt _ _).mp (Int64.not_lt.mpr hb0))) (fun _ => ?_)
  refine lv_lload_n hx hb d_M_ask_32 rfl (lv_at hl 2 rfl) ?_
  refine lv_ldc2 (v := 1099511627775) hx hb hown (hE.t w450 rfl) d_M_ask_33 ?_
  refine W.lcmp hx hb d_M_ask_36 ?_
  refine lv_if_gt hx hb d_M_ask_37 (tgt := 53) rfl (fun h9 => absurd h9 (mt (lg_cmp_gt _ _).mp (Int64.not_lt.mpr hb1))) (fun _ => ?_)
  refine lv_iload hx hb d_M_ask_40 (lv_at hl 3 rfl) ?_
  refine lv_iconst (v := 1) hx hb d_M_ask_42 (by decide) ?_
  refine lv_icmp_lt hx hb d_M_ask_43 (tgt := 53) rfl (fun h9 => absurd h9 (mt (nI_ltI (a := n) (b := 1) (by omega) (by omega)).mp (Nat.not_lt.mpr hn1))) (fun _ => ?_)
  refine lv_iload hx hb d_M_ask_46 (lv_at hl 3 rfl) ?_
  refine lv_bipush (v := 64) hx hb d_M_ask_48 (by decide) ?_
  refine lv_icmp_le hx hb d_M_ask_50 (tgt := 57) rfl (fun _ => ?_) (fun h9 => absurd ((nI_leI (a := n) (b := 64) (by omega) (by omega)).mpr hn2) h9)
  refine lv_iconst (v := 0) hx hb d_M_ask_57 (by decide) ?_
  refine pF (v := .int 0) hx hb hown hE hK hP hD hS 0 rfl rfl layM tyM tokM nmM 0 (by decide) w319 rfl rfl rfl (Nat.le_of_ble_eq_true rfl) d_M_ask_58 (fun H locs hP hD hS => ?_)
  have hP : va_P D vwCl (MW dA h ad (MS.s_cod x 0)) H := hP
  have hD : va_D A (MW dA h ad (MS.s_cod x 0)) := hD
  refine lv_aload_n hx hb d_M_ask_61 rfl (lv_at hl 0 rfl) ?_
  refine gF (v := .int 0) hx hb hown hE hK hP 0 rfl rfl layM 0 (by decide) w319 rfl d_M_ask_62 ?_
  refine lv_if_le hx hb d_M_ask_65 (tgt := 70) rfl (fun _ => ?_) (fun h9 => absurd (by decide) h9)
  refine lv_aload_n hx hb d_M_ask_70 rfl (lv_at hl 0 rfl) ?_
  refine lv_iconst (v := 0) hx hb d_M_ask_71 (by decide) ?_
  refine pF (v := .int 0) hx hb hown hE hK hP hD hS 0 rfl rfl layM tyM tokM nmM 3 (by decide) w321 rfl rfl rfl (Nat.le_of_ble_eq_true rfl) d_M_ask_72 (fun H locs hP hD hS => ?_)
  have hP : va_P D vwCl (MW dA h ad (MS.s_faultCode (MS.s_cod x 0) 0)) H := hP
  have hD : va_D A (MW dA h ad (MS.s_faultCode (MS.s_cod x 0) 0)) := hD
  refine lv_aload_n hx hb d_M_ask_75 rfl (lv_at hl 0 rfl) ?_
  refine lv_iconst (v := 0) hx hb d_M_ask_76 (by decide) ?_
  refine pF (v := .int 0) hx hb hown hE hK hP hD hS 0 rfl rfl layM tyM tokM nmM 4 (by decide) w322 rfl rfl rfl (Nat.le_of_ble_eq_true rfl) d_M_ask_77 (fun H locs hP hD hS => ?_)
  have hP : va_P D vwCl (MW dA h ad (MS.s_faultPlace (MS.s_faultCode (MS.s_cod x 0) 0) 0)) H := hP
  have hD : va_D A (MW dA h ad (MS.s_faultPlace (MS.s_faultCode (MS.s_cod x 0) 0) 0)) := hD
  refine lv_aload_n hx hb d_M_ask_80 rfl (lv_at hl 0 rfl) ?_
  refine lv_lload_n hx hb d_M_ask_81 rfl (lv_at hl 1 rfl) ?_
  refine pF (v := .long a) hx hb hown hE hK hP hD hS 0 rfl rfl layM tyM tokM nmM 57 (by decide) w487 rfl rfl rfl (Nat.le_of_ble_eq_true rfl) d_M_ask_82 (fun H locs hP hD hS => ?_)
  have hP : va_P D vwCl (MW dA h ad (MS.s_windowsFrom (MS.s_faultPlace (MS.s_faultCode (MS.s_cod x 0) 0) 0) a)) H := hP
  have hD : va_D A (MW dA h ad (MS.s_windowsFrom (MS.s_faultPlace (MS.s_faultCode (MS.s_cod x 0) 0) 0) a)) := hD
  refine lv_aload_n hx hb d_M_ask_85 rfl (lv_at hl 0 rfl) ?_
  refine lv_lload_n hx hb d_M_ask_86 rfl (lv_at hl 2 rfl) ?_
  refine pF (v := .long b) hx hb hown hE hK hP hD hS 0 rfl rfl layM tyM tokM nmM 58 (by decide) w488 rfl rfl rfl (Nat.le_of_ble_eq_true rfl) d_M_ask_87 (fun H locs hP hD hS => ?_)
  have hP : va_P D vwCl (MW dA h ad (MS.s_width (MS.s_windowsFrom (MS.s_faultPlace (MS.s_faultCode (MS.s_cod x 0) 0) 0) a) b)) H := hP
  have hD : va_D A (MW dA h ad (MS.s_width (MS.s_windowsFrom (MS.s_faultPlace (MS.s_faultCode (MS.s_cod x 0) 0) 0) a) b)) := hD
  refine lv_aload_n hx hb d_M_ask_90 rfl (lv_at hl 0 rfl) ?_
  refine lv_iload hx hb d_M_ask_91 (lv_at hl 3 rfl) ?_
  refine pF (v := .int (nI n)) hx hb hown hE hK hP hD hS 0 rfl rfl layM tyM tokM nmM 59 (by decide) w489 rfl rfl rfl (Nat.le_of_ble_eq_true rfl) d_M_ask_93 (fun H locs hP hD hS => ?_)
  have hP : va_P D vwCl (MW dA h ad (MS.s_windows (MS.s_width (MS.s_windowsFrom (MS.s_faultPlace (MS.s_faultCode (MS.s_cod x 0) 0) 0) a) b) n)) H := hP
  have hD : va_D A (MW dA h ad (MS.s_windows (MS.s_width (MS.s_windowsFrom (MS.s_faultPlace (MS.s_faultCode (MS.s_cod x 0) 0) 0) a) b) n)) := hD
  refine lv_aload_n hx hb d_M_ask_96 rfl (lv_at hl 0 rfl) ?_
  refine lv_iconst (v := 0) hx hb d_M_ask_97 (by decide) ?_
  refine pF (v := .int (bI false)) hx hb hown hE hK hP hD hS 0 rfl rfl layM tyM tokM nmM 71 (by decide) w326 rfl (bI_nar false) (bI_fit false) (Nat.le_of_ble_eq_true rfl) d_M_ask_98 (fun H locs hP hD hS => ?_)
  have hP : va_P D vwCl (MW dA h ad (MS.s_isTable (MS.s_windows (MS.s_width (MS.s_windowsFrom (MS.s_faultPlace (MS.s_faultCode (MS.s_cod x 0) 0) 0) a) b) n) false)) H := hP
  have hD : va_D A (MW dA h ad (MS.s_isTable (MS.s_windows (MS.s_width (MS.s_windowsFrom (MS.s_faultPlace (MS.s_faultCode (MS.s_cod x 0) 0) 0) a) b) n) false)) := hD
  refine lv_aload_n hx hb d_M_ask_101 rfl (lv_at hl 0 rfl) ?_
  refine lv_iconst (v := 0) hx hb d_M_ask_102 (by decide) ?_
  refine jfI (rnV (As := [.int 0]) (rest := []) hx hb hml hown hE hK (hN _ _ hS) hP hD (k_question l D dA H.size h ad (MS.s_isTable (MS.s_windows (MS.s_width (MS.s_windowsFrom (MS.s_faultPlace (MS.s_faultCode (MS.s_cod x 0) 0) 0) a) b) n) false) false (as_1 haw)) (q0 := 0) rfl rfl w491 w490 w492 w493 w328 rfl rfl ⟨⟨by decide, by decide⟩, rfl⟩ ⟨(Nat.le_of_ble_eq_true rfl), (Nat.le_of_ble_eq_true rfl)⟩ rfl hl.1 rfl (Nat.le_of_ble_eq_true rfl) d_M_ask_103 ⟨(Nat.le_of_ble_eq_true rfl), (Nat.le_of_ble_eq_true rfl)⟩) hP hD hS hA (fun r1 u2 H locs hp9 hP hD hS => ?_)
  obtain ⟨y3, h9u⟩ : ∃ z9, z9 = u2 := ⟨_, rfl⟩
  subst h9u
  have hP : va_P D vwCl (MW dA h ad y3) H := hP
  have hD : va_D A (MW dA h ad y3) := hD
  obtain ⟨hp9, f_e_4⟩ := hp9
  replace hp9 : bI ((MS.s_isTable (MS.s_windows (MS.s_width (MS.s_windowsFrom (MS.s_faultPlace (MS.s_faultCode (MS.s_cod x 0) 0) 0) a) b) n) false).quF false).1 = r1 := Eq.symm hp9
  subst hp9
  refine lv_if_eq hx hb d_M_ask_106 (tgt := 121) rfl (fun g5 => ?_) (fun g5 => ?_)
  · have g5 := bI_0 g5
    refine lv_iconst (v := 0) hx hb d_M_ask_121 (by decide) ?_
    refine lv_istore hx hb d_M_ask_122 hl (by decide) rfl (fun ls hl => ?_)
    have hl : lv_has ls 7 [(6, .int 0), (0, .ref h), (1, .long a), (3, .long b), (5, .int (nI n))] := hl
    refine lv_iload hx hb d_M_ask_124 (lv_at hl 0 rfl) ?_
    refine lv_if_eq hx hb d_M_ask_126 (tgt := 133) rfl (fun _ => ?_) (fun h9 => absurd (by decide) h9)
    refine lv_aload_n hx hb d_M_ask_133 rfl (lv_at hl 1 rfl) ?_
    refine lv_iconst (v := 0) hx hb d_M_ask_134 (by decide) ?_
    refine pF (v := .int (nI 0)) hx hb hown hE hK hP hD hS 0 rfl rfl layM tyM tokM nmM 2 (by decide) w320 rfl rfl rfl (Nat.le_of_ble_eq_true rfl) d_M_ask_135 (fun H locs hP hD hS => ?_)
    have hP : va_P D vwCl (MW dA h ad (MS.s_length y3 0)) H := hP
    have hD : va_D A (MW dA h ad (MS.s_length y3 0)) := hD
    refine lv_iload hx hb d_M_ask_138 (lv_at hl 0 rfl) ?_
    refine lv_if_eq hx hb d_M_ask_140 (tgt := 150) rfl (fun _ => ?_) (fun h9 => absurd (by decide) h9)
    refine lv_iconst (v := (-1)) hx hb d_M_ask_150 (by decide) ?_
    exact rfI hx hb hr hlk hS (MS.s_length y3 0) (by have e9 : x.asF a b n = (-1, MS.s_length ((x.as0 a b n).quF false).2 0) := if_neg (by rw [show ((x.as0 a b n).quF false).1 = false from g5]; decide); rw [e9]; exact ⟨rfl, by rw [f_e_4]; rfl⟩) hP hD (Nat.le_of_ble_eq_true rfl) (Nat.le_of_ble_eq_true rfl) d_M_ask_151
  · have g5 := bI_n0 g5
    have hq1 : (x.as0 a b n).quF false = (true, y3) := Prod.ext g5 f_e_4.symm
    have w2 := as_2 haw hb0 hn2 hq1
    have bt : byteF y3.texts := by rw [qk_f (qu_in (as_1 haw) hq1).2.1 MS.texts rfl]; exact haw.2.2.2.2.2.2.2.2
    refine lv_aload_n hx hb d_M_ask_109 rfl (lv_at hl 0 rfl) ?_
    refine lv_iconst (v := 1) hx hb d_M_ask_110 (by decide) ?_
    refine jfI (rnV (As := [.int 1]) (rest := []) hx hb hml hown hE hK (hN _ _ hS) hP hD (k_question l D dA H.size h ad y3 true w2) (q0 := 0) rfl rfl w491 w490 w492 w493 w328 rfl rfl ⟨⟨by decide, by decide⟩, rfl⟩ ⟨(Nat.le_of_ble_eq_true rfl), (Nat.le_of_ble_eq_true rfl)⟩ rfl hl.1 rfl (Nat.le_of_ble_eq_true rfl) d_M_ask_111 ⟨(Nat.le_of_ble_eq_true rfl), (Nat.le_of_ble_eq_true rfl)⟩) hP hD hS hA (fun r6 u7 H locs hp9 hP hD hS => ?_)
    obtain ⟨y8, h9u⟩ : ∃ z9, z9 = u7 := ⟨_, rfl⟩
    subst h9u
    have hP : va_P D vwCl (MW dA h ad y8) H := hP
    have hD : va_D A (MW dA h ad y8) := hD
    obtain ⟨hp9, f_e_9⟩ := hp9
    replace hp9 : bI (y3.quF true).1 = r6 := Eq.symm hp9
    subst hp9
    refine lv_if_eq hx hb d_M_ask_114 (tgt := 121) rfl (fun g10 => ?_) (fun g10 => ?_)
    · have g10 := bI_0 g10
      refine lv_iconst (v := 0) hx hb d_M_ask_121 (by decide) ?_
      refine lv_istore hx hb d_M_ask_122 hl (by decide) rfl (fun ls hl => ?_)
      have hl : lv_has ls 7 [(6, .int 0), (0, .ref h), (1, .long a), (3, .long b), (5, .int (nI n))] := hl
      refine lv_iload hx hb d_M_ask_124 (lv_at hl 0 rfl) ?_
      refine lv_if_eq hx hb d_M_ask_126 (tgt := 133) rfl (fun _ => ?_) (fun h9 => absurd (by decide) h9)
      refine lv_aload_n hx hb d_M_ask_133 rfl (lv_at hl 1 rfl) ?_
      refine lv_iconst (v := 0) hx hb d_M_ask_134 (by decide) ?_
      refine pF (v := .int (nI 0)) hx hb hown hE hK hP hD hS 0 rfl rfl layM tyM tokM nmM 2 (by decide) w320 rfl rfl rfl (Nat.le_of_ble_eq_true rfl) d_M_ask_135 (fun H locs hP hD hS => ?_)
      have hP : va_P D vwCl (MW dA h ad (MS.s_length y8 0)) H := hP
      have hD : va_D A (MW dA h ad (MS.s_length y8 0)) := hD
      refine lv_iload hx hb d_M_ask_138 (lv_at hl 0 rfl) ?_
      refine lv_if_eq hx hb d_M_ask_140 (tgt := 150) rfl (fun _ => ?_) (fun h9 => absurd (by decide) h9)
      refine lv_iconst (v := (-1)) hx hb d_M_ask_150 (by decide) ?_
      exact rfI hx hb hr hlk hS (MS.s_length y8 0) (by have e9 : x.asF a b n = MS.as2 (y3.quF true) := (if_pos g5).trans (by rw [show ((x.as0 a b n).quF false).2 = y3 from f_e_4.symm]); have e8 : MS.as2 (y3.quF true) = (-1, MS.s_length y8 0) := (if_neg (by rw [g10]; decide)).trans (by rw [← f_e_9]); rw [e9, e8]; exact ⟨rfl, rfl⟩) hP hD (Nat.le_of_ble_eq_true rfl) (Nat.le_of_ble_eq_true rfl) d_M_ask_151
    · have g10 := bI_n0 g10
      refine lv_iconst (v := 1) hx hb d_M_ask_117 (by decide) ?_
      refine lv_goto hx hb d_M_ask_118 (tgt := 122) rfl ?_
      refine lv_istore hx hb d_M_ask_122 hl (by decide) rfl (fun ls hl => ?_)
      have hl : lv_has ls 7 [(6, .int 1), (0, .ref h), (1, .long a), (3, .long b), (5, .int (nI n))] := hl
      refine lv_iload hx hb d_M_ask_124 (lv_at hl 0 rfl) ?_
      refine lv_if_eq hx hb d_M_ask_126 (tgt := 133) rfl (fun h9 => absurd h9 (by decide)) (fun _ => ?_)
      obtain ⟨t1, t2, t3, t4, t5, t6⟩ := as_3 w2 bt (show y3.quF true = (true, y8) from Prod.ext g10 f_e_9.symm)
      obtain ⟨rl9, rt9, v9, hkt⟩ : ∃ z1 z2 z3, y8.ktR (y8.tableRows 0) = (z1, z2, z3) := ⟨_, _, _, rfl⟩
      refine lv_aload_n hx hb d_M_ask_129 rfl (lv_at hl 1 rfl) ?_
      refine jfV (rnV (As := []) (rest := []) hx hb hml hown hE hK (hN _ _ hS) hP hD (k_keepTable l D dA H.size h ad y8 rl9 rt9 v9 t1 t2 t3 t4 t5 t6 hkt) (q0 := 0) rfl rfl w1078 w1077 w1079 w1080 w328 rfl rfl ⟨⟨by decide, by decide⟩, rfl⟩ ⟨(Nat.le_of_ble_eq_true rfl), (Nat.le_of_ble_eq_true rfl)⟩ rfl hl.1 rfl (Nat.le_of_ble_eq_true rfl) d_M_ask_130 ⟨(Nat.le_of_ble_eq_true rfl), (Nat.le_of_ble_eq_true rfl)⟩) hP hD hS hA (fun u12 H locs hp9 hP hD hS => ?_)
      have hP : va_P D vwCl (MW dA h ad (MS.s_isShown (MS.s_shown (MS.s_rowLengths (MS.s_rowTexts (MS.s_shownWindows (MS.s_rows (MS.s_names (MS.s_isTable (MS.s_valueLength y8 v9) true) (y8.tableNames 0)) (y8.tableRows 0)) y8.windows) rt9) rl9) (shG y8.cells y8.shown y8.windows (y8.tableRows 0))) (shG y8.isCell y8.isShown y8.windows (y8.tableRows 0)))) H := hP
      have hD : va_D A (MW dA h ad (MS.s_isShown (MS.s_shown (MS.s_rowLengths (MS.s_rowTexts (MS.s_shownWindows (MS.s_rows (MS.s_names (MS.s_isTable (MS.s_valueLength y8 v9) true) (y8.tableNames 0)) (y8.tableRows 0)) y8.windows) rt9) rl9) (shG y8.cells y8.shown y8.windows (y8.tableRows 0))) (shG y8.isCell y8.isShown y8.windows (y8.tableRows 0)))) := hD
      refine lv_aload_n hx hb d_M_ask_133 rfl (lv_at hl 1 rfl) ?_
      refine lv_iconst (v := 0) hx hb d_M_ask_134 (by decide) ?_
      refine pF (v := .int (nI 0)) hx hb hown hE hK hP hD hS 0 rfl rfl layM tyM tokM nmM 2 (by decide) w320 rfl rfl rfl (Nat.le_of_ble_eq_true rfl) d_M_ask_135 (fun H locs hP hD hS => ?_)
      have hP : va_P D vwCl (MW dA h ad (MS.s_isShown (MS.s_shown (MS.s_rowLengths (MS.s_rowTexts (MS.s_shownWindows (MS.s_rows (MS.s_names (MS.s_isTable (MS.s_valueLength (MS.s_length y8 0) v9) true) (y8.tableNames 0)) (y8.tableRows 0)) y8.windows) rt9) rl9) (shG y8.cells y8.shown y8.windows (y8.tableRows 0))) (shG y8.isCell y8.isShown y8.windows (y8.tableRows 0)))) H := hP
      have hD : va_D A (MW dA h ad (MS.s_isShown (MS.s_shown (MS.s_rowLengths (MS.s_rowTexts (MS.s_shownWindows (MS.s_rows (MS.s_names (MS.s_isTable (MS.s_valueLength (MS.s_length y8 0) v9) true) (y8.tableNames 0)) (y8.tableRows 0)) y8.windows) rt9) rl9) (shG y8.cells y8.shown y8.windows (y8.tableRows 0))) (shG y8.isCell y8.isShown y8.windows (y8.tableRows 0)))) := hD
      refine lv_iload hx hb d_M_ask_138 (lv_at hl 0 rfl) ?_
      refine lv_if_eq hx hb d_M_ask_140 (tgt := 150) rfl (fun h9 => absurd h9 (by decide)) (fun _ => ?_)
      refine lv_aload_n hx hb d_M_ask_143 rfl (lv_at hl 1 rfl) ?_
      refine gF (v := .int (nI (y8.tableRows 0))) hx hb hown hE hK hP 0 rfl rfl layM 73 (by decide) w951 rfl d_M_ask_144 ?_
      refine lv_goto hx hb d_M_ask_147 (tgt := 151) rfl ?_
      exact rfI hx hb hr hlk hS (MS.s_isShown (MS.s_shown (MS.s_rowLengths (MS.s_rowTexts (MS.s_shownWindows (MS.s_rows (MS.s_names (MS.s_isTable (MS.s_valueLength (MS.s_length y8 0) v9) true) (y8.tableNames 0)) (y8.tableRows 0)) y8.windows) rt9) rl9) (shG y8.cells y8.shown y8.windows (y8.tableRows 0))) (shG y8.isCell y8.isShown y8.windows (y8.tableRows 0))) (by have e9 : x.asF a b n = MS.as2 (y3.quF true) := (if_pos g5).trans (by rw [show ((x.as0 a b n).quF false).2 = y3 from f_e_4.symm]); have e8 : MS.as2 (y3.quF true) = (nI (y8.tableRows 0), MS.s_length y8.kpS 0) := (if_pos g10).trans (by rw [← f_e_9]); rw [e9, e8]; exact ⟨rfl, by unfold MS.kpS; rw [hkt]⟩) hP hD (Nat.le_of_ble_eq_true rfl) (Nat.le_of_ble_eq_true rfl) d_M_ask_151
